set_option maxRecDepth 20000 in
theorem mk_X8_39 : Cond.methodLink RX8 39 yX8_withLetter ∈ zWL := zw1 (List.mem_of_getElem? (i := 107) rfl) rfl
set_option maxRecDepth 20000 in
theorem mk_X9_37 : Cond.methodLink RX9 37 yX9_clear ∈ zWL := zw2 (List.mem_of_getElem? (i := 101) rfl) rfl
set_option maxRecDepth 20000 in
theorem mk_X9_52 : Cond.methodLink RX9 52 yX9_addStep ∈ zWL := zw2 (List.mem_of_getElem? (i := 107) rfl) rfl
set_option maxRecDepth 20000 in
theorem mk_L_13 : Cond.methodLink RL 13 yX10_feed ∈ zWL := zw2 (List.mem_of_getElem? (i := 223) rfl) rfl
set_option maxRecDepth 20000 in
theorem mk_X10_87 : Cond.methodLink RX10 87 yX7_append ∈ zWL := zw2 (List.mem_of_getElem? (i := 227) rfl) rfl
set_option maxRecDepth 20000 in
theorem mk_L_18 : Cond.methodLink RL 18 yX10_back ∈ zWL := zw2 (List.mem_of_getElem? (i := 231) rfl) rfl
set_option maxRecDepth 20000 in
theorem mk_L_23 : Cond.methodLink RL 23 yX10_read ∈ zWL := zw2 (List.mem_of_getElem? (i := 235) rfl) rfl
set_option maxRecDepth 20000 in
theorem mk_X10_95 : Cond.methodLink RX10 95 yX3_parse ∈ zWL := zw2 (List.mem_of_getElem? (i := 239) rfl) rfl
set_option maxRecDepth 20000 in
theorem mk_X3_55 : Cond.methodLink RX3 55 yX8_scan ∈ zWL := zw3 (List.mem_of_getElem? (i := 3) rfl) rfl
set_option maxRecDepth 20000 in
theorem mk_X8_45 : Cond.methodLink RX8 45 yX8_pastBlanks ∈ zWL := zw3 (List.mem_of_getElem? (i := 7) rfl) rfl
set_option maxRecDepth 20000 in
theorem mk_X8_49 : Cond.methodLink RX8 49 yX8_add ∈ zWL := zw3 (List.mem_of_getElem? (i := 10) rfl) rfl
set_option maxRecDepth 20000 in
theorem mk_X8_53 : Cond.methodLink RX8 53 yX8_isLetter ∈ zWL := zw3 (List.mem_of_getElem? (i := 14) rfl) rfl
set_option maxRecDepth 20000 in
theorem mk_X8_57 : Cond.methodLink RX8 57 yX8_addLetters ∈ zWL := zw3 (List.mem_of_getElem? (i := 17) rfl) rfl
set_option maxRecDepth 20000 in
theorem mk_X8_72 : Cond.methodLink RX8 72 yX8_kindOf ∈ zWL := zw3 (List.mem_of_getElem? (i := 21) rfl) rfl
set_option maxRecDepth 20000 in
theorem mk_X8_60 : Cond.methodLink RX8 60 yX8_isDigit ∈ zWL := zw3 (List.mem_of_getElem? (i := 25) rfl) rfl
set_option maxRecDepth 20000 in
theorem mk_X8_63 : Cond.methodLink RX8 63 yX8_addDigits ∈ zWL := zw3 (List.mem_of_getElem? (i := 28) rfl) rfl
set_option maxRecDepth 20000 in
theorem mk_X3_59 : Cond.methodLink RX3 59 yX9_clear ∈ zWL := zw3 (List.mem_of_getElem? (i := 92) rfl) rfl
set_option maxRecDepth 20000 in
theorem mk_X3_64 : Cond.methodLink RX3 64 yX3_goTo ∈ zWL := zw3 (List.mem_of_getElem? (i := 93) rfl) rfl
set_option maxRecDepth 20000 in
theorem mk_X3_68 : Cond.methodLink RX3 68 yX3_telling ∈ zWL := zw3 (List.mem_of_getElem? (i := 97) rfl) rfl
set_option maxRecDepth 20000 in
theorem mk_X3_74 : Cond.methodLink RX3 74 yX3_mouth ∈ zWL := zw3 (List.mem_of_getElem? (i := 101) rfl) rfl
set_option maxRecDepth 20000 in
theorem mk_X3_106 : Cond.methodLink RX3 106 yX3_fail ∈ zWL := zw3 (List.mem_of_getElem? (i := 105) rfl) rfl
set_option maxRecDepth 20000 in
theorem mk_X3_87 : Cond.methodLink RX3 87 yX3_take ∈ zWL := zw3 (List.mem_of_getElem? (i := 109) rfl) rfl
set_option maxRecDepth 20000 in
theorem mk_X3_109 : Cond.methodLink RX3 109 yX3_newName ∈ zWL := zw3 (List.mem_of_getElem? (i := 113) rfl) rfl
set_option maxRecDepth 20000 in
theorem mk_X3_125 : Cond.methodLink RX3 125 yX3_placeNamed ∈ zWL := zw3 (List.mem_of_getElem? (i := 117) rfl) rfl
set_option maxRecDepth 20000 in
theorem mk_X3_129 : Cond.methodLink RX3 129 yX3_failLate ∈ zWL := zw3 (List.mem_of_getElem? (i := 121) rfl) rfl
set_option maxRecDepth 20000 in
theorem mk_X3_117 : Cond.methodLink RX3 117 yX9_setPlace ∈ zWL := zw3 (List.mem_of_getElem? (i := 125) rfl) rfl
set_option maxRecDepth 20000 in
theorem mk_X3_77 : Cond.methodLink RX3 77 yX3_newPlace ∈ zWL := zw3 (List.mem_of_getElem? (i := 129) rfl) rfl
set_option maxRecDepth 20000 in
theorem mk_X3_121 : Cond.methodLink RX3 121 yX3_knownName ∈ zWL := zw3 (List.mem_of_getElem? (i := 133) rfl) rfl
set_option maxRecDepth 20000 in
theorem mk_X3_90 : Cond.methodLink RX3 90 yX3_number ∈ zWL := zw3 (List.mem_of_getElem? (i := 138) rfl) rfl
set_option maxRecDepth 20000 in
theorem mk_X3_80 : Cond.methodLinkNest RX3 80 yX10_isWithin "SourceDispute" ∈ tables_1 := (zt3 (List.mem_of_getElem? (i := 142) rfl))
set_option maxRecDepth 20000 in
theorem mk_X3_84 : Cond.methodLink RX3 84 yX3_law ∈ zWL := zw3 (List.mem_of_getElem? (i := 145) rfl) rfl
set_option maxRecDepth 20000 in
theorem mk_X3_140 : Cond.methodLink RX3 140 yX3_sum ∈ zWL := zw3 (List.mem_of_getElem? (i := 149) rfl) rfl
set_option maxRecDepth 20000 in
theorem mk_X3_156 : Cond.methodLink RX3 156 yX3_product ∈ zWL := zw3 (List.mem_of_getElem? (i := 153) rfl) rfl
set_option maxRecDepth 20000 in
theorem mk_X3_159 : Cond.methodLink RX3 159 yX3_unit ∈ zWL := zw3 (List.mem_of_getElem? (i := 157) rfl) rfl
set_option maxRecDepth 20000 in
theorem mk_X3_145 : Cond.methodLink RX3 145 yX9_addStep ∈ zWL := zw3 (List.mem_of_getElem? (i := 161) rfl) rfl
set_option maxRecDepth 20000 in
theorem mk_X3_149 : Cond.methodLink RX3 149 yX9_setValue ∈ zWL := zw3 (List.mem_of_getElem? (i := 162) rfl) rfl
set_option maxRecDepth 20000 in
theorem mk_X10_100 : Cond.methodLink RX10 100 yX10_beginAnew ∈ zWL := zw3 (List.mem_of_getElem? (i := 166) rfl) rfl
set_option maxRecDepth 20000 in
theorem mk_X10_103 : Cond.methodLink RX10 103 yX1_begin ∈ zWL := zw3 (List.mem_of_getElem? (i := 170) rfl) rfl
set_option maxRecDepth 20000 in
theorem mk_L_28 : Cond.methodLink RL 28 yX10_place ∈ zWL := zw3 (List.mem_of_getElem? (i := 180) rfl) rfl
set_option maxRecDepth 20000 in
theorem mk_L_32 : Cond.methodLink RL 32 yX10_spot ∈ zWL := zw3 (List.mem_of_getElem? (i := 184) rfl) rfl
set_option maxRecDepth 20000 in
theorem mk_X10_109 : Cond.methodLink RX10 109 yX10_isPlace ∈ zWL := zw3 (List.mem_of_getElem? (i := 188) rfl) rfl
set_option maxRecDepth 20000 in
theorem mk_X10_229 : Cond.methodLink RX10 229 yX10_isWithin ∈ zWL := zw3 (List.mem_of_getElem? (i := 192) rfl) rfl
set_option maxRecDepth 20000 in
theorem mk_X10_113 : Cond.methodLink RX10 113 yX10_look ∈ zWL := zw3 (List.mem_of_getElem? (i := 193) rfl) rfl
set_option maxRecDepth 20000 in
theorem mk_X10_271 : Cond.methodLink RX10 271 yX5_look ∈ zWL := zw3 (List.mem_of_getElem? (i := 197) rfl) rfl
set_option maxRecDepth 20000 in
theorem mk_X5_43 : Cond.methodLink RX5 43 yX5_form ∈ zWL := zw3 (List.mem_of_getElem? (i := 201) rfl) rfl
set_option maxRecDepth 20000 in
theorem mk_X5_51 : Cond.methodLink RX5 51 yX6_form ∈ zWL := zw3 (List.mem_of_getElem? (i := 205) rfl) rfl
set_option maxRecDepth 20000 in
theorem mk_X6_44 : Cond.methodLinkNest RX6 44 yX10_bit "SourceDispute" ∈ tables_1 := (zt3 (List.mem_of_getElem? (i := 210) rfl))
set_option maxRecDepth 20000 in
theorem mk_X6_53 : Cond.methodLink RX6 53 yX6_countAbove ∈ zWL := zw3 (List.mem_of_getElem? (i := 213) rfl) rfl
set_option maxRecDepth 20000 in
theorem mk_X5_47 : Cond.methodLink RX5 47 yX5_fall ∈ zWL := zw3 (List.mem_of_getElem? (i := 218) rfl) rfl
set_option maxRecDepth 20000 in
theorem mk_X5_52 : Cond.methodLink RX5 52 yX5_rainDown ∈ zWL := zw3 (List.mem_of_getElem? (i := 222) rfl) rfl
set_option maxRecDepth 20000 in
theorem mk_X5_69 : Cond.methodLink RX5 69 yX5_tells ∈ zWL := zw3 (List.mem_of_getElem? (i := 226) rfl) rfl
set_option maxRecDepth 20000 in
theorem mk_X5_108 : Cond.methodLink RX5 108 yX1_moon ∈ zWL := zw3 (List.mem_of_getElem? (i := 230) rfl) rfl
set_option maxRecDepth 20000 in
theorem mk_X5_121 : Cond.methodLink RX5 121 yX0_answer ∈ zWL := zw3 (List.mem_of_getElem? (i := 234) rfl) rfl
set_option maxRecDepth 20000 in
theorem mk_X5_73 : Cond.methodLinkNest RX5 73 yX10_held "SourceDispute" ∈ tables_1 := (zt3 (List.mem_of_getElem? (i := 238) rfl))
set_option maxRecDepth 20000 in
theorem mk_X5_61 : Cond.methodLink RX5 61 yX5_run ∈ zWL := zw4 (List.mem_of_getElem? (i := 3) rfl) rfl
set_option maxRecDepth 20000 in
theorem mk_X5_85 : Cond.methodLinkNest RX5 85 yX10_has "SourceDispute" ∈ tables_1 := (zt4 (List.mem_of_getElem? (i := 8) rfl))
set_option maxRecDepth 20000 in
theorem mk_X10_216 : Cond.methodLink RX10 216 yX10_bit ∈ zWL := zw4 (List.mem_of_getElem? (i := 11) rfl) rfl
set_option maxRecDepth 20000 in
theorem mk_X5_92 : Cond.methodLink RX5 92 yX5_dried ∈ zWL := zw4 (List.mem_of_getElem? (i := 12) rfl) rfl
set_option maxRecDepth 20000 in
theorem mk_X10_131 : Cond.methodLink RX10 131 yX10_has ∈ zWL := zw4 (List.mem_of_getElem? (i := 16) rfl) rfl
set_option maxRecDepth 20000 in
theorem mk_X10_146 : Cond.methodLink RX10 146 yX6_isSource ∈ zWL := zw4 (List.mem_of_getElem? (i := 17) rfl) rfl
set_option maxRecDepth 20000 in
theorem mk_X10_158 : Cond.methodLink RX10 158 yX5_dried ∈ zWL := zw4 (List.mem_of_getElem? (i := 21) rfl) rfl
set_option maxRecDepth 20000 in
theorem mk_L_37 : Cond.methodLink RL 37 yX10_claim ∈ zWL := zw4 (List.mem_of_getElem? (i := 22) rfl) rfl
set_option maxRecDepth 20000 in
theorem mk_X10_162 : Cond.methodLink RX10 162 yX10_isContest ∈ zWL := zw4 (List.mem_of_getElem? (i := 26) rfl) rfl
set_option maxRecDepth 20000 in
theorem mk_X10_169 : Cond.methodLink RX10 169 yX10_isLaw ∈ zWL := zw4 (List.mem_of_getElem? (i := 30) rfl) rfl
set_option maxRecDepth 20000 in
theorem mk_X10_165 : Cond.methodLink RX10 165 yX5_claimOf ∈ zWL := zw4 (List.mem_of_getElem? (i := 34) rfl) rfl
set_option maxRecDepth 20000 in
theorem mk_L_41 : Cond.methodLink RL 41 yX10_winner ∈ zWL := zw4 (List.mem_of_getElem? (i := 39) rfl) rfl
set_option maxRecDepth 20000 in
theorem mk_X10_172 : Cond.methodLink RX10 172 yX5_winnerBy ∈ zWL := zw4 (List.mem_of_getElem? (i := 43) rfl) rfl
set_option maxRecDepth 20000 in
theorem mk_X5_134 : Cond.methodLink RX5 134 yX5_weigh ∈ zWL := zw4 (List.mem_of_getElem? (i := 47) rfl) rfl
set_option maxRecDepth 20000 in
theorem mk_X5_126 : Cond.methodLink RX5 126 yX6_isSource ∈ zWL := zw4 (List.mem_of_getElem? (i := 51) rfl) rfl
set_option maxRecDepth 20000 in
theorem mk_X5_130 : Cond.methodLink RX5 130 yX5_claimOf ∈ zWL := zw4 (List.mem_of_getElem? (i := 52) rfl) rfl
set_option maxRecDepth 20000 in
theorem mk_X5_137 : Cond.methodLink RX5 137 yX5_greatestClaim ∈ zWL := zw4 (List.mem_of_getElem? (i := 53) rfl) rfl
set_option maxRecDepth 20000 in
theorem mk_L_191 : Cond.methodLink RL 191 yX10_count ∈ zWL := zw4 (List.mem_of_getElem? (i := 57) rfl) rfl
set_option maxRecDepth 20000 in
theorem mk_X10_181 : Cond.methodLink RX10 181 yX1_moon ∈ zWL := zw4 (List.mem_of_getElem? (i := 61) rfl) rfl
set_option maxRecDepth 20000 in
theorem mk_X10_188 : Cond.methodLink RX10 188 yX6_sources ∈ zWL := zw4 (List.mem_of_getElem? (i := 62) rfl) rfl
set_option maxRecDepth 20000 in
theorem mk_X10_191 : Cond.methodLink RX10 191 yX10_mouthFlow ∈ zWL := zw4 (List.mem_of_getElem? (i := 66) rfl) rfl
set_option maxRecDepth 20000 in
theorem mk_X10_277 : Cond.methodLink RX10 277 yX10_hasMouth ∈ zWL := zw4 (List.mem_of_getElem? (i := 70) rfl) rfl
set_option maxRecDepth 20000 in
theorem mk_X10_194 : Cond.methodLink RX10 194 yX10_sumOf ∈ zWL := zw4 (List.mem_of_getElem? (i := 74) rfl) rfl
set_option maxRecDepth 20000 in
theorem mk_X10_206 : Cond.methodLink RX10 206 yX9_isStorm ∈ zWL := zw4 (List.mem_of_getElem? (i := 84) rfl) rfl
set_option maxRecDepth 20000 in
theorem mk_X9_68 : Cond.methodLink RX9 68 yX9_lot ∈ zWL := zw4 (List.mem_of_getElem? (i := 88) rfl) rfl
set_option maxRecDepth 20000 in
theorem mk_X9_72 : Cond.methodLink RX9 72 yX9_stirred ∈ zWL := zw4 (List.mem_of_getElem? (i := 91) rfl) rfl
set_option maxRecDepth 20000 in
theorem mk_X10_209 : Cond.methodLink RX10 209 yX10_turnedPlaces ∈ zWL := zw4 (List.mem_of_getElem? (i := 96) rfl) rfl
set_option maxRecDepth 20000 in
theorem mk_X10_212 : Cond.methodLink RX10 212 yX6_greatestFar ∈ zWL := zw4 (List.mem_of_getElem? (i := 100) rfl) rfl
set_option maxRecDepth 20000 in
theorem mk_L_45 : Cond.methodLink RL 45 yX10_dam ∈ zWL := zw4 (List.mem_of_getElem? (i := 105) rfl) rfl
set_option maxRecDepth 20000 in
theorem mk_X10_219 : Cond.methodLink RX10 219 yX4_push ∈ zWL := zw4 (List.mem_of_getElem? (i := 109) rfl) rfl
set_option maxRecDepth 20000 in
theorem mk_X4_23 : Cond.methodLink RX4 23 yX1_copy ∈ zWL := zw4 (List.mem_of_getElem? (i := 113) rfl) rfl
set_option maxRecDepth 20000 in
theorem mk_L_50 : Cond.methodLink RL 50 yX10_turn ∈ zWL := zw4 (List.mem_of_getElem? (i := 118) rfl) rfl
set_option maxRecDepth 20000 in
theorem mk_X10_223 : Cond.methodLink RX10 223 yX10_isTurn ∈ zWL := zw4 (List.mem_of_getElem? (i := 122) rfl) rfl
set_option maxRecDepth 20000 in
theorem mk_X10_226 : Cond.methodLink RX10 226 yX1_comesBy ∈ zWL := zw4 (List.mem_of_getElem? (i := 126) rfl) rfl
set_option maxRecDepth 20000 in
theorem mk_L_55 : Cond.methodLink RL 55 yX10_rule ∈ zWL := zw4 (List.mem_of_getElem? (i := 130) rfl) rfl
set_option maxRecDepth 20000 in
theorem mk_L_60 : Cond.methodLink RL 60 yX10_months ∈ zWL := zw4 (List.mem_of_getElem? (i := 134) rfl) rfl
set_option maxRecDepth 20000 in
theorem mk_X10_233 : Cond.methodLink RX10 233 yX5_goThrough ∈ zWL := zw4 (List.mem_of_getElem? (i := 138) rfl) rfl
set_option maxRecDepth 20000 in
theorem mk_X5_159 : Cond.methodLink RX5 159 yX9_isStorm ∈ zWL := zw4 (List.mem_of_getElem? (i := 142) rfl) rfl
set_option maxRecDepth 20000 in
theorem mk_X5_156 : Cond.methodLink RX5 156 yX5_endMonth ∈ zWL := zw4 (List.mem_of_getElem? (i := 143) rfl) rfl
set_option maxRecDepth 20000 in
theorem mk_X5_143 : Cond.methodLink RX5 143 yX5_winnerBy ∈ zWL := zw4 (List.mem_of_getElem? (i := 147) rfl) rfl
set_option maxRecDepth 20000 in
theorem mk_X5_149 : Cond.methodLink RX5 149 yX1_pay ∈ zWL := zw4 (List.mem_of_getElem? (i := 148) rfl) rfl
set_option maxRecDepth 20000 in
theorem mk_L_64 : Cond.methodLink RL 64 yX10_undo ∈ zWL := zw4 (List.mem_of_getElem? (i := 153) rfl) rfl
set_option maxRecDepth 20000 in
theorem mk_X10_237 : Cond.methodLink RX10 237 yX4_pop ∈ zWL := zw4 (List.mem_of_getElem? (i := 157) rfl) rfl
set_option maxRecDepth 20000 in
theorem mk_L_183 : Cond.methodLink RL 183 yX10_hold ∈ zWL := zw4 (List.mem_of_getElem? (i := 161) rfl) rfl
set_option maxRecDepth 20000 in
theorem mk_X10_241 : Cond.methodLink RX10 241 yX1_copy ∈ zWL := zw4 (List.mem_of_getElem? (i := 165) rfl) rfl
set_option maxRecDepth 20000 in
theorem mk_L_187 : Cond.methodLink RL 187 yX10_restore ∈ zWL := zw4 (List.mem_of_getElem? (i := 166) rfl) rfl
set_option maxRecDepth 20000 in
theorem mk_L_73 : Cond.methodLink RL 73 yX10_behind ∈ zWL := zw4 (List.mem_of_getElem? (i := 170) rfl) rfl
set_option maxRecDepth 20000 in
theorem mk_L_77 : Cond.methodLink RL 77 yX10_margin ∈ zWL := zw4 (List.mem_of_getElem? (i := 174) rfl) rfl
set_option maxRecDepth 20000 in
theorem mk_X10_247 : Cond.methodLink RX10 247 yX5_weigh ∈ zWL := zw4 (List.mem_of_getElem? (i := 178) rfl) rfl
set_option maxRecDepth 20000 in
theorem mk_X10_250 : Cond.methodLink RX10 250 yX5_greatestClaim ∈ zWL := zw4 (List.mem_of_getElem? (i := 179) rfl) rfl
set_option maxRecDepth 20000 in
theorem mk_L_85 : Cond.methodLink RL 85 yX10_rank ∈ zWL := zw4 (List.mem_of_getElem? (i := 180) rfl) rfl
set_option maxRecDepth 20000 in
theorem mk_X10_253 : Cond.methodLink RX10 253 yX5_rankOf ∈ zWL := zw4 (List.mem_of_getElem? (i := 184) rfl) rfl
set_option maxRecDepth 20000 in
theorem mk_L_89 : Cond.methodLink RL 89 yX10_vote ∈ zWL := zw4 (List.mem_of_getElem? (i := 188) rfl) rfl
set_option maxRecDepth 20000 in
theorem mk_X10_256 : Cond.methodLink RX10 256 yX10_castVotes ∈ zWL := zw4 (List.mem_of_getElem? (i := 192) rfl) rfl
set_option maxRecDepth 20000 in
theorem mk_X10_259 : Cond.methodLink RX10 259 yX10_votesFor ∈ zWL := zw4 (List.mem_of_getElem? (i := 196) rfl) rfl
set_option maxRecDepth 20000 in
theorem mk_L_81 : Cond.methodLink RL 81 yX10_richest ∈ zWL := zw4 (List.mem_of_getElem? (i := 200) rfl) rfl
set_option maxRecDepth 20000 in
theorem mk_L_109 : Cond.methodLink RL 109 yX10_turnFor ∈ zWL := zw4 (List.mem_of_getElem? (i := 204) rfl) rfl
set_option maxRecDepth 20000 in
theorem mk_X10_267 : Cond.methodLink RX10 267 yX10_winsTurned ∈ zWL := zw4 (List.mem_of_getElem? (i := 208) rfl) rfl
set_option maxRecDepth 20000 in
theorem mk_L_113 : Cond.methodLink RL 113 yX10_damFor ∈ zWL := zw4 (List.mem_of_getElem? (i := 212) rfl) rfl
set_option maxRecDepth 20000 in
theorem mk_X10_274 : Cond.methodLink RX10 274 yX5_run ∈ zWL := zw4 (List.mem_of_getElem? (i := 216) rfl) rfl
set_option maxRecDepth 20000 in
theorem mk_L_93 : Cond.methodLink RL 93 yX10_dams ∈ zWL := zw4 (List.mem_of_getElem? (i := 217) rfl) rfl
set_option maxRecDepth 20000 in
theorem mk_X10_281 : Cond.methodLink RX10 281 yX10_fewestDams ∈ zWL := zw4 (List.mem_of_getElem? (i := 221) rfl) rfl
set_option maxRecDepth 20000 in
theorem mk_X10_287 : Cond.methodLink RX10 287 yX10_isAhead ∈ zWL := zw4 (List.mem_of_getElem? (i := 225) rfl) rfl
set_option maxRecDepth 20000 in
theorem mk_X10_284 : Cond.methodLink RX10 284 yX10_bitAt ∈ zWL := zw4 (List.mem_of_getElem? (i := 228) rfl) rfl
set_option maxRecDepth 20000 in
theorem mk_L_97 : Cond.methodLink RL 97 yX10_loss ∈ zWL := zw4 (List.mem_of_getElem? (i := 231) rfl) rfl
set_option maxRecDepth 20000 in
theorem mk_X10_290 : Cond.methodLink RX10 290 yX10_lossOf ∈ zWL := zw4 (List.mem_of_getElem? (i := 235) rfl) rfl
set_option maxRecDepth 20000 in
theorem mk_L_129 : Cond.methodLink RL 129 yX10_part ∈ zWL := zw4 (List.mem_of_getElem? (i := 239) rfl) rfl
set_option maxRecDepth 20000 in
theorem mk_L_101 : Cond.methodLink RL 101 yX10_main ∈ zWL := zw5 (List.mem_of_getElem? (i := 3) rfl) rfl
set_option maxRecDepth 20000 in
theorem mk_X10_293 : Cond.methodLink RX10 293 yX10_greatestInto ∈ zWL := zw5 (List.mem_of_getElem? (i := 7) rfl) rfl
set_option maxRecDepth 20000 in
theorem mk_L_69 : Cond.methodLink RL 69 yX10_agree ∈ zWL := zw5 (List.mem_of_getElem? (i := 11) rfl) rfl
set_option maxRecDepth 20000 in
theorem mk_X10_296 : Cond.methodLink RX10 296 yX10_tryFromNow ∈ zWL := zw5 (List.mem_of_getElem? (i := 15) rfl) rfl
set_option maxRecDepth 20000 in
theorem mk_X10_299 : Cond.methodLink RX10 299 yX5_goOn ∈ zWL := zw5 (List.mem_of_getElem? (i := 19) rfl) rfl
set_option maxRecDepth 20000 in
theorem mk_L_105 : Cond.methodLink RL 105 yX10_driest ∈ zWL := zw5 (List.mem_of_getElem? (i := 23) rfl) rfl
set_option maxRecDepth 20000 in
theorem mk_L_133 : Cond.methodLink RL 133 yX10_reign ∈ zWL := zw5 (List.mem_of_getElem? (i := 27) rfl) rfl
set_option maxRecDepth 20000 in
theorem mk_X10_308 : Cond.methodLink RX10 308 yX10_tallied ∈ zWL := zw5 (List.mem_of_getElem? (i := 32) rfl) rfl
set_option maxRecDepth 20000 in
theorem mk_X10_311 : Cond.methodLink RX10 311 yX10_mostTallied ∈ zWL := zw5 (List.mem_of_getElem? (i := 36) rfl) rfl
set_option maxRecDepth 20000 in
theorem mk_L_150 : Cond.methodLink RL 150 yX10_when ∈ zWL := zw5 (List.mem_of_getElem? (i := 40) rfl) rfl
set_option maxRecDepth 20000 in
theorem mk_L_154 : Cond.methodLink RL 154 yX10_then ∈ zWL := zw5 (List.mem_of_getElem? (i := 44) rfl) rfl
set_option maxRecDepth 20000 in
theorem mk_L_158 : Cond.methodLink RL 158 yX10_flowIn ∈ zWL := zw5 (List.mem_of_getElem? (i := 48) rfl) rfl
set_option maxRecDepth 20000 in
theorem mk_L_162 : Cond.methodLink RL 162 yX10_year ∈ zWL := zw5 (List.mem_of_getElem? (i := 52) rfl) rfl
set_option maxRecDepth 20000 in
theorem mk_X10_314 : Cond.methodLink RX10 314 yX10_hasWonMost ∈ zWL := zw5 (List.mem_of_getElem? (i := 56) rfl) rfl
set_option maxRecDepth 20000 in
theorem mk_L_117 : Cond.methodLink RL 117 yX10_depth ∈ zWL := zw5 (List.mem_of_getElem? (i := 60) rfl) rfl
set_option maxRecDepth 20000 in
theorem mk_X10_317 : Cond.methodLink RX10 317 yX6_deepest ∈ zWL := zw5 (List.mem_of_getElem? (i := 64) rfl) rfl
set_option maxRecDepth 20000 in
theorem mk_L_121 : Cond.methodLink RL 121 yX10_order ∈ zWL := zw5 (List.mem_of_getElem? (i := 69) rfl) rfl
set_option maxRecDepth 20000 in
theorem mk_X10_320 : Cond.methodLink RX10 320 yX6_orderOf ∈ zWL := zw5 (List.mem_of_getElem? (i := 73) rfl) rfl
set_option maxRecDepth 20000 in
theorem mk_L_125 : Cond.methodLink RL 125 yX10_basin ∈ zWL := zw5 (List.mem_of_getElem? (i := 77) rfl) rfl
set_option maxRecDepth 20000 in
theorem mk_X10_324 : Cond.methodLink RX10 324 yX6_comingBy ∈ zWL := zw5 (List.mem_of_getElem? (i := 81) rfl) rfl
set_option maxRecDepth 20000 in
theorem mk_X6_63 : Cond.methodLinkNest RX6 63 yX10_has "SourceDispute" ∈ tables_1 := (zt5 (List.mem_of_getElem? (i := 85) rfl))
set_option maxRecDepth 20000 in
theorem mk_X10_327 : Cond.methodLink RX10 327 yX5_rainsOf ∈ zWL := zw5 (List.mem_of_getElem? (i := 86) rfl) rfl
set_option maxRecDepth 20000 in
theorem mk_L_138 : Cond.methodLink RL 138 yX10_tour ∈ zWL := zw5 (List.mem_of_getElem? (i := 90) rfl) rfl
set_option maxRecDepth 20000 in
theorem mk_X10_330 : Cond.methodLink RX10 330 yX6_tourOf ∈ zWL := zw5 (List.mem_of_getElem? (i := 94) rfl) rfl
set_option maxRecDepth 20000 in
theorem mk_L_142 : Cond.methodLink RL 142 yX10_parted ∈ zWL := zw5 (List.mem_of_getElem? (i := 98) rfl) rfl
set_option maxRecDepth 20000 in
theorem mk_L_146 : Cond.methodLink RL 146 yX10_meet ∈ zWL := zw5 (List.mem_of_getElem? (i := 102) rfl) rfl
set_option maxRecDepth 20000 in
theorem mk_X10_336 : Cond.methodLink RX10 336 yX6_meeting ∈ zWL := zw5 (List.mem_of_getElem? (i := 106) rfl) rfl
set_option maxRecDepth 20000 in
theorem mk_L_166 : Cond.methodLink RL 166 yX10_tell ∈ zWL := zw5 (List.mem_of_getElem? (i := 110) rfl) rfl
set_option maxRecDepth 20000 in
theorem mk_X10_339 : Cond.methodLink RX10 339 yX2_add ∈ zWL := zw5 (List.mem_of_getElem? (i := 114) rfl) rfl
set_option maxRecDepth 20000 in
theorem mk_L_171 : Cond.methodLink RL 171 yX10_forget ∈ zWL := zw5 (List.mem_of_getElem? (i := 118) rfl) rfl
set_option maxRecDepth 20000 in
theorem mk_L_175 : Cond.methodLink RL 175 yX10_dyed ∈ zWL := zw5 (List.mem_of_getElem? (i := 122) rfl) rfl
set_option maxRecDepth 20000 in
theorem mk_X10_343 : Cond.methodLink RX10 343 yX2_left ∈ zWL := zw5 (List.mem_of_getElem? (i := 126) rfl) rfl
set_option maxRecDepth 20000 in
theorem mk_X2_34 : Cond.methodLink RX2 34 yX6_isSource ∈ zWL := zw5 (List.mem_of_getElem? (i := 130) rfl) rfl
set_option maxRecDepth 20000 in
theorem mk_X2_38 : Cond.methodLink RX2 38 yX2_isSo ∈ zWL := zw5 (List.mem_of_getElem? (i := 131) rfl) rfl
set_option maxRecDepth 20000 in
theorem mk_X2_52 : Cond.methodLinkNest RX2 52 yX10_has "SourceDispute" ∈ tables_1 := (zt5 (List.mem_of_getElem? (i := 135) rfl))
set_option maxRecDepth 20000 in
theorem mk_X2_56 : Cond.methodLinkNest RX2 56 yX10_isWithin "SourceDispute" ∈ tables_1 := (zt5 (List.mem_of_getElem? (i := 136) rfl))
set_option maxRecDepth 20000 in
theorem mk_X2_42 : Cond.methodLinkNest RX2 42 yX10_bit "SourceDispute" ∈ tables_1 := (zt5 (List.mem_of_getElem? (i := 137) rfl))
set_option maxRecDepth 20000 in
theorem mk_L_179 : Cond.methodLink RL 179 yX10_watch ∈ zWL := zw5 (List.mem_of_getElem? (i := 138) rfl) rfl
set_option maxRecDepth 20000 in
theorem mk_X10_347 : Cond.methodLink RX10 347 yX10_leftAtWorst ∈ zWL := zw5 (List.mem_of_getElem? (i := 142) rfl) rfl
set_option maxRecDepth 20000 in
theorem mk_X11_155 : Cond.methodLink RX11 155 yX11_plain ∈ zWL := zw5 (List.mem_of_getElem? (i := 152) rfl) rfl
set_option maxRecDepth 20000 in
theorem mk_X11_159 : Cond.methodLink RX11 159 yX11_word ∈ zWL := zw5 (List.mem_of_getElem? (i := 156) rfl) rfl
set_option maxRecDepth 20000 in
theorem mk_X11_180 : Cond.methodLink RX11 180 yX11_appends ∈ zWL := zw5 (List.mem_of_getElem? (i := 159) rfl) rfl
set_option maxRecDepth 20000 in
theorem mk_X11_163 : Cond.methodLink RX11 163 yX11_begins ∈ zWL := zw5 (List.mem_of_getElem? (i := 163) rfl) rfl
set_option maxRecDepth 20000 in
theorem mk_X11_313 : Cond.methodLink RX11 313 yX11_many ∈ zWL := zw5 (List.mem_of_getElem? (i := 167) rfl) rfl
set_option maxRecDepth 20000 in
theorem mk_X11_166 : Cond.methodLink RX11 166 yX11_keepsRow ∈ zWL := zw5 (List.mem_of_getElem? (i := 171) rfl) rfl
set_option maxRecDepth 20000 in
theorem mk_L_17 : Cond.methodLink RL 17 yX11_feed ∈ zWL := zw6 (List.mem_of_getElem? (i := 142) rfl) rfl
set_option maxRecDepth 20000 in
theorem mk_X11_172 : Cond.methodLink RX11 172 yX11_put ∈ zWL := zw6 (List.mem_of_getElem? (i := 146) rfl) rfl
set_option maxRecDepth 20000 in
theorem mk_L_22 : Cond.methodLink RL 22 yX11_back ∈ zWL := zw6 (List.mem_of_getElem? (i := 150) rfl) rfl
set_option maxRecDepth 20000 in
theorem mk_L_27 : Cond.methodLink RL 27 yX11_read ∈ zWL := zw6 (List.mem_of_getElem? (i := 154) rfl) rfl
set_option maxRecDepth 20000 in
theorem mk_X11_230 : Cond.methodLink RX11 230 yX11_cut ∈ zWL := zw6 (List.mem_of_getElem? (i := 158) rfl) rfl
set_option maxRecDepth 20000 in
theorem mk_X11_187 : Cond.methodLink RX11 187 yX11_byteAt ∈ zWL := zw6 (List.mem_of_getElem? (i := 162) rfl) rfl
set_option maxRecDepth 20000 in
theorem mk_X11_191 : Cond.methodLink RX11 191 yX11_token ∈ zWL := zw6 (List.mem_of_getElem? (i := 166) rfl) rfl
set_option maxRecDepth 20000 in
theorem mk_X11_195 : Cond.methodLink RX11 195 yX11_isLetter ∈ zWL := zw6 (List.mem_of_getElem? (i := 170) rfl) rfl
set_option maxRecDepth 20000 in
theorem mk_X11_199 : Cond.methodLink RX11 199 yX11_isDigit ∈ zWL := zw6 (List.mem_of_getElem? (i := 173) rfl) rfl
set_option maxRecDepth 20000 in
theorem mk_X11_202 : Cond.methodLink RX11 202 yX11_sign ∈ zWL := zw6 (List.mem_of_getElem? (i := 176) rfl) rfl
set_option maxRecDepth 20000 in
theorem mk_X11_224 : Cond.methodLink RX11 224 yX11_is ∈ zWL := zw6 (List.mem_of_getElem? (i := 180) rfl) rfl
set_option maxRecDepth 20000 in
theorem mk_X11_255 : Cond.methodLink RX11 255 yX11_tellOne ∈ zWL := zw6 (List.mem_of_getElem? (i := 184) rfl) rfl
set_option maxRecDepth 20000 in
theorem mk_X11_221 : Cond.methodLink RX11 221 yX11_fail ∈ zWL := zw6 (List.mem_of_getElem? (i := 188) rfl) rfl
set_option maxRecDepth 20000 in
theorem mk_X11_227 : Cond.methodLink RX11 227 yX11_goesOn ∈ zWL := zw6 (List.mem_of_getElem? (i := 192) rfl) rfl
set_option maxRecDepth 20000 in
theorem mk_X11_264 : Cond.methodLink RX11 264 yX11_tellMouth ∈ zWL := zw6 (List.mem_of_getElem? (i := 196) rfl) rfl
set_option maxRecDepth 20000 in
theorem mk_X11_287 : Cond.methodLink RX11 287 yX11_named ∈ zWL := zw6 (List.mem_of_getElem? (i := 200) rfl) rfl
set_option maxRecDepth 20000 in
theorem mk_X11_274 : Cond.methodLink RX11 274 yX11_must ∈ zWL := zw6 (List.mem_of_getElem? (i := 204) rfl) rfl
set_option maxRecDepth 20000 in
theorem mk_X11_280 : Cond.methodLink RX11 280 yX11_numberOf ∈ zWL := zw6 (List.mem_of_getElem? (i := 208) rfl) rfl
set_option maxRecDepth 20000 in
theorem mk_X11_283 : Cond.methodLink RX11 283 yX11_wrong ∈ zWL := zw6 (List.mem_of_getElem? (i := 212) rfl) rfl
set_option maxRecDepth 20000 in
theorem mk_X11_267 : Cond.methodLink RX11 267 yX11_tellPlace ∈ zWL := zw6 (List.mem_of_getElem? (i := 216) rfl) rfl
set_option maxRecDepth 20000 in
theorem mk_X11_270 : Cond.methodLink RX11 270 yX11_bounded ∈ zWL := zw6 (List.mem_of_getElem? (i := 220) rfl) rfl
set_option maxRecDepth 20000 in
theorem mk_X11_277 : Cond.methodLink RX11 277 yX11_tellLaw ∈ zWL := zw6 (List.mem_of_getElem? (i := 224) rfl) rfl
set_option maxRecDepth 20000 in
theorem mk_X11_291 : Cond.methodLink RX11 291 yX11_expression ∈ zWL := zw6 (List.mem_of_getElem? (i := 228) rfl) rfl
set_option maxRecDepth 20000 in
theorem mk_X11_303 : Cond.methodLink RX11 303 yX11_unit ∈ zWL := zw6 (List.mem_of_getElem? (i := 232) rfl) rfl
set_option maxRecDepth 20000 in
theorem mk_X11_300 : Cond.methodLink RX11 300 yX11_emit ∈ zWL := zw6 (List.mem_of_getElem? (i := 236) rfl) rfl
set_option maxRecDepth 20000 in
theorem mk_X11_306 : Cond.methodLink RX11 306 yX11_comesOut ∈ zWL := zw7 (List.mem_of_getElem? (i := 0) rfl) rfl
set_option maxRecDepth 20000 in
theorem mk_X11_294 : Cond.methodLink RX11 294 yX11_term ∈ zWL := zw7 (List.mem_of_getElem? (i := 4) rfl) rfl
set_option maxRecDepth 20000 in
theorem mk_L_31 : Cond.methodLink RL 31 yX11_place ∈ zWL := zw7 (List.mem_of_getElem? (i := 8) rfl) rfl
set_option maxRecDepth 20000 in
theorem mk_L_36 : Cond.methodLink RL 36 yX11_spot ∈ zWL := zw7 (List.mem_of_getElem? (i := 12) rfl) rfl
set_option maxRecDepth 20000 in
theorem mk_X11_383 : Cond.methodLink RX11 383 yX11_isPlace ∈ zWL := zw7 (List.mem_of_getElem? (i := 16) rfl) rfl
set_option maxRecDepth 20000 in
theorem mk_X11_316 : Cond.methodLink RX11 316 yX11_in ∈ zWL := zw7 (List.mem_of_getElem? (i := 20) rfl) rfl
set_option maxRecDepth 20000 in
theorem mk_X11_332 : Cond.methodLink RX11 332 yX11_copies ∈ zWL := zw7 (List.mem_of_getElem? (i := 23) rfl) rfl
set_option maxRecDepth 20000 in
theorem mk_X11_326 : Cond.methodLink RX11 326 yX11_fillsWays ∈ zWL := zw7 (List.mem_of_getElem? (i := 27) rfl) rfl
set_option maxRecDepth 20000 in
theorem mk_X11_329 : Cond.methodLink RX11 329 yX11_fillsFlows ∈ zWL := zw7 (List.mem_of_getElem? (i := 31) rfl) rfl
set_option maxRecDepth 20000 in
theorem mk_X11_360 : Cond.methodLink RX11 360 yX11_rainsAt ∈ zWL := zw7 (List.mem_of_getElem? (i := 35) rfl) rfl
set_option maxRecDepth 20000 in
theorem mk_X11_351 : Cond.methodLink RX11 351 yX11_looks ∈ zWL := zw7 (List.mem_of_getElem? (i := 39) rfl) rfl
set_option maxRecDepth 20000 in
theorem mk_X11_345 : Cond.methodLink RX11 345 yX11_bits ∈ zWL := zw7 (List.mem_of_getElem? (i := 43) rfl) rfl
set_option maxRecDepth 20000 in
theorem mk_X11_354 : Cond.methodLink RX11 354 yX11_lawTells ∈ zWL := zw7 (List.mem_of_getElem? (i := 46) rfl) rfl
set_option maxRecDepth 20000 in
theorem mk_X11_348 : Cond.methodLink RX11 348 yX11_termOf ∈ zWL := zw7 (List.mem_of_getElem? (i := 50) rfl) rfl
set_option maxRecDepth 20000 in
theorem mk_X11_357 : Cond.methodLink RX11 357 yX11_within ∈ zWL := zw7 (List.mem_of_getElem? (i := 54) rfl) rfl
set_option maxRecDepth 20000 in
theorem mk_X11_363 : Cond.methodLink RX11 363 yX11_driesAt ∈ zWL := zw7 (List.mem_of_getElem? (i := 57) rfl) rfl
set_option maxRecDepth 20000 in
theorem mk_X11_342 : Cond.methodLink RX11 342 yX11_isSource ∈ zWL := zw7 (List.mem_of_getElem? (i := 61) rfl) rfl
set_option maxRecDepth 20000 in
theorem mk_X11_339 : Cond.methodLink RX11 339 yX11_isBeside ∈ zWL := zw7 (List.mem_of_getElem? (i := 65) rfl) rfl
set_option maxRecDepth 20000 in
theorem mk_L_40 : Cond.methodLink RL 40 yX11_claim ∈ zWL := zw7 (List.mem_of_getElem? (i := 69) rfl) rfl
set_option maxRecDepth 20000 in
theorem mk_X11_389 : Cond.methodLink RX11 389 yX11_isClaim ∈ zWL := zw7 (List.mem_of_getElem? (i := 73) rfl) rfl
set_option maxRecDepth 20000 in
theorem mk_X11_386 : Cond.methodLink RX11 386 yX11_isLaw ∈ zWL := zw7 (List.mem_of_getElem? (i := 77) rfl) rfl
set_option maxRecDepth 20000 in
theorem mk_X11_367 : Cond.methodLink RX11 367 yX11_claimOf ∈ zWL := zw7 (List.mem_of_getElem? (i := 80) rfl) rfl
set_option maxRecDepth 20000 in
theorem mk_L_44 : Cond.methodLink RL 44 yX11_winner ∈ zWL := zw7 (List.mem_of_getElem? (i := 85) rfl) rfl
set_option maxRecDepth 20000 in
theorem mk_X11_374 : Cond.methodLink RX11 374 yX11_winnerBy ∈ zWL := zw7 (List.mem_of_getElem? (i := 89) rfl) rfl
set_option maxRecDepth 20000 in
theorem mk_L_49 : Cond.methodLink RL 49 yX11_dam ∈ zWL := zw7 (List.mem_of_getElem? (i := 93) rfl) rfl
set_option maxRecDepth 20000 in
theorem mk_X11_396 : Cond.methodLink RX11 396 yX11_does ∈ zWL := zw7 (List.mem_of_getElem? (i := 97) rfl) rfl
set_option maxRecDepth 20000 in
theorem mk_X11_393 : Cond.methodLink RX11 393 yX11_records ∈ zWL := zw7 (List.mem_of_getElem? (i := 101) rfl) rfl
set_option maxRecDepth 20000 in
theorem mk_L_54 : Cond.methodLink RL 54 yX11_turn ∈ zWL := zw7 (List.mem_of_getElem? (i := 105) rfl) rfl
set_option maxRecDepth 20000 in
theorem mk_X11_399 : Cond.methodLink RX11 399 yX11_canTurn ∈ zWL := zw7 (List.mem_of_getElem? (i := 109) rfl) rfl
set_option maxRecDepth 20000 in
theorem mk_L_59 : Cond.methodLink RL 59 yX11_rule ∈ zWL := zw7 (List.mem_of_getElem? (i := 113) rfl) rfl
set_option maxRecDepth 20000 in
theorem mk_L_63 : Cond.methodLink RL 63 yX11_months ∈ zWL := zw7 (List.mem_of_getElem? (i := 117) rfl) rfl
set_option maxRecDepth 20000 in
theorem mk_X11_402 : Cond.methodLink RX11 402 yX11_isLong ∈ zWL := zw7 (List.mem_of_getElem? (i := 121) rfl) rfl
set_option maxRecDepth 20000 in
theorem mk_X11_405 : Cond.methodLink RX11 405 yX11_goes ∈ zWL := zw7 (List.mem_of_getElem? (i := 124) rfl) rfl
set_option maxRecDepth 20000 in
theorem mk_X11_380 : Cond.methodLink RX11 380 yX11_monthGoes ∈ zWL := zw7 (List.mem_of_getElem? (i := 128) rfl) rfl
set_option maxRecDepth 20000 in
theorem mk_X11_370 : Cond.methodLink RX11 370 yX11_isStorm ∈ zWL := zw7 (List.mem_of_getElem? (i := 132) rfl) rfl
set_option maxRecDepth 20000 in
theorem mk_X11_336 : Cond.methodLink RX11 336 yX11_mixed ∈ zWL := zw7 (List.mem_of_getElem? (i := 136) rfl) rfl
set_option maxRecDepth 20000 in
theorem mk_L_68 : Cond.methodLink RL 68 yX11_undo ∈ zWL := zw7 (List.mem_of_getElem? (i := 140) rfl) rfl
set_option maxRecDepth 20000 in
theorem mk_L_72 : Cond.methodLink RL 72 yX11_agree ∈ zWL := zw7 (List.mem_of_getElem? (i := 144) rfl) rfl
set_option maxRecDepth 20000 in
theorem mk_X11_408 : Cond.methodLink RX11 408 yX11_isSome ∈ zWL := zw7 (List.mem_of_getElem? (i := 148) rfl) rfl
set_option maxRecDepth 20000 in
theorem mk_X11_411 : Cond.methodLink RX11 411 yX11_copiesStill ∈ zWL := zw7 (List.mem_of_getElem? (i := 151) rfl) rfl
set_option maxRecDepth 20000 in
theorem mk_L_76 : Cond.methodLink RL 76 yX11_behind ∈ zWL := zw7 (List.mem_of_getElem? (i := 155) rfl) rfl
set_option maxRecDepth 20000 in
theorem mk_L_80 : Cond.methodLink RL 80 yX11_margin ∈ zWL := zw7 (List.mem_of_getElem? (i := 159) rfl) rfl
set_option maxRecDepth 20000 in
theorem mk_L_84 : Cond.methodLink RL 84 yX11_richest ∈ zWL := zw7 (List.mem_of_getElem? (i := 163) rfl) rfl
set_option maxRecDepth 20000 in
theorem mk_L_88 : Cond.methodLink RL 88 yX11_rank ∈ zWL := zw7 (List.mem_of_getElem? (i := 167) rfl) rfl
set_option maxRecDepth 20000 in
theorem mk_X11_414 : Cond.methodLink RX11 414 yX11_rankOf ∈ zWL := zw7 (List.mem_of_getElem? (i := 171) rfl) rfl
set_option maxRecDepth 20000 in
theorem mk_L_92 : Cond.methodLink RL 92 yX11_vote ∈ zWL := zw7 (List.mem_of_getElem? (i := 175) rfl) rfl
set_option maxRecDepth 20000 in
theorem mk_X11_417 : Cond.methodLink RX11 417 yX11_sourceBits ∈ zWL := zw7 (List.mem_of_getElem? (i := 179) rfl) rfl
set_option maxRecDepth 20000 in
theorem mk_L_96 : Cond.methodLink RL 96 yX11_dams ∈ zWL := zw7 (List.mem_of_getElem? (i := 183) rfl) rfl
set_option maxRecDepth 20000 in
theorem mk_X11_423 : Cond.methodLink RX11 423 yX11_dammedBits ∈ zWL := zw7 (List.mem_of_getElem? (i := 187) rfl) rfl
set_option maxRecDepth 20000 in
theorem mk_X11_426 : Cond.methodLink RX11 426 yX11_isEarlier ∈ zWL := zw7 (List.mem_of_getElem? (i := 191) rfl) rfl
set_option maxRecDepth 20000 in
theorem mk_X11_420 : Cond.methodLink RX11 420 yX11_ithOf ∈ zWL := zw7 (List.mem_of_getElem? (i := 194) rfl) rfl
set_option maxRecDepth 20000 in
theorem mk_X11_429 : Cond.methodLink RX11 429 yX11_damsAll ∈ zWL := zw7 (List.mem_of_getElem? (i := 197) rfl) rfl
set_option maxRecDepth 20000 in
theorem mk_L_100 : Cond.methodLink RL 100 yX11_loss ∈ zWL := zw7 (List.mem_of_getElem? (i := 201) rfl) rfl
set_option maxRecDepth 20000 in
theorem mk_X11_432 : Cond.methodLink RX11 432 yX11_lossOf ∈ zWL := zw7 (List.mem_of_getElem? (i := 205) rfl) rfl
set_option maxRecDepth 20000 in
theorem mk_L_132 : Cond.methodLink RL 132 yX11_part ∈ zWL := zw7 (List.mem_of_getElem? (i := 209) rfl) rfl
set_option maxRecDepth 20000 in
theorem mk_L_104 : Cond.methodLink RL 104 yX11_main ∈ zWL := zw7 (List.mem_of_getElem? (i := 213) rfl) rfl
set_option maxRecDepth 20000 in
theorem mk_L_108 : Cond.methodLink RL 108 yX11_driest ∈ zWL := zw7 (List.mem_of_getElem? (i := 217) rfl) rfl
set_option maxRecDepth 20000 in
theorem mk_L_112 : Cond.methodLink RL 112 yX11_turnFor ∈ zWL := zw7 (List.mem_of_getElem? (i := 221) rfl) rfl
set_option maxRecDepth 20000 in
theorem mk_X11_435 : Cond.methodLink RX11 435 yX11_winsTurned ∈ zWL := zw7 (List.mem_of_getElem? (i := 225) rfl) rfl
set_option maxRecDepth 20000 in
theorem mk_L_116 : Cond.methodLink RL 116 yX11_damFor ∈ zWL := zw7 (List.mem_of_getElem? (i := 229) rfl) rfl
set_option maxRecDepth 20000 in
theorem mk_L_120 : Cond.methodLink RL 120 yX11_depth ∈ zWL := zw7 (List.mem_of_getElem? (i := 233) rfl) rfl
set_option maxRecDepth 20000 in
theorem mk_L_124 : Cond.methodLink RL 124 yX11_order ∈ zWL := zw7 (List.mem_of_getElem? (i := 237) rfl) rfl
set_option maxRecDepth 20000 in
theorem mk_X11_439 : Cond.methodLink RX11 439 yX11_orderAt ∈ zWL := zw8 (List.mem_of_getElem? (i := 1) rfl) rfl
set_option maxRecDepth 20000 in
theorem mk_L_128 : Cond.methodLink RL 128 yX11_basin ∈ zWL := zw8 (List.mem_of_getElem? (i := 5) rfl) rfl
set_option maxRecDepth 20000 in
theorem mk_L_137 : Cond.methodLink RL 137 yX11_reign ∈ zWL := zw8 (List.mem_of_getElem? (i := 9) rfl) rfl
set_option maxRecDepth 20000 in
theorem mk_L_141 : Cond.methodLink RL 141 yX11_tour ∈ zWL := zw8 (List.mem_of_getElem? (i := 13) rfl) rfl
set_option maxRecDepth 20000 in
theorem mk_X11_442 : Cond.methodLink RX11 442 yX11_tourOf ∈ zWL := zw8 (List.mem_of_getElem? (i := 17) rfl) rfl
set_option maxRecDepth 20000 in
theorem mk_L_145 : Cond.methodLink RL 145 yX11_parted ∈ zWL := zw8 (List.mem_of_getElem? (i := 21) rfl) rfl
set_option maxRecDepth 20000 in
theorem mk_L_149 : Cond.methodLink RL 149 yX11_meet ∈ zWL := zw8 (List.mem_of_getElem? (i := 25) rfl) rfl
set_option maxRecDepth 20000 in
theorem mk_L_153 : Cond.methodLink RL 153 yX11_when ∈ zWL := zw8 (List.mem_of_getElem? (i := 29) rfl) rfl
set_option maxRecDepth 20000 in
theorem mk_L_157 : Cond.methodLink RL 157 yX11_then ∈ zWL := zw8 (List.mem_of_getElem? (i := 33) rfl) rfl
set_option maxRecDepth 20000 in
theorem mk_L_161 : Cond.methodLink RL 161 yX11_flowIn ∈ zWL := zw8 (List.mem_of_getElem? (i := 37) rfl) rfl
set_option maxRecDepth 20000 in
theorem mk_L_165 : Cond.methodLink RL 165 yX11_year ∈ zWL := zw8 (List.mem_of_getElem? (i := 41) rfl) rfl
set_option maxRecDepth 20000 in
theorem mk_X11_445 : Cond.methodLink RX11 445 yX11_hasWonMost ∈ zWL := zw8 (List.mem_of_getElem? (i := 45) rfl) rfl
set_option maxRecDepth 20000 in
theorem mk_L_170 : Cond.methodLink RL 170 yX11_tell ∈ zWL := zw8 (List.mem_of_getElem? (i := 49) rfl) rfl
set_option maxRecDepth 20000 in
theorem mk_L_174 : Cond.methodLink RL 174 yX11_forget ∈ zWL := zw8 (List.mem_of_getElem? (i := 53) rfl) rfl
set_option maxRecDepth 20000 in
theorem mk_L_178 : Cond.methodLink RL 178 yX11_dyed ∈ zWL := zw8 (List.mem_of_getElem? (i := 57) rfl) rfl
set_option maxRecDepth 20000 in
theorem mk_X11_451 : Cond.methodLink RX11 451 yX11_dyedBits ∈ zWL := zw8 (List.mem_of_getElem? (i := 61) rfl) rfl
set_option maxRecDepth 20000 in
theorem mk_X11_448 : Cond.methodLink RX11 448 yX11_comesBy ∈ zWL := zw8 (List.mem_of_getElem? (i := 65) rfl) rfl
set_option maxRecDepth 20000 in
theorem mk_L_182 : Cond.methodLink RL 182 yX11_watch ∈ zWL := zw8 (List.mem_of_getElem? (i := 69) rfl) rfl
set_option maxRecDepth 20000 in
theorem mk_L_186 : Cond.methodLink RL 186 yX11_hold ∈ zWL := zw8 (List.mem_of_getElem? (i := 73) rfl) rfl
set_option maxRecDepth 20000 in
theorem mk_L_190 : Cond.methodLink RL 190 yX11_restore ∈ zWL := zw8 (List.mem_of_getElem? (i := 77) rfl) rfl
set_option maxRecDepth 20000 in
theorem mk_L_194 : Cond.methodLink RL 194 yX11_count ∈ zWL := zw8 (List.mem_of_getElem? (i := 81) rfl) rfl
set_option maxRecDepth 20000 in
theorem mc_X0_init : Cond.code yX0_init cX0_init 1 none ∈ zWL := zw1 (List.mem_of_getElem? (i := 218) rfl) rfl
set_option maxRecDepth 20000 in
theorem mc_X0_answer : Cond.code yX0_answer cX0_answer 10 (some .int) ∈ zWL := zw3 (List.mem_of_getElem? (i := 237) rfl) rfl
set_option maxRecDepth 20000 in
theorem mi_X0_answer : Cond.instanceMethod yX0_answer ∈ zWL := zw3 (List.mem_of_getElem? (i := 235) rfl) rfl
set_option maxRecDepth 20000 in
theorem ml_X0_answer : Cond.selects RX0 yX0_answer yX0_answer ∈ zWL := zw3 (List.mem_of_getElem? (i := 236) rfl) rfl
set_option maxRecDepth 20000 in
theorem mc_X1_init : Cond.code yX1_init cX1_init 1 none ∈ zWL := zw2 (List.mem_of_getElem? (i := 25) rfl) rfl
set_option maxRecDepth 20000 in
theorem mc_X1_begin : Cond.code yX1_begin cX1_begin 2 none ∈ zWL := zw3 (List.mem_of_getElem? (i := 173) rfl) rfl
set_option maxRecDepth 20000 in
theorem mi_X1_begin : Cond.instanceMethod yX1_begin ∈ zWL := zw3 (List.mem_of_getElem? (i := 171) rfl) rfl
set_option maxRecDepth 20000 in
theorem ml_X1_begin : Cond.selects RX1 yX1_begin yX1_begin ∈ zWL := zw3 (List.mem_of_getElem? (i := 172) rfl) rfl
set_option maxRecDepth 20000 in
theorem mc_X1_copy : Cond.code yX1_copy cX1_copy 2 none ∈ zWL := zw4 (List.mem_of_getElem? (i := 116) rfl) rfl
set_option maxRecDepth 20000 in
theorem mi_X1_copy : Cond.instanceMethod yX1_copy ∈ zWL := zw4 (List.mem_of_getElem? (i := 114) rfl) rfl
set_option maxRecDepth 20000 in
theorem ml_X1_copy : Cond.selects RX1 yX1_copy yX1_copy ∈ zWL := zw4 (List.mem_of_getElem? (i := 115) rfl) rfl
set_option maxRecDepth 20000 in
theorem mc_X1_moon : Cond.code yX1_moon cX1_moon 1 (some .int) ∈ zWL := zw3 (List.mem_of_getElem? (i := 233) rfl) rfl
set_option maxRecDepth 20000 in
theorem mi_X1_moon : Cond.instanceMethod yX1_moon ∈ zWL := zw3 (List.mem_of_getElem? (i := 231) rfl) rfl
set_option maxRecDepth 20000 in
theorem ml_X1_moon : Cond.selects RX1 yX1_moon yX1_moon ∈ zWL := zw3 (List.mem_of_getElem? (i := 232) rfl) rfl
set_option maxRecDepth 20000 in
theorem mc_X1_comesBy : Cond.code yX1_comesBy cX1_comesBy 5 (some .boolean) ∈ zWL := zw4 (List.mem_of_getElem? (i := 129) rfl) rfl
set_option maxRecDepth 20000 in
theorem mi_X1_comesBy : Cond.instanceMethod yX1_comesBy ∈ zWL := zw4 (List.mem_of_getElem? (i := 127) rfl) rfl
set_option maxRecDepth 20000 in
theorem ml_X1_comesBy : Cond.selects RX1 yX1_comesBy yX1_comesBy ∈ zWL := zw4 (List.mem_of_getElem? (i := 128) rfl) rfl
set_option maxRecDepth 20000 in
theorem mc_X1_pay : Cond.code yX1_pay cX1_pay 3 none ∈ zWL := zw4 (List.mem_of_getElem? (i := 151) rfl) rfl
set_option maxRecDepth 20000 in
theorem mi_X1_pay : Cond.instanceMethod yX1_pay ∈ zWL := zw4 (List.mem_of_getElem? (i := 149) rfl) rfl
set_option maxRecDepth 20000 in
theorem ml_X1_pay : Cond.selects RX1 yX1_pay yX1_pay ∈ zWL := zw4 (List.mem_of_getElem? (i := 150) rfl) rfl
set_option maxRecDepth 20000 in
theorem mc_X2_init : Cond.code yX2_init cX2_init 1 none ∈ zWL := zw2 (List.mem_of_getElem? (i := 73) rfl) rfl
set_option maxRecDepth 20000 in
theorem mc_X2_add : Cond.code yX2_add cX2_add 5 (some .int) ∈ zWL := zw5 (List.mem_of_getElem? (i := 117) rfl) rfl
set_option maxRecDepth 20000 in
theorem mi_X2_add : Cond.instanceMethod yX2_add ∈ zWL := zw5 (List.mem_of_getElem? (i := 115) rfl) rfl
set_option maxRecDepth 20000 in
theorem ml_X2_add : Cond.selects RX2 yX2_add yX2_add ∈ zWL := zw5 (List.mem_of_getElem? (i := 116) rfl) rfl
set_option maxRecDepth 20000 in
theorem mc_X2_left : Cond.code yX2_left cX2_left 5 (some .int) ∈ zWL := zw5 (List.mem_of_getElem? (i := 129) rfl) rfl
set_option maxRecDepth 20000 in
theorem mi_X2_left : Cond.instanceMethod yX2_left ∈ zWL := zw5 (List.mem_of_getElem? (i := 127) rfl) rfl
set_option maxRecDepth 20000 in
theorem ml_X2_left : Cond.selects RX2 yX2_left yX2_left ∈ zWL := zw5 (List.mem_of_getElem? (i := 128) rfl) rfl
set_option maxRecDepth 20000 in
theorem mc_X2_isSo : Cond.code yX2_isSo cX2_isSo 8 (some .boolean) ∈ zWL := zw5 (List.mem_of_getElem? (i := 134) rfl) rfl
set_option maxRecDepth 20000 in
theorem mi_X2_isSo : Cond.instanceMethod yX2_isSo ∈ zWL := zw5 (List.mem_of_getElem? (i := 133) rfl) rfl
theorem ml_X2_isSo : Cond.selects RX2 yX2_isSo yX2_isSo ∈ zWL := List.mem_append_right _ (List.mem_filter.mpr ⟨List.mem_map.mpr ⟨(⟨"SourceDispute$Dye", "isSo", "(LSourceDispute$Shape;II)Z"⟩, 5), List.mem_of_getElem? (i := 45) (by decide +kernel), rfl⟩, by decide +kernel⟩)
set_option maxRecDepth 20000 in
theorem mc_X3_init : Cond.code yX3_init cX3_init 1 none ∈ zWL := zw1 (List.mem_of_getElem? (i := 50) rfl) rfl
set_option maxRecDepth 20000 in
theorem mc_X3_parse : Cond.code yX3_parse cX3_parse 5 (some .int) ∈ zWL := zw3 (List.mem_of_getElem? (i := 2) rfl) rfl
set_option maxRecDepth 20000 in
theorem mi_X3_parse : Cond.instanceMethod yX3_parse ∈ zWL := zw3 (List.mem_of_getElem? (i := 0) rfl) rfl
set_option maxRecDepth 20000 in
theorem ml_X3_parse : Cond.selects RX3 yX3_parse yX3_parse ∈ zWL := zw3 (List.mem_of_getElem? (i := 1) rfl) rfl
set_option maxRecDepth 20000 in
theorem mc_X3_telling : Cond.code yX3_telling cX3_telling 1 none ∈ zWL := zw3 (List.mem_of_getElem? (i := 100) rfl) rfl
set_option maxRecDepth 20000 in
theorem mi_X3_telling : Cond.instanceMethod yX3_telling ∈ zWL := zw3 (List.mem_of_getElem? (i := 99) rfl) rfl
theorem ml_X3_telling : Cond.selects RX3 yX3_telling yX3_telling ∈ zWL := List.mem_append_right _ (List.mem_filter.mpr ⟨List.mem_map.mpr ⟨(⟨"SourceDispute$Parser", "telling", "()V"⟩, 12), List.mem_of_getElem? (i := 5) (by decide +kernel), rfl⟩, by decide +kernel⟩)
set_option maxRecDepth 20000 in
theorem mc_X3_mouth : Cond.code yX3_mouth cX3_mouth 3 none ∈ zWL := zw3 (List.mem_of_getElem? (i := 104) rfl) rfl
set_option maxRecDepth 20000 in
theorem mi_X3_mouth : Cond.instanceMethod yX3_mouth ∈ zWL := zw3 (List.mem_of_getElem? (i := 103) rfl) rfl
theorem ml_X3_mouth : Cond.selects RX3 yX3_mouth yX3_mouth ∈ zWL := List.mem_append_right _ (List.mem_filter.mpr ⟨List.mem_map.mpr ⟨(⟨"SourceDispute$Parser", "mouth", "()V"⟩, 12), List.mem_of_getElem? (i := 6) (by decide +kernel), rfl⟩, by decide +kernel⟩)
set_option maxRecDepth 20000 in
theorem mc_X3_newPlace : Cond.code yX3_newPlace cX3_newPlace 7 none ∈ zWL := zw3 (List.mem_of_getElem? (i := 132) rfl) rfl
set_option maxRecDepth 20000 in
theorem mi_X3_newPlace : Cond.instanceMethod yX3_newPlace ∈ zWL := zw3 (List.mem_of_getElem? (i := 131) rfl) rfl
theorem ml_X3_newPlace : Cond.selects RX3 yX3_newPlace yX3_newPlace ∈ zWL := List.mem_append_right _ (List.mem_filter.mpr ⟨List.mem_map.mpr ⟨(⟨"SourceDispute$Parser", "newPlace", "()V"⟩, 12), List.mem_of_getElem? (i := 12) (by decide +kernel), rfl⟩, by decide +kernel⟩)
set_option maxRecDepth 20000 in
theorem mc_X3_newName : Cond.code yX3_newName cX3_newName 3 (some .long) ∈ zWL := zw3 (List.mem_of_getElem? (i := 116) rfl) rfl
set_option maxRecDepth 20000 in
theorem mi_X3_newName : Cond.instanceMethod yX3_newName ∈ zWL := zw3 (List.mem_of_getElem? (i := 115) rfl) rfl
theorem ml_X3_newName : Cond.selects RX3 yX3_newName yX3_newName ∈ zWL := List.mem_append_right _ (List.mem_filter.mpr ⟨List.mem_map.mpr ⟨(⟨"SourceDispute$Parser", "newName", "()J"⟩, 12), List.mem_of_getElem? (i := 9) (by decide +kernel), rfl⟩, by decide +kernel⟩)
set_option maxRecDepth 20000 in
theorem mc_X3_knownName : Cond.code yX3_knownName cX3_knownName 2 (some .int) ∈ zWL := zw3 (List.mem_of_getElem? (i := 136) rfl) rfl
set_option maxRecDepth 20000 in
theorem mi_X3_knownName : Cond.instanceMethod yX3_knownName ∈ zWL := zw3 (List.mem_of_getElem? (i := 135) rfl) rfl
theorem ml_X3_knownName : Cond.selects RX3 yX3_knownName yX3_knownName ∈ zWL := List.mem_append_right _ (List.mem_filter.mpr ⟨List.mem_map.mpr ⟨(⟨"SourceDispute$Parser", "knownName", "()I"⟩, 12), List.mem_of_getElem? (i := 13) (by decide +kernel), rfl⟩, by decide +kernel⟩)
set_option maxRecDepth 20000 in
theorem mc_X3_placeNamed : Cond.code yX3_placeNamed cX3_placeNamed 4 (some .int) ∈ zWL := zw3 (List.mem_of_getElem? (i := 120) rfl) rfl
set_option maxRecDepth 20000 in
theorem mi_X3_placeNamed : Cond.instanceMethod yX3_placeNamed ∈ zWL := zw3 (List.mem_of_getElem? (i := 119) rfl) rfl
theorem ml_X3_placeNamed : Cond.selects RX3 yX3_placeNamed yX3_placeNamed ∈ zWL := List.mem_append_right _ (List.mem_filter.mpr ⟨List.mem_map.mpr ⟨(⟨"SourceDispute$Parser", "placeNamed", "(J)I"⟩, 12), List.mem_of_getElem? (i := 10) (by decide +kernel), rfl⟩, by decide +kernel⟩)
set_option maxRecDepth 20000 in
theorem mc_X3_number : Cond.code yX3_number cX3_number 4 (some .int) ∈ zWL := zw3 (List.mem_of_getElem? (i := 141) rfl) rfl
set_option maxRecDepth 20000 in
theorem mi_X3_number : Cond.instanceMethod yX3_number ∈ zWL := zw3 (List.mem_of_getElem? (i := 140) rfl) rfl
theorem ml_X3_number : Cond.selects RX3 yX3_number yX3_number ∈ zWL := List.mem_append_right _ (List.mem_filter.mpr ⟨List.mem_map.mpr ⟨(⟨"SourceDispute$Parser", "number", "(II)I"⟩, 12), List.mem_of_getElem? (i := 14) (by decide +kernel), rfl⟩, by decide +kernel⟩)
set_option maxRecDepth 20000 in
theorem mc_X3_law : Cond.code yX3_law cX3_law 5 none ∈ zWL := zw3 (List.mem_of_getElem? (i := 148) rfl) rfl
set_option maxRecDepth 20000 in
theorem mi_X3_law : Cond.instanceMethod yX3_law ∈ zWL := zw3 (List.mem_of_getElem? (i := 147) rfl) rfl
theorem ml_X3_law : Cond.selects RX3 yX3_law yX3_law ∈ zWL := List.mem_append_right _ (List.mem_filter.mpr ⟨List.mem_map.mpr ⟨(⟨"SourceDispute$Parser", "law", "(I)V"⟩, 12), List.mem_of_getElem? (i := 15) (by decide +kernel), rfl⟩, by decide +kernel⟩)
set_option maxRecDepth 20000 in
theorem mc_X3_sum : Cond.code yX3_sum cX3_sum 4 none ∈ zWL := zw3 (List.mem_of_getElem? (i := 152) rfl) rfl
set_option maxRecDepth 20000 in
theorem mi_X3_sum : Cond.instanceMethod yX3_sum ∈ zWL := zw3 (List.mem_of_getElem? (i := 151) rfl) rfl
theorem ml_X3_sum : Cond.selects RX3 yX3_sum yX3_sum ∈ zWL := List.mem_append_right _ (List.mem_filter.mpr ⟨List.mem_map.mpr ⟨(⟨"SourceDispute$Parser", "sum", "(I)V"⟩, 12), List.mem_of_getElem? (i := 16) (by decide +kernel), rfl⟩, by decide +kernel⟩)
set_option maxRecDepth 20000 in
theorem mc_X3_product : Cond.code yX3_product cX3_product 4 none ∈ zWL := zw3 (List.mem_of_getElem? (i := 156) rfl) rfl
set_option maxRecDepth 20000 in
theorem mi_X3_product : Cond.instanceMethod yX3_product ∈ zWL := zw3 (List.mem_of_getElem? (i := 155) rfl) rfl
theorem ml_X3_product : Cond.selects RX3 yX3_product yX3_product ∈ zWL := List.mem_append_right _ (List.mem_filter.mpr ⟨List.mem_map.mpr ⟨(⟨"SourceDispute$Parser", "product", "(I)V"⟩, 12), List.mem_of_getElem? (i := 17) (by decide +kernel), rfl⟩, by decide +kernel⟩)
set_option maxRecDepth 20000 in
theorem mc_X3_unit : Cond.code yX3_unit cX3_unit 2 none ∈ zWL := zw3 (List.mem_of_getElem? (i := 160) rfl) rfl
set_option maxRecDepth 20000 in
theorem mi_X3_unit : Cond.instanceMethod yX3_unit ∈ zWL := zw3 (List.mem_of_getElem? (i := 159) rfl) rfl
theorem ml_X3_unit : Cond.selects RX3 yX3_unit yX3_unit ∈ zWL := List.mem_append_right _ (List.mem_filter.mpr ⟨List.mem_map.mpr ⟨(⟨"SourceDispute$Parser", "unit", "(I)V"⟩, 12), List.mem_of_getElem? (i := 18) (by decide +kernel), rfl⟩, by decide +kernel⟩)
set_option maxRecDepth 20000 in
theorem mc_X3_take : Cond.code yX3_take cX3_take 2 none ∈ zWL := zw3 (List.mem_of_getElem? (i := 112) rfl) rfl
set_option maxRecDepth 20000 in
theorem mi_X3_take : Cond.instanceMethod yX3_take ∈ zWL := zw3 (List.mem_of_getElem? (i := 111) rfl) rfl
theorem ml_X3_take : Cond.selects RX3 yX3_take yX3_take ∈ zWL := List.mem_append_right _ (List.mem_filter.mpr ⟨List.mem_map.mpr ⟨(⟨"SourceDispute$Parser", "take", "(I)V"⟩, 12), List.mem_of_getElem? (i := 8) (by decide +kernel), rfl⟩, by decide +kernel⟩)
set_option maxRecDepth 20000 in
theorem mc_X3_goTo : Cond.code yX3_goTo cX3_goTo 3 none ∈ zWL := zw3 (List.mem_of_getElem? (i := 96) rfl) rfl
set_option maxRecDepth 20000 in
theorem mi_X3_goTo : Cond.instanceMethod yX3_goTo ∈ zWL := zw3 (List.mem_of_getElem? (i := 95) rfl) rfl
theorem ml_X3_goTo : Cond.selects RX3 yX3_goTo yX3_goTo ∈ zWL := List.mem_append_right _ (List.mem_filter.mpr ⟨List.mem_map.mpr ⟨(⟨"SourceDispute$Parser", "goTo", "(I)V"⟩, 12), List.mem_of_getElem? (i := 4) (by decide +kernel), rfl⟩, by decide +kernel⟩)
set_option maxRecDepth 20000 in
theorem mc_X3_fail : Cond.code yX3_fail cX3_fail 2 none ∈ zWL := zw3 (List.mem_of_getElem? (i := 108) rfl) rfl
set_option maxRecDepth 20000 in
theorem mi_X3_fail : Cond.instanceMethod yX3_fail ∈ zWL := zw3 (List.mem_of_getElem? (i := 107) rfl) rfl
theorem ml_X3_fail : Cond.selects RX3 yX3_fail yX3_fail ∈ zWL := List.mem_append_right _ (List.mem_filter.mpr ⟨List.mem_map.mpr ⟨(⟨"SourceDispute$Parser", "fail", "(I)V"⟩, 12), List.mem_of_getElem? (i := 7) (by decide +kernel), rfl⟩, by decide +kernel⟩)
set_option maxRecDepth 20000 in
theorem mc_X3_failLate : Cond.code yX3_failLate cX3_failLate 2 none ∈ zWL := zw3 (List.mem_of_getElem? (i := 124) rfl) rfl
set_option maxRecDepth 20000 in
theorem mi_X3_failLate : Cond.instanceMethod yX3_failLate ∈ zWL := zw3 (List.mem_of_getElem? (i := 123) rfl) rfl
theorem ml_X3_failLate : Cond.selects RX3 yX3_failLate yX3_failLate ∈ zWL := List.mem_append_right _ (List.mem_filter.mpr ⟨List.mem_map.mpr ⟨(⟨"SourceDispute$Parser", "failLate", "(I)V"⟩, 12), List.mem_of_getElem? (i := 11) (by decide +kernel), rfl⟩, by decide +kernel⟩)
set_option maxRecDepth 20000 in
theorem mc_X4_init : Cond.code yX4_init cX4_init 2 none ∈ zWL := zw2 (List.mem_of_getElem? (i := 18) rfl) rfl
set_option maxRecDepth 20000 in
theorem mc_X4_push : Cond.code yX4_push cX4_push 2 none ∈ zWL := zw4 (List.mem_of_getElem? (i := 112) rfl) rfl
set_option maxRecDepth 20000 in
theorem mi_X4_push : Cond.instanceMethod yX4_push ∈ zWL := zw4 (List.mem_of_getElem? (i := 110) rfl) rfl
set_option maxRecDepth 20000 in
theorem ml_X4_push : Cond.selects RX4 yX4_push yX4_push ∈ zWL := zw4 (List.mem_of_getElem? (i := 111) rfl) rfl
set_option maxRecDepth 20000 in
theorem mc_X4_pop : Cond.code yX4_pop cX4_pop 2 (some .boolean) ∈ zWL := zw4 (List.mem_of_getElem? (i := 160) rfl) rfl
set_option maxRecDepth 20000 in
theorem mi_X4_pop : Cond.instanceMethod yX4_pop ∈ zWL := zw4 (List.mem_of_getElem? (i := 158) rfl) rfl
set_option maxRecDepth 20000 in
theorem ml_X4_pop : Cond.selects RX4 yX4_pop yX4_pop ∈ zWL := zw4 (List.mem_of_getElem? (i := 159) rfl) rfl
set_option maxRecDepth 20000 in
theorem mc_X5_init : Cond.code yX5_init cX5_init 1 none ∈ zWL := zw1 (List.mem_of_getElem? (i := 175) rfl) rfl
set_option maxRecDepth 20000 in
theorem mc_X5_look : Cond.code yX5_look cX5_look 3 none ∈ zWL := zw3 (List.mem_of_getElem? (i := 200) rfl) rfl
set_option maxRecDepth 20000 in
theorem mi_X5_look : Cond.instanceMethod yX5_look ∈ zWL := zw3 (List.mem_of_getElem? (i := 198) rfl) rfl
set_option maxRecDepth 20000 in
theorem ml_X5_look : Cond.selects RX5 yX5_look yX5_look ∈ zWL := zw3 (List.mem_of_getElem? (i := 199) rfl) rfl
set_option maxRecDepth 20000 in
theorem mc_X5_form : Cond.code yX5_form cX5_form 3 none ∈ zWL := zw3 (List.mem_of_getElem? (i := 204) rfl) rfl
set_option maxRecDepth 20000 in
theorem mi_X5_form : Cond.instanceMethod yX5_form ∈ zWL := zw3 (List.mem_of_getElem? (i := 203) rfl) rfl
theorem ml_X5_form : Cond.selects RX5 yX5_form yX5_form ∈ zWL := List.mem_append_right _ (List.mem_filter.mpr ⟨List.mem_map.mpr ⟨(⟨"SourceDispute$River", "form", "(LSourceDispute$Told;LSourceDispute$Course;)V"⟩, 7), List.mem_of_getElem? (i := 22) (by decide +kernel), rfl⟩, by decide +kernel⟩)
set_option maxRecDepth 20000 in
theorem mc_X5_fall : Cond.code yX5_fall cX5_fall 2 none ∈ zWL := zw3 (List.mem_of_getElem? (i := 221) rfl) rfl
set_option maxRecDepth 20000 in
theorem mi_X5_fall : Cond.instanceMethod yX5_fall ∈ zWL := zw3 (List.mem_of_getElem? (i := 220) rfl) rfl
theorem ml_X5_fall : Cond.selects RX5 yX5_fall yX5_fall ∈ zWL := List.mem_append_right _ (List.mem_filter.mpr ⟨List.mem_map.mpr ⟨(⟨"SourceDispute$River", "fall", "(I)V"⟩, 7), List.mem_of_getElem? (i := 24) (by decide +kernel), rfl⟩, by decide +kernel⟩)
set_option maxRecDepth 20000 in
theorem mc_X5_rainDown : Cond.code yX5_rainDown cX5_rainDown 3 none ∈ zWL := zw3 (List.mem_of_getElem? (i := 225) rfl) rfl
set_option maxRecDepth 20000 in
theorem mi_X5_rainDown : Cond.instanceMethod yX5_rainDown ∈ zWL := zw3 (List.mem_of_getElem? (i := 224) rfl) rfl
theorem ml_X5_rainDown : Cond.selects RX5 yX5_rainDown yX5_rainDown ∈ zWL := List.mem_append_right _ (List.mem_filter.mpr ⟨List.mem_map.mpr ⟨(⟨"SourceDispute$River", "rainDown", "(I)V"⟩, 7), List.mem_of_getElem? (i := 25) (by decide +kernel), rfl⟩, by decide +kernel⟩)
set_option maxRecDepth 20000 in
theorem mc_X5_run : Cond.code yX5_run cX5_run 4 none ∈ zWL := zw4 (List.mem_of_getElem? (i := 6) rfl) rfl
set_option maxRecDepth 20000 in
theorem mi_X5_run : Cond.instanceMethod yX5_run ∈ zWL := zw4 (List.mem_of_getElem? (i := 4) rfl) rfl
set_option maxRecDepth 20000 in
theorem ml_X5_run : Cond.selects RX5 yX5_run yX5_run ∈ zWL := zw4 (List.mem_of_getElem? (i := 5) rfl) rfl
set_option maxRecDepth 20000 in
theorem mc_X5_dried : Cond.code yX5_dried cX5_dried 2 (some .int) ∈ zWL := zw4 (List.mem_of_getElem? (i := 15) rfl) rfl
set_option maxRecDepth 20000 in
theorem mi_X5_dried : Cond.instanceMethod yX5_dried ∈ zWL := zw4 (List.mem_of_getElem? (i := 13) rfl) rfl
set_option maxRecDepth 20000 in
theorem ml_X5_dried : Cond.selects RX5 yX5_dried yX5_dried ∈ zWL := zw4 (List.mem_of_getElem? (i := 14) rfl) rfl
set_option maxRecDepth 20000 in
theorem mc_X5_tells : Cond.code yX5_tells cX5_tells 5 (some .int) ∈ zWL := zw3 (List.mem_of_getElem? (i := 229) rfl) rfl
set_option maxRecDepth 20000 in
theorem mi_X5_tells : Cond.instanceMethod yX5_tells ∈ zWL := zw3 (List.mem_of_getElem? (i := 228) rfl) rfl
theorem ml_X5_tells : Cond.selects RX5 yX5_tells yX5_tells ∈ zWL := List.mem_append_right _ (List.mem_filter.mpr ⟨List.mem_map.mpr ⟨(⟨"SourceDispute$River", "tells", "(III)I"⟩, 7), List.mem_of_getElem? (i := 26) (by decide +kernel), rfl⟩, by decide +kernel⟩)
set_option maxRecDepth 20000 in
theorem mc_X5_claimOf : Cond.code yX5_claimOf cX5_claimOf 3 (some .int) ∈ zWL := zw4 (List.mem_of_getElem? (i := 37) rfl) rfl
set_option maxRecDepth 20000 in
theorem mi_X5_claimOf : Cond.instanceMethod yX5_claimOf ∈ zWL := zw4 (List.mem_of_getElem? (i := 35) rfl) rfl
set_option maxRecDepth 20000 in
theorem ml_X5_claimOf : Cond.selects RX5 yX5_claimOf yX5_claimOf ∈ zWL := zw4 (List.mem_of_getElem? (i := 36) rfl) rfl
set_option maxRecDepth 20000 in
theorem mc_X5_weigh : Cond.code yX5_weigh cX5_weigh 3 none ∈ zWL := zw4 (List.mem_of_getElem? (i := 50) rfl) rfl
set_option maxRecDepth 20000 in
theorem mi_X5_weigh : Cond.instanceMethod yX5_weigh ∈ zWL := zw4 (List.mem_of_getElem? (i := 48) rfl) rfl
set_option maxRecDepth 20000 in
theorem ml_X5_weigh : Cond.selects RX5 yX5_weigh yX5_weigh ∈ zWL := zw4 (List.mem_of_getElem? (i := 49) rfl) rfl
set_option maxRecDepth 20000 in
theorem mc_X5_greatestClaim : Cond.code yX5_greatestClaim cX5_greatestClaim 4 (some .int) ∈ zWL := zw4 (List.mem_of_getElem? (i := 56) rfl) rfl
set_option maxRecDepth 20000 in
theorem mi_X5_greatestClaim : Cond.instanceMethod yX5_greatestClaim ∈ zWL := zw4 (List.mem_of_getElem? (i := 54) rfl) rfl
set_option maxRecDepth 20000 in
theorem ml_X5_greatestClaim : Cond.selects RX5 yX5_greatestClaim yX5_greatestClaim ∈ zWL := zw4 (List.mem_of_getElem? (i := 55) rfl) rfl
set_option maxRecDepth 20000 in
theorem mc_X5_rankOf : Cond.code yX5_rankOf cX5_rankOf 4 (some .int) ∈ zWL := zw4 (List.mem_of_getElem? (i := 187) rfl) rfl
set_option maxRecDepth 20000 in
theorem mi_X5_rankOf : Cond.instanceMethod yX5_rankOf ∈ zWL := zw4 (List.mem_of_getElem? (i := 185) rfl) rfl
set_option maxRecDepth 20000 in
theorem ml_X5_rankOf : Cond.selects RX5 yX5_rankOf yX5_rankOf ∈ zWL := zw4 (List.mem_of_getElem? (i := 186) rfl) rfl
set_option maxRecDepth 20000 in
theorem mc_X5_winnerBy : Cond.code yX5_winnerBy cX5_winnerBy 2 (some .int) ∈ zWL := zw4 (List.mem_of_getElem? (i := 46) rfl) rfl
set_option maxRecDepth 20000 in
theorem mi_X5_winnerBy : Cond.instanceMethod yX5_winnerBy ∈ zWL := zw4 (List.mem_of_getElem? (i := 44) rfl) rfl
set_option maxRecDepth 20000 in
theorem ml_X5_winnerBy : Cond.selects RX5 yX5_winnerBy yX5_winnerBy ∈ zWL := zw4 (List.mem_of_getElem? (i := 45) rfl) rfl
set_option maxRecDepth 20000 in
theorem mc_X5_rainsOf : Cond.code yX5_rainsOf cX5_rainsOf 4 (some .int) ∈ zWL := zw5 (List.mem_of_getElem? (i := 89) rfl) rfl
set_option maxRecDepth 20000 in
theorem mi_X5_rainsOf : Cond.instanceMethod yX5_rainsOf ∈ zWL := zw5 (List.mem_of_getElem? (i := 87) rfl) rfl
set_option maxRecDepth 20000 in
theorem ml_X5_rainsOf : Cond.selects RX5 yX5_rainsOf yX5_rainsOf ∈ zWL := zw5 (List.mem_of_getElem? (i := 88) rfl) rfl
set_option maxRecDepth 20000 in
theorem mc_X5_endMonth : Cond.code yX5_endMonth cX5_endMonth 2 none ∈ zWL := zw4 (List.mem_of_getElem? (i := 146) rfl) rfl
set_option maxRecDepth 20000 in
theorem mi_X5_endMonth : Cond.instanceMethod yX5_endMonth ∈ zWL := zw4 (List.mem_of_getElem? (i := 145) rfl) rfl
theorem ml_X5_endMonth : Cond.selects RX5 yX5_endMonth yX5_endMonth ∈ zWL := List.mem_append_right _ (List.mem_filter.mpr ⟨List.mem_map.mpr ⟨(⟨"SourceDispute$River", "endMonth", "()V"⟩, 7), List.mem_of_getElem? (i := 34) (by decide +kernel), rfl⟩, by decide +kernel⟩)
set_option maxRecDepth 20000 in
theorem mc_X5_goOn : Cond.code yX5_goOn cX5_goOn 1 none ∈ zWL := zw5 (List.mem_of_getElem? (i := 22) rfl) rfl
set_option maxRecDepth 20000 in
theorem mi_X5_goOn : Cond.instanceMethod yX5_goOn ∈ zWL := zw5 (List.mem_of_getElem? (i := 20) rfl) rfl
set_option maxRecDepth 20000 in
theorem ml_X5_goOn : Cond.selects RX5 yX5_goOn yX5_goOn ∈ zWL := zw5 (List.mem_of_getElem? (i := 21) rfl) rfl
set_option maxRecDepth 20000 in
theorem mc_X5_goThrough : Cond.code yX5_goThrough cX5_goThrough 6 none ∈ zWL := zw4 (List.mem_of_getElem? (i := 141) rfl) rfl
set_option maxRecDepth 20000 in
theorem mi_X5_goThrough : Cond.instanceMethod yX5_goThrough ∈ zWL := zw4 (List.mem_of_getElem? (i := 139) rfl) rfl
set_option maxRecDepth 20000 in
theorem ml_X5_goThrough : Cond.selects RX5 yX5_goThrough yX5_goThrough ∈ zWL := zw4 (List.mem_of_getElem? (i := 140) rfl) rfl
set_option maxRecDepth 20000 in
theorem mc_X6_init : Cond.code yX6_init cX6_init 1 none ∈ zWL := zw1 (List.mem_of_getElem? (i := 181) rfl) rfl
set_option maxRecDepth 20000 in
theorem mc_X6_form : Cond.code yX6_form cX6_form 7 none ∈ zWL := zw3 (List.mem_of_getElem? (i := 208) rfl) rfl
set_option maxRecDepth 20000 in
theorem mi_X6_form : Cond.instanceMethod yX6_form ∈ zWL := zw3 (List.mem_of_getElem? (i := 206) rfl) rfl
set_option maxRecDepth 20000 in
theorem ml_X6_form : Cond.selects RX6 yX6_form yX6_form ∈ zWL := zw3 (List.mem_of_getElem? (i := 207) rfl) rfl
set_option maxRecDepth 20000 in
theorem mc_X6_countAbove : Cond.code yX6_countAbove cX6_countAbove 4 none ∈ zWL := zw3 (List.mem_of_getElem? (i := 216) rfl) rfl
set_option maxRecDepth 20000 in
theorem mi_X6_countAbove : Cond.instanceMethod yX6_countAbove ∈ zWL := zw3 (List.mem_of_getElem? (i := 215) rfl) rfl
theorem ml_X6_countAbove : Cond.selects RX6 yX6_countAbove yX6_countAbove ∈ zWL := List.mem_append_right _ (List.mem_filter.mpr ⟨List.mem_map.mpr ⟨(⟨"SourceDispute$Shape", "countAbove", "(LSourceDispute$Course;)V"⟩, 7), List.mem_of_getElem? (i := 23) (by decide +kernel), rfl⟩, by decide +kernel⟩)
set_option maxRecDepth 20000 in
theorem mc_X6_orderOf : Cond.code yX6_orderOf cX6_orderOf 7 (some .int) ∈ zWL := zw5 (List.mem_of_getElem? (i := 76) rfl) rfl
set_option maxRecDepth 20000 in
theorem mi_X6_orderOf : Cond.instanceMethod yX6_orderOf ∈ zWL := zw5 (List.mem_of_getElem? (i := 74) rfl) rfl
set_option maxRecDepth 20000 in
theorem ml_X6_orderOf : Cond.selects RX6 yX6_orderOf yX6_orderOf ∈ zWL := zw5 (List.mem_of_getElem? (i := 75) rfl) rfl
set_option maxRecDepth 20000 in
theorem mc_X6_isSource : Cond.code yX6_isSource cX6_isSource 2 (some .boolean) ∈ zWL := zw4 (List.mem_of_getElem? (i := 20) rfl) rfl
set_option maxRecDepth 20000 in
theorem mi_X6_isSource : Cond.instanceMethod yX6_isSource ∈ zWL := zw4 (List.mem_of_getElem? (i := 18) rfl) rfl
set_option maxRecDepth 20000 in
theorem ml_X6_isSource : Cond.selects RX6 yX6_isSource yX6_isSource ∈ zWL := zw4 (List.mem_of_getElem? (i := 19) rfl) rfl
set_option maxRecDepth 20000 in
theorem mc_X6_sources : Cond.code yX6_sources cX6_sources 3 (some .int) ∈ zWL := zw4 (List.mem_of_getElem? (i := 65) rfl) rfl
set_option maxRecDepth 20000 in
theorem mi_X6_sources : Cond.instanceMethod yX6_sources ∈ zWL := zw4 (List.mem_of_getElem? (i := 63) rfl) rfl
set_option maxRecDepth 20000 in
theorem ml_X6_sources : Cond.selects RX6 yX6_sources yX6_sources ∈ zWL := zw4 (List.mem_of_getElem? (i := 64) rfl) rfl
set_option maxRecDepth 20000 in
theorem mc_X6_comingBy : Cond.code yX6_comingBy cX6_comingBy 4 (some .int) ∈ zWL := zw5 (List.mem_of_getElem? (i := 84) rfl) rfl
set_option maxRecDepth 20000 in
theorem mi_X6_comingBy : Cond.instanceMethod yX6_comingBy ∈ zWL := zw5 (List.mem_of_getElem? (i := 82) rfl) rfl
set_option maxRecDepth 20000 in
theorem ml_X6_comingBy : Cond.selects RX6 yX6_comingBy yX6_comingBy ∈ zWL := zw5 (List.mem_of_getElem? (i := 83) rfl) rfl
set_option maxRecDepth 20000 in
theorem mc_X6_greatestFar : Cond.code yX6_greatestFar cX6_greatestFar 3 (some .int) ∈ zWL := zw4 (List.mem_of_getElem? (i := 103) rfl) rfl
set_option maxRecDepth 20000 in
theorem mi_X6_greatestFar : Cond.instanceMethod yX6_greatestFar ∈ zWL := zw4 (List.mem_of_getElem? (i := 101) rfl) rfl
set_option maxRecDepth 20000 in
theorem ml_X6_greatestFar : Cond.selects RX6 yX6_greatestFar yX6_greatestFar ∈ zWL := zw4 (List.mem_of_getElem? (i := 102) rfl) rfl
set_option maxRecDepth 20000 in
theorem mc_X6_deepest : Cond.code yX6_deepest cX6_deepest 3 (some .int) ∈ zWL := zw5 (List.mem_of_getElem? (i := 67) rfl) rfl
set_option maxRecDepth 20000 in
theorem mi_X6_deepest : Cond.instanceMethod yX6_deepest ∈ zWL := zw5 (List.mem_of_getElem? (i := 65) rfl) rfl
set_option maxRecDepth 20000 in
theorem ml_X6_deepest : Cond.selects RX6 yX6_deepest yX6_deepest ∈ zWL := zw5 (List.mem_of_getElem? (i := 66) rfl) rfl
set_option maxRecDepth 20000 in
theorem mc_X6_tourOf : Cond.code yX6_tourOf cX6_tourOf 6 (some .int) ∈ zWL := zw5 (List.mem_of_getElem? (i := 97) rfl) rfl
set_option maxRecDepth 20000 in
theorem mi_X6_tourOf : Cond.instanceMethod yX6_tourOf ∈ zWL := zw5 (List.mem_of_getElem? (i := 95) rfl) rfl
set_option maxRecDepth 20000 in
theorem ml_X6_tourOf : Cond.selects RX6 yX6_tourOf yX6_tourOf ∈ zWL := zw5 (List.mem_of_getElem? (i := 96) rfl) rfl
set_option maxRecDepth 20000 in
theorem mc_X6_meeting : Cond.code yX6_meeting cX6_meeting 6 (some .int) ∈ zWL := zw5 (List.mem_of_getElem? (i := 109) rfl) rfl
set_option maxRecDepth 20000 in
theorem mi_X6_meeting : Cond.instanceMethod yX6_meeting ∈ zWL := zw5 (List.mem_of_getElem? (i := 107) rfl) rfl
set_option maxRecDepth 20000 in
theorem ml_X6_meeting : Cond.selects RX6 yX6_meeting yX6_meeting ∈ zWL := zw5 (List.mem_of_getElem? (i := 108) rfl) rfl
set_option maxRecDepth 20000 in
theorem mc_X7_init : Cond.code yX7_init cX7_init 1 none ∈ zWL := zw1 (List.mem_of_getElem? (i := 34) rfl) rfl
set_option maxRecDepth 20000 in
theorem mc_X7_append : Cond.code yX7_append cX7_append 3 none ∈ zWL := zw2 (List.mem_of_getElem? (i := 230) rfl) rfl
set_option maxRecDepth 20000 in
theorem mi_X7_append : Cond.instanceMethod yX7_append ∈ zWL := zw2 (List.mem_of_getElem? (i := 228) rfl) rfl
set_option maxRecDepth 20000 in
theorem ml_X7_append : Cond.selects RX7 yX7_append yX7_append ∈ zWL := zw2 (List.mem_of_getElem? (i := 229) rfl) rfl
set_option maxRecDepth 20000 in
theorem mc_X8_init : Cond.code yX8_init cX8_init 4 none ∈ zWL := zw1 (List.mem_of_getElem? (i := 56) rfl) rfl
set_option maxRecDepth 20000 in
theorem mc_X8_withLetter : Cond.code yX8_withLetter cX8_withLetter 3 (some .long) ∈ zWL := zw1 (List.mem_of_getElem? (i := 109) rfl) rfl
set_option maxRecDepth 20000 in
theorem ms_X8_withLetter : Cond.static yX8_withLetter ∈ zWL := zw1 (List.mem_of_getElem? (i := 108) rfl) rfl
set_option maxRecDepth 20000 in
theorem mc_X8_scan : Cond.code yX8_scan cX8_scan 8 none ∈ zWL := zw3 (List.mem_of_getElem? (i := 6) rfl) rfl
set_option maxRecDepth 20000 in
theorem mi_X8_scan : Cond.instanceMethod yX8_scan ∈ zWL := zw3 (List.mem_of_getElem? (i := 4) rfl) rfl
set_option maxRecDepth 20000 in
theorem ml_X8_scan : Cond.selects RX8 yX8_scan yX8_scan ∈ zWL := zw3 (List.mem_of_getElem? (i := 5) rfl) rfl
set_option maxRecDepth 20000 in
theorem mc_X8_addLetters : Cond.code yX8_addLetters cX8_addLetters 7 (some .int) ∈ zWL := zw3 (List.mem_of_getElem? (i := 20) rfl) rfl
set_option maxRecDepth 20000 in
theorem mi_X8_addLetters : Cond.instanceMethod yX8_addLetters ∈ zWL := zw3 (List.mem_of_getElem? (i := 19) rfl) rfl
theorem ml_X8_addLetters : Cond.selects RX8 yX8_addLetters yX8_addLetters ∈ zWL := List.mem_append_right _ (List.mem_filter.mpr ⟨List.mem_map.mpr ⟨(⟨"SourceDispute$Tokens", "addLetters", "([BII)I"⟩, 5), List.mem_of_getElem? (i := 1) (by decide +kernel), rfl⟩, by decide +kernel⟩)
set_option maxRecDepth 20000 in
theorem mc_X8_addDigits : Cond.code yX8_addDigits cX8_addDigits 6 (some .int) ∈ zWL := zw3 (List.mem_of_getElem? (i := 31) rfl) rfl
set_option maxRecDepth 20000 in
theorem mi_X8_addDigits : Cond.instanceMethod yX8_addDigits ∈ zWL := zw3 (List.mem_of_getElem? (i := 30) rfl) rfl
theorem ml_X8_addDigits : Cond.selects RX8 yX8_addDigits yX8_addDigits ∈ zWL := List.mem_append_right _ (List.mem_filter.mpr ⟨List.mem_map.mpr ⟨(⟨"SourceDispute$Tokens", "addDigits", "([BII)I"⟩, 5), List.mem_of_getElem? (i := 3) (by decide +kernel), rfl⟩, by decide +kernel⟩)
set_option maxRecDepth 20000 in
theorem mc_X8_kindOf : Cond.code yX8_kindOf cX8_kindOf 5 (some .int) ∈ zWL := zw3 (List.mem_of_getElem? (i := 24) rfl) rfl
set_option maxRecDepth 20000 in
theorem mi_X8_kindOf : Cond.instanceMethod yX8_kindOf ∈ zWL := zw3 (List.mem_of_getElem? (i := 23) rfl) rfl
theorem ml_X8_kindOf : Cond.selects RX8 yX8_kindOf yX8_kindOf ∈ zWL := List.mem_append_right _ (List.mem_filter.mpr ⟨List.mem_map.mpr ⟨(⟨"SourceDispute$Tokens", "kindOf", "(J)I"⟩, 5), List.mem_of_getElem? (i := 2) (by decide +kernel), rfl⟩, by decide +kernel⟩)
set_option maxRecDepth 20000 in
theorem mc_X8_add : Cond.code yX8_add cX8_add 5 none ∈ zWL := zw3 (List.mem_of_getElem? (i := 13) rfl) rfl
set_option maxRecDepth 20000 in
theorem mi_X8_add : Cond.instanceMethod yX8_add ∈ zWL := zw3 (List.mem_of_getElem? (i := 12) rfl) rfl
theorem ml_X8_add : Cond.selects RX8 yX8_add yX8_add ∈ zWL := List.mem_append_right _ (List.mem_filter.mpr ⟨List.mem_map.mpr ⟨(⟨"SourceDispute$Tokens", "add", "(IJI)V"⟩, 5), List.mem_of_getElem? (i := 0) (by decide +kernel), rfl⟩, by decide +kernel⟩)
set_option maxRecDepth 20000 in
theorem mc_X8_pastBlanks : Cond.code yX8_pastBlanks cX8_pastBlanks 4 (some .int) ∈ zWL := zw3 (List.mem_of_getElem? (i := 9) rfl) rfl
set_option maxRecDepth 20000 in
theorem ms_X8_pastBlanks : Cond.static yX8_pastBlanks ∈ zWL := zw3 (List.mem_of_getElem? (i := 8) rfl) rfl
set_option maxRecDepth 20000 in
theorem mc_X8_isLetter : Cond.code yX8_isLetter cX8_isLetter 1 (some .boolean) ∈ zWL := zw3 (List.mem_of_getElem? (i := 16) rfl) rfl
set_option maxRecDepth 20000 in
theorem ms_X8_isLetter : Cond.static yX8_isLetter ∈ zWL := zw3 (List.mem_of_getElem? (i := 15) rfl) rfl
set_option maxRecDepth 20000 in
theorem mc_X8_isDigit : Cond.code yX8_isDigit cX8_isDigit 1 (some .boolean) ∈ zWL := zw3 (List.mem_of_getElem? (i := 27) rfl) rfl
set_option maxRecDepth 20000 in
theorem ms_X8_isDigit : Cond.static yX8_isDigit ∈ zWL := zw3 (List.mem_of_getElem? (i := 26) rfl) rfl
set_option maxRecDepth 20000 in
theorem mc_X9_init : Cond.code yX9_init cX9_init 1 none ∈ zWL := zw2 (List.mem_of_getElem? (i := 99) rfl) rfl
set_option maxRecDepth 20000 in
theorem mc_X9_clear : Cond.code yX9_clear cX9_clear 3 none ∈ zWL := zw2 (List.mem_of_getElem? (i := 104) rfl) rfl
set_option maxRecDepth 20000 in
theorem mi_X9_clear : Cond.instanceMethod yX9_clear ∈ zWL := zw2 (List.mem_of_getElem? (i := 102) rfl) rfl
set_option maxRecDepth 20000 in
theorem ml_X9_clear : Cond.selects RX9 yX9_clear yX9_clear ∈ zWL := zw2 (List.mem_of_getElem? (i := 103) rfl) rfl
set_option maxRecDepth 20000 in
theorem mc_X9_addStep : Cond.code yX9_addStep cX9_addStep 3 none ∈ zWL := zw2 (List.mem_of_getElem? (i := 110) rfl) rfl
set_option maxRecDepth 20000 in
theorem mi_X9_addStep : Cond.instanceMethod yX9_addStep ∈ zWL := zw2 (List.mem_of_getElem? (i := 108) rfl) rfl
set_option maxRecDepth 20000 in
theorem ml_X9_addStep : Cond.selects RX9 yX9_addStep yX9_addStep ∈ zWL := zw2 (List.mem_of_getElem? (i := 109) rfl) rfl
set_option maxRecDepth 20000 in
theorem mc_X9_setValue : Cond.code yX9_setValue cX9_setValue 3 none ∈ zWL := zw3 (List.mem_of_getElem? (i := 165) rfl) rfl
set_option maxRecDepth 20000 in
theorem mi_X9_setValue : Cond.instanceMethod yX9_setValue ∈ zWL := zw3 (List.mem_of_getElem? (i := 163) rfl) rfl
set_option maxRecDepth 20000 in
theorem ml_X9_setValue : Cond.selects RX9 yX9_setValue yX9_setValue ∈ zWL := zw3 (List.mem_of_getElem? (i := 164) rfl) rfl
set_option maxRecDepth 20000 in
theorem mc_X9_setPlace : Cond.code yX9_setPlace cX9_setPlace 6 none ∈ zWL := zw3 (List.mem_of_getElem? (i := 128) rfl) rfl
set_option maxRecDepth 20000 in
theorem mi_X9_setPlace : Cond.instanceMethod yX9_setPlace ∈ zWL := zw3 (List.mem_of_getElem? (i := 126) rfl) rfl
set_option maxRecDepth 20000 in
theorem ml_X9_setPlace : Cond.selects RX9 yX9_setPlace yX9_setPlace ∈ zWL := zw3 (List.mem_of_getElem? (i := 127) rfl) rfl
set_option maxRecDepth 20000 in
theorem mc_X9_isStorm : Cond.code yX9_isStorm cX9_isStorm 3 (some .boolean) ∈ zWL := zw4 (List.mem_of_getElem? (i := 87) rfl) rfl
set_option maxRecDepth 20000 in
theorem mi_X9_isStorm : Cond.instanceMethod yX9_isStorm ∈ zWL := zw4 (List.mem_of_getElem? (i := 85) rfl) rfl
set_option maxRecDepth 20000 in
theorem ml_X9_isStorm : Cond.selects RX9 yX9_isStorm yX9_isStorm ∈ zWL := zw4 (List.mem_of_getElem? (i := 86) rfl) rfl
set_option maxRecDepth 20000 in
theorem mc_X9_lot : Cond.code yX9_lot cX9_lot 3 (some .int) ∈ zWL := zw4 (List.mem_of_getElem? (i := 90) rfl) rfl
set_option maxRecDepth 20000 in
theorem ms_X9_lot : Cond.static yX9_lot ∈ zWL := zw4 (List.mem_of_getElem? (i := 89) rfl) rfl
set_option maxRecDepth 20000 in
theorem mc_X9_stirred : Cond.code yX9_stirred cX9_stirred 3 (some .int) ∈ zWL := zw4 (List.mem_of_getElem? (i := 93) rfl) rfl
set_option maxRecDepth 20000 in
theorem ms_X9_stirred : Cond.static yX9_stirred ∈ zWL := zw4 (List.mem_of_getElem? (i := 92) rfl) rfl
set_option maxRecDepth 20000 in
theorem mc_X10_init : Cond.code yX10_init cX10_init 2 none ∈ zWL := zw1 (List.mem_of_getElem? (i := 26) rfl) rfl
set_option maxRecDepth 20000 in
theorem mc_X10_feed : Cond.code yX10_feed cX10_feed 6 (some .int) ∈ zWL := zw2 (List.mem_of_getElem? (i := 226) rfl) rfl
set_option maxRecDepth 20000 in
theorem mi_X10_feed : Cond.instanceMethod yX10_feed ∈ zWL := zw2 (List.mem_of_getElem? (i := 224) rfl) rfl
set_option maxRecDepth 20000 in
theorem ml_X10_feed : Cond.selects RX10 yX10_feed yX10_feed ∈ zWL := zw2 (List.mem_of_getElem? (i := 225) rfl) rfl
set_option maxRecDepth 20000 in
theorem mc_X10_back : Cond.code yX10_back cX10_back 2 (some .int) ∈ zWL := zw2 (List.mem_of_getElem? (i := 234) rfl) rfl
set_option maxRecDepth 20000 in
theorem mi_X10_back : Cond.instanceMethod yX10_back ∈ zWL := zw2 (List.mem_of_getElem? (i := 232) rfl) rfl
set_option maxRecDepth 20000 in
theorem ml_X10_back : Cond.selects RX10 yX10_back yX10_back ∈ zWL := zw2 (List.mem_of_getElem? (i := 233) rfl) rfl
set_option maxRecDepth 20000 in
theorem mc_X10_read : Cond.code yX10_read cX10_read 3 (some .int) ∈ zWL := zw2 (List.mem_of_getElem? (i := 238) rfl) rfl
set_option maxRecDepth 20000 in
theorem mi_X10_read : Cond.instanceMethod yX10_read ∈ zWL := zw2 (List.mem_of_getElem? (i := 236) rfl) rfl
set_option maxRecDepth 20000 in
theorem ml_X10_read : Cond.selects RX10 yX10_read yX10_read ∈ zWL := zw2 (List.mem_of_getElem? (i := 237) rfl) rfl
set_option maxRecDepth 20000 in
theorem mc_X10_beginAnew : Cond.code yX10_beginAnew cX10_beginAnew 1 none ∈ zWL := zw3 (List.mem_of_getElem? (i := 169) rfl) rfl
set_option maxRecDepth 20000 in
theorem mi_X10_beginAnew : Cond.instanceMethod yX10_beginAnew ∈ zWL := zw3 (List.mem_of_getElem? (i := 168) rfl) rfl
theorem ml_X10_beginAnew : Cond.selects RX10 yX10_beginAnew yX10_beginAnew ∈ zWL := List.mem_append_right _ (List.mem_filter.mpr ⟨List.mem_map.mpr ⟨(⟨"SourceDispute", "beginAnew", "()V"⟩, 14), List.mem_of_getElem? (i := 19) (by decide +kernel), rfl⟩, by decide +kernel⟩)
set_option maxRecDepth 20000 in
theorem mc_X10_place : Cond.code yX10_place cX10_place 1 (some .int) ∈ zWL := zw3 (List.mem_of_getElem? (i := 183) rfl) rfl
set_option maxRecDepth 20000 in
theorem mi_X10_place : Cond.instanceMethod yX10_place ∈ zWL := zw3 (List.mem_of_getElem? (i := 181) rfl) rfl
set_option maxRecDepth 20000 in
theorem ml_X10_place : Cond.selects RX10 yX10_place yX10_place ∈ zWL := zw3 (List.mem_of_getElem? (i := 182) rfl) rfl
set_option maxRecDepth 20000 in
theorem mc_X10_spot : Cond.code yX10_spot cX10_spot 3 (some .int) ∈ zWL := zw3 (List.mem_of_getElem? (i := 187) rfl) rfl
set_option maxRecDepth 20000 in
theorem mi_X10_spot : Cond.instanceMethod yX10_spot ∈ zWL := zw3 (List.mem_of_getElem? (i := 185) rfl) rfl
set_option maxRecDepth 20000 in
theorem ml_X10_spot : Cond.selects RX10 yX10_spot yX10_spot ∈ zWL := zw3 (List.mem_of_getElem? (i := 186) rfl) rfl
set_option maxRecDepth 20000 in
theorem mc_X10_claim : Cond.code yX10_claim cX10_claim 3 (some .int) ∈ zWL := zw4 (List.mem_of_getElem? (i := 25) rfl) rfl
set_option maxRecDepth 20000 in
theorem mi_X10_claim : Cond.instanceMethod yX10_claim ∈ zWL := zw4 (List.mem_of_getElem? (i := 23) rfl) rfl
set_option maxRecDepth 20000 in
theorem ml_X10_claim : Cond.selects RX10 yX10_claim yX10_claim ∈ zWL := zw4 (List.mem_of_getElem? (i := 24) rfl) rfl
set_option maxRecDepth 20000 in
theorem mc_X10_winner : Cond.code yX10_winner cX10_winner 2 (some .int) ∈ zWL := zw4 (List.mem_of_getElem? (i := 42) rfl) rfl
set_option maxRecDepth 20000 in
theorem mi_X10_winner : Cond.instanceMethod yX10_winner ∈ zWL := zw4 (List.mem_of_getElem? (i := 40) rfl) rfl
set_option maxRecDepth 20000 in
theorem ml_X10_winner : Cond.selects RX10 yX10_winner yX10_winner ∈ zWL := zw4 (List.mem_of_getElem? (i := 41) rfl) rfl
set_option maxRecDepth 20000 in
theorem mc_X10_count : Cond.code yX10_count cX10_count 2 (some .int) ∈ zWL := zw4 (List.mem_of_getElem? (i := 60) rfl) rfl
set_option maxRecDepth 20000 in
theorem mi_X10_count : Cond.instanceMethod yX10_count ∈ zWL := zw4 (List.mem_of_getElem? (i := 58) rfl) rfl
set_option maxRecDepth 20000 in
theorem ml_X10_count : Cond.selects RX10 yX10_count yX10_count ∈ zWL := zw4 (List.mem_of_getElem? (i := 59) rfl) rfl
set_option maxRecDepth 20000 in
theorem mc_X10_sumOf : Cond.code yX10_sumOf cX10_sumOf 4 (some .int) ∈ zWL := zw4 (List.mem_of_getElem? (i := 77) rfl) rfl
set_option maxRecDepth 20000 in
theorem mi_X10_sumOf : Cond.instanceMethod yX10_sumOf ∈ zWL := zw4 (List.mem_of_getElem? (i := 76) rfl) rfl
theorem ml_X10_sumOf : Cond.selects RX10 yX10_sumOf yX10_sumOf ∈ zWL := List.mem_append_right _ (List.mem_filter.mpr ⟨List.mem_map.mpr ⟨(⟨"SourceDispute", "sumOf", "([I)I"⟩, 14), List.mem_of_getElem? (i := 31) (by decide +kernel), rfl⟩, by decide +kernel⟩)
set_option maxRecDepth 20000 in
theorem mc_X10_turnedPlaces : Cond.code yX10_turnedPlaces cX10_turnedPlaces 3 (some .int) ∈ zWL := zw4 (List.mem_of_getElem? (i := 99) rfl) rfl
set_option maxRecDepth 20000 in
theorem mi_X10_turnedPlaces : Cond.instanceMethod yX10_turnedPlaces ∈ zWL := zw4 (List.mem_of_getElem? (i := 98) rfl) rfl
theorem ml_X10_turnedPlaces : Cond.selects RX10 yX10_turnedPlaces yX10_turnedPlaces ∈ zWL := List.mem_append_right _ (List.mem_filter.mpr ⟨List.mem_map.mpr ⟨(⟨"SourceDispute", "turnedPlaces", "()I"⟩, 14), List.mem_of_getElem? (i := 32) (by decide +kernel), rfl⟩, by decide +kernel⟩)
set_option maxRecDepth 20000 in
theorem mc_X10_dam : Cond.code yX10_dam cX10_dam 3 (some .boolean) ∈ zWL := zw4 (List.mem_of_getElem? (i := 108) rfl) rfl
set_option maxRecDepth 20000 in
theorem mi_X10_dam : Cond.instanceMethod yX10_dam ∈ zWL := zw4 (List.mem_of_getElem? (i := 106) rfl) rfl
set_option maxRecDepth 20000 in
theorem ml_X10_dam : Cond.selects RX10 yX10_dam yX10_dam ∈ zWL := zw4 (List.mem_of_getElem? (i := 107) rfl) rfl
set_option maxRecDepth 20000 in
theorem mc_X10_turn : Cond.code yX10_turn cX10_turn 3 (some .boolean) ∈ zWL := zw4 (List.mem_of_getElem? (i := 121) rfl) rfl
set_option maxRecDepth 20000 in
theorem mi_X10_turn : Cond.instanceMethod yX10_turn ∈ zWL := zw4 (List.mem_of_getElem? (i := 119) rfl) rfl
set_option maxRecDepth 20000 in
theorem ml_X10_turn : Cond.selects RX10 yX10_turn yX10_turn ∈ zWL := zw4 (List.mem_of_getElem? (i := 120) rfl) rfl
set_option maxRecDepth 20000 in
theorem mc_X10_isTurn : Cond.code yX10_isTurn cX10_isTurn 3 (some .boolean) ∈ zWL := zw4 (List.mem_of_getElem? (i := 125) rfl) rfl
set_option maxRecDepth 20000 in
theorem mi_X10_isTurn : Cond.instanceMethod yX10_isTurn ∈ zWL := zw4 (List.mem_of_getElem? (i := 124) rfl) rfl
theorem ml_X10_isTurn : Cond.selects RX10 yX10_isTurn yX10_isTurn ∈ zWL := List.mem_append_right _ (List.mem_filter.mpr ⟨List.mem_map.mpr ⟨(⟨"SourceDispute", "isTurn", "(II)Z"⟩, 14), List.mem_of_getElem? (i := 33) (by decide +kernel), rfl⟩, by decide +kernel⟩)
set_option maxRecDepth 20000 in
theorem mc_X10_rule : Cond.code yX10_rule cX10_rule 2 (some .boolean) ∈ zWL := zw4 (List.mem_of_getElem? (i := 133) rfl) rfl
set_option maxRecDepth 20000 in
theorem mi_X10_rule : Cond.instanceMethod yX10_rule ∈ zWL := zw4 (List.mem_of_getElem? (i := 131) rfl) rfl
set_option maxRecDepth 20000 in
theorem ml_X10_rule : Cond.selects RX10 yX10_rule yX10_rule ∈ zWL := zw4 (List.mem_of_getElem? (i := 132) rfl) rfl
set_option maxRecDepth 20000 in
theorem mc_X10_months : Cond.code yX10_months cX10_months 2 (some .int) ∈ zWL := zw4 (List.mem_of_getElem? (i := 137) rfl) rfl
set_option maxRecDepth 20000 in
theorem mi_X10_months : Cond.instanceMethod yX10_months ∈ zWL := zw4 (List.mem_of_getElem? (i := 135) rfl) rfl
set_option maxRecDepth 20000 in
theorem ml_X10_months : Cond.selects RX10 yX10_months yX10_months ∈ zWL := zw4 (List.mem_of_getElem? (i := 136) rfl) rfl
set_option maxRecDepth 20000 in
theorem mc_X10_undo : Cond.code yX10_undo cX10_undo 1 (some .boolean) ∈ zWL := zw4 (List.mem_of_getElem? (i := 156) rfl) rfl
set_option maxRecDepth 20000 in
theorem mi_X10_undo : Cond.instanceMethod yX10_undo ∈ zWL := zw4 (List.mem_of_getElem? (i := 154) rfl) rfl
set_option maxRecDepth 20000 in
theorem ml_X10_undo : Cond.selects RX10 yX10_undo yX10_undo ∈ zWL := zw4 (List.mem_of_getElem? (i := 155) rfl) rfl
set_option maxRecDepth 20000 in
theorem mc_X10_hold : Cond.code yX10_hold cX10_hold 2 (some .boolean) ∈ zWL := zw4 (List.mem_of_getElem? (i := 164) rfl) rfl
set_option maxRecDepth 20000 in
theorem mi_X10_hold : Cond.instanceMethod yX10_hold ∈ zWL := zw4 (List.mem_of_getElem? (i := 162) rfl) rfl
set_option maxRecDepth 20000 in
theorem ml_X10_hold : Cond.selects RX10 yX10_hold yX10_hold ∈ zWL := zw4 (List.mem_of_getElem? (i := 163) rfl) rfl
set_option maxRecDepth 20000 in
theorem mc_X10_restore : Cond.code yX10_restore cX10_restore 2 (some .boolean) ∈ zWL := zw4 (List.mem_of_getElem? (i := 169) rfl) rfl
set_option maxRecDepth 20000 in
theorem mi_X10_restore : Cond.instanceMethod yX10_restore ∈ zWL := zw4 (List.mem_of_getElem? (i := 167) rfl) rfl
set_option maxRecDepth 20000 in
theorem ml_X10_restore : Cond.selects RX10 yX10_restore yX10_restore ∈ zWL := zw4 (List.mem_of_getElem? (i := 168) rfl) rfl
set_option maxRecDepth 20000 in
theorem mc_X10_behind : Cond.code yX10_behind cX10_behind 4 (some .int) ∈ zWL := zw4 (List.mem_of_getElem? (i := 173) rfl) rfl
set_option maxRecDepth 20000 in
theorem mi_X10_behind : Cond.instanceMethod yX10_behind ∈ zWL := zw4 (List.mem_of_getElem? (i := 171) rfl) rfl
set_option maxRecDepth 20000 in
theorem ml_X10_behind : Cond.selects RX10 yX10_behind yX10_behind ∈ zWL := zw4 (List.mem_of_getElem? (i := 172) rfl) rfl
set_option maxRecDepth 20000 in
theorem mc_X10_margin : Cond.code yX10_margin cX10_margin 4 (some .int) ∈ zWL := zw4 (List.mem_of_getElem? (i := 177) rfl) rfl
set_option maxRecDepth 20000 in
theorem mi_X10_margin : Cond.instanceMethod yX10_margin ∈ zWL := zw4 (List.mem_of_getElem? (i := 175) rfl) rfl
set_option maxRecDepth 20000 in
theorem ml_X10_margin : Cond.selects RX10 yX10_margin yX10_margin ∈ zWL := zw4 (List.mem_of_getElem? (i := 176) rfl) rfl
set_option maxRecDepth 20000 in
theorem mc_X10_rank : Cond.code yX10_rank cX10_rank 3 (some .int) ∈ zWL := zw4 (List.mem_of_getElem? (i := 183) rfl) rfl
set_option maxRecDepth 20000 in
theorem mi_X10_rank : Cond.instanceMethod yX10_rank ∈ zWL := zw4 (List.mem_of_getElem? (i := 181) rfl) rfl
set_option maxRecDepth 20000 in
theorem ml_X10_rank : Cond.selects RX10 yX10_rank yX10_rank ∈ zWL := zw4 (List.mem_of_getElem? (i := 182) rfl) rfl
set_option maxRecDepth 20000 in
theorem mc_X10_vote : Cond.code yX10_vote cX10_vote 4 (some .int) ∈ zWL := zw4 (List.mem_of_getElem? (i := 191) rfl) rfl
set_option maxRecDepth 20000 in
theorem mi_X10_vote : Cond.instanceMethod yX10_vote ∈ zWL := zw4 (List.mem_of_getElem? (i := 189) rfl) rfl
set_option maxRecDepth 20000 in
theorem ml_X10_vote : Cond.selects RX10 yX10_vote yX10_vote ∈ zWL := zw4 (List.mem_of_getElem? (i := 190) rfl) rfl
set_option maxRecDepth 20000 in
theorem mc_X10_castVotes : Cond.code yX10_castVotes cX10_castVotes 4 none ∈ zWL := zw4 (List.mem_of_getElem? (i := 195) rfl) rfl
set_option maxRecDepth 20000 in
theorem mi_X10_castVotes : Cond.instanceMethod yX10_castVotes ∈ zWL := zw4 (List.mem_of_getElem? (i := 194) rfl) rfl
theorem ml_X10_castVotes : Cond.selects RX10 yX10_castVotes yX10_castVotes ∈ zWL := List.mem_append_right _ (List.mem_filter.mpr ⟨List.mem_map.mpr ⟨(⟨"SourceDispute", "castVotes", "()V"⟩, 14), List.mem_of_getElem? (i := 35) (by decide +kernel), rfl⟩, by decide +kernel⟩)
set_option maxRecDepth 20000 in
theorem mc_X10_votesFor : Cond.code yX10_votesFor cX10_votesFor 4 (some .int) ∈ zWL := zw4 (List.mem_of_getElem? (i := 199) rfl) rfl
set_option maxRecDepth 20000 in
theorem mi_X10_votesFor : Cond.instanceMethod yX10_votesFor ∈ zWL := zw4 (List.mem_of_getElem? (i := 198) rfl) rfl
theorem ml_X10_votesFor : Cond.selects RX10 yX10_votesFor yX10_votesFor ∈ zWL := List.mem_append_right _ (List.mem_filter.mpr ⟨List.mem_map.mpr ⟨(⟨"SourceDispute", "votesFor", "(I)I"⟩, 14), List.mem_of_getElem? (i := 36) (by decide +kernel), rfl⟩, by decide +kernel⟩)
set_option maxRecDepth 20000 in
theorem mc_X10_richest : Cond.code yX10_richest cX10_richest 4 (some .int) ∈ zWL := zw4 (List.mem_of_getElem? (i := 203) rfl) rfl
set_option maxRecDepth 20000 in
theorem mi_X10_richest : Cond.instanceMethod yX10_richest ∈ zWL := zw4 (List.mem_of_getElem? (i := 201) rfl) rfl
set_option maxRecDepth 20000 in
theorem ml_X10_richest : Cond.selects RX10 yX10_richest yX10_richest ∈ zWL := zw4 (List.mem_of_getElem? (i := 202) rfl) rfl
set_option maxRecDepth 20000 in
theorem mc_X10_turnFor : Cond.code yX10_turnFor cX10_turnFor 5 (some .int) ∈ zWL := zw4 (List.mem_of_getElem? (i := 207) rfl) rfl
set_option maxRecDepth 20000 in
theorem mi_X10_turnFor : Cond.instanceMethod yX10_turnFor ∈ zWL := zw4 (List.mem_of_getElem? (i := 205) rfl) rfl
set_option maxRecDepth 20000 in
theorem ml_X10_turnFor : Cond.selects RX10 yX10_turnFor yX10_turnFor ∈ zWL := zw4 (List.mem_of_getElem? (i := 206) rfl) rfl
set_option maxRecDepth 20000 in
theorem mc_X10_winsTurned : Cond.code yX10_winsTurned cX10_winsTurned 5 (some .boolean) ∈ zWL := zw4 (List.mem_of_getElem? (i := 211) rfl) rfl
set_option maxRecDepth 20000 in
theorem mi_X10_winsTurned : Cond.instanceMethod yX10_winsTurned ∈ zWL := zw4 (List.mem_of_getElem? (i := 210) rfl) rfl
theorem ml_X10_winsTurned : Cond.selects RX10 yX10_winsTurned yX10_winsTurned ∈ zWL := List.mem_append_right _ (List.mem_filter.mpr ⟨List.mem_map.mpr ⟨(⟨"SourceDispute", "winsTurned", "(IIII)Z"⟩, 14), List.mem_of_getElem? (i := 37) (by decide +kernel), rfl⟩, by decide +kernel⟩)
set_option maxRecDepth 20000 in
theorem mc_X10_damFor : Cond.code yX10_damFor cX10_damFor 4 (some .int) ∈ zWL := zw4 (List.mem_of_getElem? (i := 215) rfl) rfl
set_option maxRecDepth 20000 in
theorem mi_X10_damFor : Cond.instanceMethod yX10_damFor ∈ zWL := zw4 (List.mem_of_getElem? (i := 213) rfl) rfl
set_option maxRecDepth 20000 in
theorem ml_X10_damFor : Cond.selects RX10 yX10_damFor yX10_damFor ∈ zWL := zw4 (List.mem_of_getElem? (i := 214) rfl) rfl
set_option maxRecDepth 20000 in
theorem mc_X10_dams : Cond.code yX10_dams cX10_dams 4 (some .int) ∈ zWL := zw4 (List.mem_of_getElem? (i := 220) rfl) rfl
set_option maxRecDepth 20000 in
theorem mi_X10_dams : Cond.instanceMethod yX10_dams ∈ zWL := zw4 (List.mem_of_getElem? (i := 218) rfl) rfl
set_option maxRecDepth 20000 in
theorem ml_X10_dams : Cond.selects RX10 yX10_dams yX10_dams ∈ zWL := zw4 (List.mem_of_getElem? (i := 219) rfl) rfl
set_option maxRecDepth 20000 in
theorem mc_X10_fewestDams : Cond.code yX10_fewestDams cX10_fewestDams 5 (some .int) ∈ zWL := zw4 (List.mem_of_getElem? (i := 224) rfl) rfl
set_option maxRecDepth 20000 in
theorem mi_X10_fewestDams : Cond.instanceMethod yX10_fewestDams ∈ zWL := zw4 (List.mem_of_getElem? (i := 223) rfl) rfl
theorem ml_X10_fewestDams : Cond.selects RX10 yX10_fewestDams yX10_fewestDams ∈ zWL := List.mem_append_right _ (List.mem_filter.mpr ⟨List.mem_map.mpr ⟨(⟨"SourceDispute", "fewestDams", "(I)I"⟩, 14), List.mem_of_getElem? (i := 38) (by decide +kernel), rfl⟩, by decide +kernel⟩)
set_option maxRecDepth 20000 in
theorem mc_X10_isAhead : Cond.code yX10_isAhead cX10_isAhead 4 (some .boolean) ∈ zWL := zw4 (List.mem_of_getElem? (i := 227) rfl) rfl
set_option maxRecDepth 20000 in
theorem ms_X10_isAhead : Cond.static yX10_isAhead ∈ zWL := zw4 (List.mem_of_getElem? (i := 226) rfl) rfl
set_option maxRecDepth 20000 in
theorem mc_X10_loss : Cond.code yX10_loss cX10_loss 2 (some .int) ∈ zWL := zw4 (List.mem_of_getElem? (i := 234) rfl) rfl
set_option maxRecDepth 20000 in
theorem mi_X10_loss : Cond.instanceMethod yX10_loss ∈ zWL := zw4 (List.mem_of_getElem? (i := 232) rfl) rfl
set_option maxRecDepth 20000 in
theorem ml_X10_loss : Cond.selects RX10 yX10_loss yX10_loss ∈ zWL := zw4 (List.mem_of_getElem? (i := 233) rfl) rfl
set_option maxRecDepth 20000 in
theorem mc_X10_lossOf : Cond.code yX10_lossOf cX10_lossOf 3 (some .int) ∈ zWL := zw4 (List.mem_of_getElem? (i := 238) rfl) rfl
set_option maxRecDepth 20000 in
theorem mi_X10_lossOf : Cond.instanceMethod yX10_lossOf ∈ zWL := zw4 (List.mem_of_getElem? (i := 237) rfl) rfl
theorem ml_X10_lossOf : Cond.selects RX10 yX10_lossOf yX10_lossOf ∈ zWL := List.mem_append_right _ (List.mem_filter.mpr ⟨List.mem_map.mpr ⟨(⟨"SourceDispute", "lossOf", "(I)I"⟩, 14), List.mem_of_getElem? (i := 39) (by decide +kernel), rfl⟩, by decide +kernel⟩)
set_option maxRecDepth 20000 in
theorem mc_X10_part : Cond.code yX10_part cX10_part 3 (some .int) ∈ zWL := zw5 (List.mem_of_getElem? (i := 2) rfl) rfl
set_option maxRecDepth 20000 in
theorem mi_X10_part : Cond.instanceMethod yX10_part ∈ zWL := zw5 (List.mem_of_getElem? (i := 0) rfl) rfl
set_option maxRecDepth 20000 in
theorem ml_X10_part : Cond.selects RX10 yX10_part yX10_part ∈ zWL := zw5 (List.mem_of_getElem? (i := 1) rfl) rfl
set_option maxRecDepth 20000 in
theorem mc_X10_main : Cond.code yX10_main cX10_main 4 (some .int) ∈ zWL := zw5 (List.mem_of_getElem? (i := 6) rfl) rfl
set_option maxRecDepth 20000 in
theorem mi_X10_main : Cond.instanceMethod yX10_main ∈ zWL := zw5 (List.mem_of_getElem? (i := 4) rfl) rfl
set_option maxRecDepth 20000 in
theorem ml_X10_main : Cond.selects RX10 yX10_main yX10_main ∈ zWL := zw5 (List.mem_of_getElem? (i := 5) rfl) rfl
set_option maxRecDepth 20000 in
theorem mc_X10_greatestInto : Cond.code yX10_greatestInto cX10_greatestInto 4 (some .int) ∈ zWL := zw5 (List.mem_of_getElem? (i := 10) rfl) rfl
set_option maxRecDepth 20000 in
theorem mi_X10_greatestInto : Cond.instanceMethod yX10_greatestInto ∈ zWL := zw5 (List.mem_of_getElem? (i := 9) rfl) rfl
theorem ml_X10_greatestInto : Cond.selects RX10 yX10_greatestInto yX10_greatestInto ∈ zWL := List.mem_append_right _ (List.mem_filter.mpr ⟨List.mem_map.mpr ⟨(⟨"SourceDispute", "greatestInto", "(I)I"⟩, 14), List.mem_of_getElem? (i := 40) (by decide +kernel), rfl⟩, by decide +kernel⟩)
set_option maxRecDepth 20000 in
theorem mc_X10_tryFromNow : Cond.code yX10_tryFromNow cX10_tryFromNow 1 none ∈ zWL := zw5 (List.mem_of_getElem? (i := 18) rfl) rfl
set_option maxRecDepth 20000 in
theorem mi_X10_tryFromNow : Cond.instanceMethod yX10_tryFromNow ∈ zWL := zw5 (List.mem_of_getElem? (i := 17) rfl) rfl
theorem ml_X10_tryFromNow : Cond.selects RX10 yX10_tryFromNow yX10_tryFromNow ∈ zWL := List.mem_append_right _ (List.mem_filter.mpr ⟨List.mem_map.mpr ⟨(⟨"SourceDispute", "tryFromNow", "()V"⟩, 14), List.mem_of_getElem? (i := 41) (by decide +kernel), rfl⟩, by decide +kernel⟩)
set_option maxRecDepth 20000 in
theorem mc_X10_agree : Cond.code yX10_agree cX10_agree 5 (some .int) ∈ zWL := zw5 (List.mem_of_getElem? (i := 14) rfl) rfl
set_option maxRecDepth 20000 in
theorem mi_X10_agree : Cond.instanceMethod yX10_agree ∈ zWL := zw5 (List.mem_of_getElem? (i := 12) rfl) rfl
set_option maxRecDepth 20000 in
theorem ml_X10_agree : Cond.selects RX10 yX10_agree yX10_agree ∈ zWL := zw5 (List.mem_of_getElem? (i := 13) rfl) rfl
set_option maxRecDepth 20000 in
theorem mc_X10_driest : Cond.code yX10_driest cX10_driest 6 (some .int) ∈ zWL := zw5 (List.mem_of_getElem? (i := 26) rfl) rfl
set_option maxRecDepth 20000 in
theorem mi_X10_driest : Cond.instanceMethod yX10_driest ∈ zWL := zw5 (List.mem_of_getElem? (i := 24) rfl) rfl
set_option maxRecDepth 20000 in
theorem ml_X10_driest : Cond.selects RX10 yX10_driest yX10_driest ∈ zWL := zw5 (List.mem_of_getElem? (i := 25) rfl) rfl
set_option maxRecDepth 20000 in
theorem mc_X10_reign : Cond.code yX10_reign cX10_reign 6 (some .int) ∈ zWL := zw5 (List.mem_of_getElem? (i := 30) rfl) rfl
set_option maxRecDepth 20000 in
theorem mi_X10_reign : Cond.instanceMethod yX10_reign ∈ zWL := zw5 (List.mem_of_getElem? (i := 28) rfl) rfl
set_option maxRecDepth 20000 in
theorem ml_X10_reign : Cond.selects RX10 yX10_reign yX10_reign ∈ zWL := zw5 (List.mem_of_getElem? (i := 29) rfl) rfl
set_option maxRecDepth 20000 in
theorem mc_X10_tallied : Cond.code yX10_tallied cX10_tallied 3 (some .int) ∈ zWL := zw5 (List.mem_of_getElem? (i := 35) rfl) rfl
set_option maxRecDepth 20000 in
theorem mi_X10_tallied : Cond.instanceMethod yX10_tallied ∈ zWL := zw5 (List.mem_of_getElem? (i := 34) rfl) rfl
theorem ml_X10_tallied : Cond.selects RX10 yX10_tallied yX10_tallied ∈ zWL := List.mem_append_right _ (List.mem_filter.mpr ⟨List.mem_map.mpr ⟨(⟨"SourceDispute", "tallied", "()I"⟩, 14), List.mem_of_getElem? (i := 42) (by decide +kernel), rfl⟩, by decide +kernel⟩)
set_option maxRecDepth 20000 in
theorem mc_X10_mostTallied : Cond.code yX10_mostTallied cX10_mostTallied 3 (some .int) ∈ zWL := zw5 (List.mem_of_getElem? (i := 39) rfl) rfl
set_option maxRecDepth 20000 in
theorem mi_X10_mostTallied : Cond.instanceMethod yX10_mostTallied ∈ zWL := zw5 (List.mem_of_getElem? (i := 38) rfl) rfl
theorem ml_X10_mostTallied : Cond.selects RX10 yX10_mostTallied yX10_mostTallied ∈ zWL := List.mem_append_right _ (List.mem_filter.mpr ⟨List.mem_map.mpr ⟨(⟨"SourceDispute", "mostTallied", "()I"⟩, 14), List.mem_of_getElem? (i := 43) (by decide +kernel), rfl⟩, by decide +kernel⟩)
set_option maxRecDepth 20000 in
theorem mc_X10_when : Cond.code yX10_when cX10_when 3 (some .int) ∈ zWL := zw5 (List.mem_of_getElem? (i := 43) rfl) rfl
set_option maxRecDepth 20000 in
theorem mi_X10_when : Cond.instanceMethod yX10_when ∈ zWL := zw5 (List.mem_of_getElem? (i := 41) rfl) rfl
set_option maxRecDepth 20000 in
theorem ml_X10_when : Cond.selects RX10 yX10_when yX10_when ∈ zWL := zw5 (List.mem_of_getElem? (i := 42) rfl) rfl
set_option maxRecDepth 20000 in
theorem mc_X10_then : Cond.code yX10_then cX10_then 4 (some .int) ∈ zWL := zw5 (List.mem_of_getElem? (i := 47) rfl) rfl
set_option maxRecDepth 20000 in
theorem mi_X10_then : Cond.instanceMethod yX10_then ∈ zWL := zw5 (List.mem_of_getElem? (i := 45) rfl) rfl
set_option maxRecDepth 20000 in
theorem ml_X10_then : Cond.selects RX10 yX10_then yX10_then ∈ zWL := zw5 (List.mem_of_getElem? (i := 46) rfl) rfl
set_option maxRecDepth 20000 in
theorem mc_X10_flowIn : Cond.code yX10_flowIn cX10_flowIn 2 (some .int) ∈ zWL := zw5 (List.mem_of_getElem? (i := 51) rfl) rfl
set_option maxRecDepth 20000 in
theorem mi_X10_flowIn : Cond.instanceMethod yX10_flowIn ∈ zWL := zw5 (List.mem_of_getElem? (i := 49) rfl) rfl
set_option maxRecDepth 20000 in
theorem ml_X10_flowIn : Cond.selects RX10 yX10_flowIn yX10_flowIn ∈ zWL := zw5 (List.mem_of_getElem? (i := 50) rfl) rfl
set_option maxRecDepth 20000 in
theorem mc_X10_year : Cond.code yX10_year cX10_year 6 (some .int) ∈ zWL := zw5 (List.mem_of_getElem? (i := 55) rfl) rfl
set_option maxRecDepth 20000 in
theorem mi_X10_year : Cond.instanceMethod yX10_year ∈ zWL := zw5 (List.mem_of_getElem? (i := 53) rfl) rfl
set_option maxRecDepth 20000 in
theorem ml_X10_year : Cond.selects RX10 yX10_year yX10_year ∈ zWL := zw5 (List.mem_of_getElem? (i := 54) rfl) rfl
set_option maxRecDepth 20000 in
theorem mc_X10_hasWonMost : Cond.code yX10_hasWonMost cX10_hasWonMost 4 (some .boolean) ∈ zWL := zw5 (List.mem_of_getElem? (i := 59) rfl) rfl
set_option maxRecDepth 20000 in
theorem mi_X10_hasWonMost : Cond.instanceMethod yX10_hasWonMost ∈ zWL := zw5 (List.mem_of_getElem? (i := 58) rfl) rfl
theorem ml_X10_hasWonMost : Cond.selects RX10 yX10_hasWonMost yX10_hasWonMost ∈ zWL := List.mem_append_right _ (List.mem_filter.mpr ⟨List.mem_map.mpr ⟨(⟨"SourceDispute", "hasWonMost", "(I)Z"⟩, 14), List.mem_of_getElem? (i := 44) (by decide +kernel), rfl⟩, by decide +kernel⟩)
set_option maxRecDepth 20000 in
theorem mc_X10_depth : Cond.code yX10_depth cX10_depth 1 (some .int) ∈ zWL := zw5 (List.mem_of_getElem? (i := 63) rfl) rfl
set_option maxRecDepth 20000 in
theorem mi_X10_depth : Cond.instanceMethod yX10_depth ∈ zWL := zw5 (List.mem_of_getElem? (i := 61) rfl) rfl
set_option maxRecDepth 20000 in
theorem ml_X10_depth : Cond.selects RX10 yX10_depth yX10_depth ∈ zWL := zw5 (List.mem_of_getElem? (i := 62) rfl) rfl
set_option maxRecDepth 20000 in
theorem mc_X10_order : Cond.code yX10_order cX10_order 2 (some .int) ∈ zWL := zw5 (List.mem_of_getElem? (i := 72) rfl) rfl
set_option maxRecDepth 20000 in
theorem mi_X10_order : Cond.instanceMethod yX10_order ∈ zWL := zw5 (List.mem_of_getElem? (i := 70) rfl) rfl
set_option maxRecDepth 20000 in
theorem ml_X10_order : Cond.selects RX10 yX10_order yX10_order ∈ zWL := zw5 (List.mem_of_getElem? (i := 71) rfl) rfl
set_option maxRecDepth 20000 in
theorem mc_X10_basin : Cond.code yX10_basin cX10_basin 4 (some .int) ∈ zWL := zw5 (List.mem_of_getElem? (i := 80) rfl) rfl
set_option maxRecDepth 20000 in
theorem mi_X10_basin : Cond.instanceMethod yX10_basin ∈ zWL := zw5 (List.mem_of_getElem? (i := 78) rfl) rfl
set_option maxRecDepth 20000 in
theorem ml_X10_basin : Cond.selects RX10 yX10_basin yX10_basin ∈ zWL := zw5 (List.mem_of_getElem? (i := 79) rfl) rfl
set_option maxRecDepth 20000 in
theorem mc_X10_tour : Cond.code yX10_tour cX10_tour 1 (some .int) ∈ zWL := zw5 (List.mem_of_getElem? (i := 93) rfl) rfl
set_option maxRecDepth 20000 in
theorem mi_X10_tour : Cond.instanceMethod yX10_tour ∈ zWL := zw5 (List.mem_of_getElem? (i := 91) rfl) rfl
set_option maxRecDepth 20000 in
theorem ml_X10_tour : Cond.selects RX10 yX10_tour yX10_tour ∈ zWL := zw5 (List.mem_of_getElem? (i := 92) rfl) rfl
set_option maxRecDepth 20000 in
theorem mc_X10_parted : Cond.code yX10_parted cX10_parted 4 (some .int) ∈ zWL := zw5 (List.mem_of_getElem? (i := 101) rfl) rfl
set_option maxRecDepth 20000 in
theorem mi_X10_parted : Cond.instanceMethod yX10_parted ∈ zWL := zw5 (List.mem_of_getElem? (i := 99) rfl) rfl
set_option maxRecDepth 20000 in
theorem ml_X10_parted : Cond.selects RX10 yX10_parted yX10_parted ∈ zWL := zw5 (List.mem_of_getElem? (i := 100) rfl) rfl
set_option maxRecDepth 20000 in
theorem mc_X10_meet : Cond.code yX10_meet cX10_meet 5 (some .int) ∈ zWL := zw5 (List.mem_of_getElem? (i := 105) rfl) rfl
set_option maxRecDepth 20000 in
theorem mi_X10_meet : Cond.instanceMethod yX10_meet ∈ zWL := zw5 (List.mem_of_getElem? (i := 103) rfl) rfl
set_option maxRecDepth 20000 in
theorem ml_X10_meet : Cond.selects RX10 yX10_meet yX10_meet ∈ zWL := zw5 (List.mem_of_getElem? (i := 104) rfl) rfl
set_option maxRecDepth 20000 in
theorem mc_X10_tell : Cond.code yX10_tell cX10_tell 5 (some .int) ∈ zWL := zw5 (List.mem_of_getElem? (i := 113) rfl) rfl
set_option maxRecDepth 20000 in
theorem mi_X10_tell : Cond.instanceMethod yX10_tell ∈ zWL := zw5 (List.mem_of_getElem? (i := 111) rfl) rfl
set_option maxRecDepth 20000 in
theorem ml_X10_tell : Cond.selects RX10 yX10_tell yX10_tell ∈ zWL := zw5 (List.mem_of_getElem? (i := 112) rfl) rfl
set_option maxRecDepth 20000 in
theorem mc_X10_forget : Cond.code yX10_forget cX10_forget 2 (some .int) ∈ zWL := zw5 (List.mem_of_getElem? (i := 121) rfl) rfl
set_option maxRecDepth 20000 in
theorem mi_X10_forget : Cond.instanceMethod yX10_forget ∈ zWL := zw5 (List.mem_of_getElem? (i := 119) rfl) rfl
set_option maxRecDepth 20000 in
theorem ml_X10_forget : Cond.selects RX10 yX10_forget yX10_forget ∈ zWL := zw5 (List.mem_of_getElem? (i := 120) rfl) rfl
set_option maxRecDepth 20000 in
theorem mc_X10_dyed : Cond.code yX10_dyed cX10_dyed 4 (some .int) ∈ zWL := zw5 (List.mem_of_getElem? (i := 125) rfl) rfl
set_option maxRecDepth 20000 in
theorem mi_X10_dyed : Cond.instanceMethod yX10_dyed ∈ zWL := zw5 (List.mem_of_getElem? (i := 123) rfl) rfl
set_option maxRecDepth 20000 in
theorem ml_X10_dyed : Cond.selects RX10 yX10_dyed yX10_dyed ∈ zWL := zw5 (List.mem_of_getElem? (i := 124) rfl) rfl
set_option maxRecDepth 20000 in
theorem mc_X10_watch : Cond.code yX10_watch cX10_watch 5 (some .int) ∈ zWL := zw5 (List.mem_of_getElem? (i := 141) rfl) rfl
set_option maxRecDepth 20000 in
theorem mi_X10_watch : Cond.instanceMethod yX10_watch ∈ zWL := zw5 (List.mem_of_getElem? (i := 139) rfl) rfl
set_option maxRecDepth 20000 in
theorem ml_X10_watch : Cond.selects RX10 yX10_watch yX10_watch ∈ zWL := zw5 (List.mem_of_getElem? (i := 140) rfl) rfl
set_option maxRecDepth 20000 in
theorem mc_X10_leftAtWorst : Cond.code yX10_leftAtWorst cX10_leftAtWorst 4 (some .int) ∈ zWL := zw5 (List.mem_of_getElem? (i := 145) rfl) rfl
set_option maxRecDepth 20000 in
theorem mi_X10_leftAtWorst : Cond.instanceMethod yX10_leftAtWorst ∈ zWL := zw5 (List.mem_of_getElem? (i := 144) rfl) rfl
theorem ml_X10_leftAtWorst : Cond.selects RX10 yX10_leftAtWorst yX10_leftAtWorst ∈ zWL := List.mem_append_right _ (List.mem_filter.mpr ⟨List.mem_map.mpr ⟨(⟨"SourceDispute", "leftAtWorst", "(II)I"⟩, 14), List.mem_of_getElem? (i := 46) (by decide +kernel), rfl⟩, by decide +kernel⟩)
set_option maxRecDepth 20000 in
theorem mc_X10_look : Cond.code yX10_look cX10_look 1 none ∈ zWL := zw3 (List.mem_of_getElem? (i := 196) rfl) rfl
set_option maxRecDepth 20000 in
theorem mi_X10_look : Cond.instanceMethod yX10_look ∈ zWL := zw3 (List.mem_of_getElem? (i := 195) rfl) rfl
theorem ml_X10_look : Cond.selects RX10 yX10_look yX10_look ∈ zWL := List.mem_append_right _ (List.mem_filter.mpr ⟨List.mem_map.mpr ⟨(⟨"SourceDispute", "look", "()V"⟩, 14), List.mem_of_getElem? (i := 21) (by decide +kernel), rfl⟩, by decide +kernel⟩)
set_option maxRecDepth 20000 in
theorem mc_X10_hasMouth : Cond.code yX10_hasMouth cX10_hasMouth 1 (some .boolean) ∈ zWL := zw4 (List.mem_of_getElem? (i := 73) rfl) rfl
set_option maxRecDepth 20000 in
theorem mi_X10_hasMouth : Cond.instanceMethod yX10_hasMouth ∈ zWL := zw4 (List.mem_of_getElem? (i := 72) rfl) rfl
theorem ml_X10_hasMouth : Cond.selects RX10 yX10_hasMouth yX10_hasMouth ∈ zWL := List.mem_append_right _ (List.mem_filter.mpr ⟨List.mem_map.mpr ⟨(⟨"SourceDispute", "hasMouth", "()Z"⟩, 14), List.mem_of_getElem? (i := 30) (by decide +kernel), rfl⟩, by decide +kernel⟩)
set_option maxRecDepth 20000 in
theorem mc_X10_mouthFlow : Cond.code yX10_mouthFlow cX10_mouthFlow 1 (some .int) ∈ zWL := zw4 (List.mem_of_getElem? (i := 69) rfl) rfl
set_option maxRecDepth 20000 in
theorem mi_X10_mouthFlow : Cond.instanceMethod yX10_mouthFlow ∈ zWL := zw4 (List.mem_of_getElem? (i := 68) rfl) rfl
theorem ml_X10_mouthFlow : Cond.selects RX10 yX10_mouthFlow yX10_mouthFlow ∈ zWL := List.mem_append_right _ (List.mem_filter.mpr ⟨List.mem_map.mpr ⟨(⟨"SourceDispute", "mouthFlow", "()I"⟩, 14), List.mem_of_getElem? (i := 29) (by decide +kernel), rfl⟩, by decide +kernel⟩)
set_option maxRecDepth 20000 in
theorem mc_X10_isPlace : Cond.code yX10_isPlace cX10_isPlace 2 (some .boolean) ∈ zWL := zw3 (List.mem_of_getElem? (i := 191) rfl) rfl
set_option maxRecDepth 20000 in
theorem mi_X10_isPlace : Cond.instanceMethod yX10_isPlace ∈ zWL := zw3 (List.mem_of_getElem? (i := 190) rfl) rfl
theorem ml_X10_isPlace : Cond.selects RX10 yX10_isPlace yX10_isPlace ∈ zWL := List.mem_append_right _ (List.mem_filter.mpr ⟨List.mem_map.mpr ⟨(⟨"SourceDispute", "isPlace", "(I)Z"⟩, 14), List.mem_of_getElem? (i := 20) (by decide +kernel), rfl⟩, by decide +kernel⟩)
set_option maxRecDepth 20000 in
theorem mc_X10_isLaw : Cond.code yX10_isLaw cX10_isLaw 2 (some .boolean) ∈ zWL := zw4 (List.mem_of_getElem? (i := 33) rfl) rfl
set_option maxRecDepth 20000 in
theorem mi_X10_isLaw : Cond.instanceMethod yX10_isLaw ∈ zWL := zw4 (List.mem_of_getElem? (i := 32) rfl) rfl
theorem ml_X10_isLaw : Cond.selects RX10 yX10_isLaw yX10_isLaw ∈ zWL := List.mem_append_right _ (List.mem_filter.mpr ⟨List.mem_map.mpr ⟨(⟨"SourceDispute", "isLaw", "(I)Z"⟩, 14), List.mem_of_getElem? (i := 28) (by decide +kernel), rfl⟩, by decide +kernel⟩)
set_option maxRecDepth 20000 in
theorem mc_X10_isContest : Cond.code yX10_isContest cX10_isContest 3 (some .boolean) ∈ zWL := zw4 (List.mem_of_getElem? (i := 29) rfl) rfl
set_option maxRecDepth 20000 in
theorem mi_X10_isContest : Cond.instanceMethod yX10_isContest ∈ zWL := zw4 (List.mem_of_getElem? (i := 28) rfl) rfl
theorem ml_X10_isContest : Cond.selects RX10 yX10_isContest yX10_isContest ∈ zWL := List.mem_append_right _ (List.mem_filter.mpr ⟨List.mem_map.mpr ⟨(⟨"SourceDispute", "isContest", "(II)Z"⟩, 14), List.mem_of_getElem? (i := 27) (by decide +kernel), rfl⟩, by decide +kernel⟩)
set_option maxRecDepth 20000 in
theorem mc_X10_isWithin : Cond.code yX10_isWithin cX10_isWithin 3 (some .boolean) ∈ zWL := zw3 (List.mem_of_getElem? (i := 144) rfl) rfl
set_option maxRecDepth 20000 in
theorem ms_X10_isWithin : Cond.static yX10_isWithin ∈ zWL := zw3 (List.mem_of_getElem? (i := 143) rfl) rfl
set_option maxRecDepth 20000 in
theorem mc_X10_held : Cond.code yX10_held cX10_held 3 (some .int) ∈ zWL := zw4 (List.mem_of_getElem? (i := 0) rfl) rfl
set_option maxRecDepth 20000 in
theorem ms_X10_held : Cond.static yX10_held ∈ zWL := zw3 (List.mem_of_getElem? (i := 239) rfl) rfl
set_option maxRecDepth 20000 in
theorem mc_X10_bit : Cond.code yX10_bit cX10_bit 1 (some .int) ∈ zWL := zw3 (List.mem_of_getElem? (i := 212) rfl) rfl
set_option maxRecDepth 20000 in
theorem ms_X10_bit : Cond.static yX10_bit ∈ zWL := zw3 (List.mem_of_getElem? (i := 211) rfl) rfl
set_option maxRecDepth 20000 in
theorem mc_X10_has : Cond.code yX10_has cX10_has 2 (some .boolean) ∈ zWL := zw4 (List.mem_of_getElem? (i := 10) rfl) rfl
set_option maxRecDepth 20000 in
theorem ms_X10_has : Cond.static yX10_has ∈ zWL := zw4 (List.mem_of_getElem? (i := 9) rfl) rfl
set_option maxRecDepth 20000 in
theorem mc_X10_bitAt : Cond.code yX10_bitAt cX10_bitAt 4 (some .int) ∈ zWL := zw4 (List.mem_of_getElem? (i := 230) rfl) rfl
set_option maxRecDepth 20000 in
theorem ms_X10_bitAt : Cond.static yX10_bitAt ∈ zWL := zw4 (List.mem_of_getElem? (i := 229) rfl) rfl
set_option maxRecDepth 20000 in
theorem mc_X11_init : Cond.code yX11_init cX11_init 1 none ∈ zWL := zw5 (List.mem_of_getElem? (i := 150) rfl) rfl
set_option maxRecDepth 20000 in
theorem mc_X11_feed : Cond.code yX11_feed cX11_feed 6 (some .int) ∈ zWL := zw6 (List.mem_of_getElem? (i := 145) rfl) rfl
set_option maxRecDepth 20000 in
theorem mi_X11_feed : Cond.instanceMethod yX11_feed ∈ zWL := zw6 (List.mem_of_getElem? (i := 143) rfl) rfl
set_option maxRecDepth 20000 in
theorem ml_X11_feed : Cond.selects RX11 yX11_feed yX11_feed ∈ zWL := zw6 (List.mem_of_getElem? (i := 144) rfl) rfl
set_option maxRecDepth 20000 in
theorem mc_X11_put : Cond.code yX11_put cX11_put 3 none ∈ zWL := zw6 (List.mem_of_getElem? (i := 149) rfl) rfl
set_option maxRecDepth 20000 in
theorem mi_X11_put : Cond.instanceMethod yX11_put ∈ zWL := zw6 (List.mem_of_getElem? (i := 148) rfl) rfl
theorem ml_X11_put : Cond.selects RX11 yX11_put yX11_put ∈ zWL := List.mem_append_right _ (List.mem_filter.mpr ⟨List.mem_map.mpr ⟨(⟨"SourceDisputeModel", "put", "(I)V"⟩, 69), List.mem_of_getElem? (i := 51) (by decide +kernel), rfl⟩, by decide +kernel⟩)
set_option maxRecDepth 20000 in
theorem mc_X11_back : Cond.code yX11_back cX11_back 2 (some .int) ∈ zWL := zw6 (List.mem_of_getElem? (i := 153) rfl) rfl
set_option maxRecDepth 20000 in
theorem mi_X11_back : Cond.instanceMethod yX11_back ∈ zWL := zw6 (List.mem_of_getElem? (i := 151) rfl) rfl
set_option maxRecDepth 20000 in
theorem ml_X11_back : Cond.selects RX11 yX11_back yX11_back ∈ zWL := zw6 (List.mem_of_getElem? (i := 152) rfl) rfl
set_option maxRecDepth 20000 in
theorem mc_X11_byteAt : Cond.code yX11_byteAt cX11_byteAt 2 (some .int) ∈ zWL := zw6 (List.mem_of_getElem? (i := 165) rfl) rfl
set_option maxRecDepth 20000 in
theorem mi_X11_byteAt : Cond.instanceMethod yX11_byteAt ∈ zWL := zw6 (List.mem_of_getElem? (i := 164) rfl) rfl
theorem ml_X11_byteAt : Cond.selects RX11 yX11_byteAt yX11_byteAt ∈ zWL := List.mem_append_right _ (List.mem_filter.mpr ⟨List.mem_map.mpr ⟨(⟨"SourceDisputeModel", "byteAt", "(I)I"⟩, 69), List.mem_of_getElem? (i := 53) (by decide +kernel), rfl⟩, by decide +kernel⟩)
set_option maxRecDepth 20000 in
theorem mc_X11_isDigit : Cond.code yX11_isDigit cX11_isDigit 1 (some .boolean) ∈ zWL := zw6 (List.mem_of_getElem? (i := 175) rfl) rfl
set_option maxRecDepth 20000 in
theorem ms_X11_isDigit : Cond.static yX11_isDigit ∈ zWL := zw6 (List.mem_of_getElem? (i := 174) rfl) rfl
set_option maxRecDepth 20000 in
theorem mc_X11_isLetter : Cond.code yX11_isLetter cX11_isLetter 1 (some .boolean) ∈ zWL := zw6 (List.mem_of_getElem? (i := 172) rfl) rfl
set_option maxRecDepth 20000 in
theorem ms_X11_isLetter : Cond.static yX11_isLetter ∈ zWL := zw6 (List.mem_of_getElem? (i := 171) rfl) rfl
set_option maxRecDepth 20000 in
theorem mc_X11_appends : Cond.code yX11_appends cX11_appends 3 (some .long) ∈ zWL := zw5 (List.mem_of_getElem? (i := 161) rfl) rfl
set_option maxRecDepth 20000 in
theorem ms_X11_appends : Cond.static yX11_appends ∈ zWL := zw5 (List.mem_of_getElem? (i := 160) rfl) rfl
set_option maxRecDepth 20000 in
theorem mc_X11_word : Cond.code yX11_word cX11_word 7 (some .long) ∈ zWL := zw5 (List.mem_of_getElem? (i := 158) rfl) rfl
set_option maxRecDepth 20000 in
theorem ms_X11_word : Cond.static yX11_word ∈ zWL := zw5 (List.mem_of_getElem? (i := 157) rfl) rfl
set_option maxRecDepth 20000 in
theorem mc_X11_token : Cond.code yX11_token cX11_token 6 none ∈ zWL := zw6 (List.mem_of_getElem? (i := 169) rfl) rfl
set_option maxRecDepth 20000 in
theorem mi_X11_token : Cond.instanceMethod yX11_token ∈ zWL := zw6 (List.mem_of_getElem? (i := 168) rfl) rfl
theorem ml_X11_token : Cond.selects RX11 yX11_token yX11_token ∈ zWL := List.mem_append_right _ (List.mem_filter.mpr ⟨List.mem_map.mpr ⟨(⟨"SourceDisputeModel", "token", "(IIIJ)V"⟩, 69), List.mem_of_getElem? (i := 54) (by decide +kernel), rfl⟩, by decide +kernel⟩)
set_option maxRecDepth 20000 in
theorem mc_X11_cut : Cond.code yX11_cut cX11_cut 8 none ∈ zWL := zw6 (List.mem_of_getElem? (i := 161) rfl) rfl
set_option maxRecDepth 20000 in
theorem mi_X11_cut : Cond.instanceMethod yX11_cut ∈ zWL := zw6 (List.mem_of_getElem? (i := 160) rfl) rfl
theorem ml_X11_cut : Cond.selects RX11 yX11_cut yX11_cut ∈ zWL := List.mem_append_right _ (List.mem_filter.mpr ⟨List.mem_map.mpr ⟨(⟨"SourceDisputeModel", "cut", "()V"⟩, 69), List.mem_of_getElem? (i := 52) (by decide +kernel), rfl⟩, by decide +kernel⟩)
set_option maxRecDepth 20000 in
theorem mc_X11_sign : Cond.code yX11_sign cX11_sign 5 (some .int) ∈ zWL := zw6 (List.mem_of_getElem? (i := 179) rfl) rfl
set_option maxRecDepth 20000 in
theorem mi_X11_sign : Cond.instanceMethod yX11_sign ∈ zWL := zw6 (List.mem_of_getElem? (i := 178) rfl) rfl
theorem ml_X11_sign : Cond.selects RX11 yX11_sign yX11_sign ∈ zWL := List.mem_append_right _ (List.mem_filter.mpr ⟨List.mem_map.mpr ⟨(⟨"SourceDisputeModel", "sign", "(III)I"⟩, 69), List.mem_of_getElem? (i := 55) (by decide +kernel), rfl⟩, by decide +kernel⟩)
set_option maxRecDepth 20000 in
theorem mc_X11_is : Cond.code yX11_is cX11_is 2 (some .boolean) ∈ zWL := zw6 (List.mem_of_getElem? (i := 183) rfl) rfl
set_option maxRecDepth 20000 in
theorem mi_X11_is : Cond.instanceMethod yX11_is ∈ zWL := zw6 (List.mem_of_getElem? (i := 182) rfl) rfl
theorem ml_X11_is : Cond.selects RX11 yX11_is yX11_is ∈ zWL := List.mem_append_right _ (List.mem_filter.mpr ⟨List.mem_map.mpr ⟨(⟨"SourceDisputeModel", "is", "(I)Z"⟩, 69), List.mem_of_getElem? (i := 56) (by decide +kernel), rfl⟩, by decide +kernel⟩)
set_option maxRecDepth 20000 in
theorem mc_X11_fail : Cond.code yX11_fail cX11_fail 2 none ∈ zWL := zw6 (List.mem_of_getElem? (i := 191) rfl) rfl
set_option maxRecDepth 20000 in
theorem mi_X11_fail : Cond.instanceMethod yX11_fail ∈ zWL := zw6 (List.mem_of_getElem? (i := 190) rfl) rfl
theorem ml_X11_fail : Cond.selects RX11 yX11_fail yX11_fail ∈ zWL := List.mem_append_right _ (List.mem_filter.mpr ⟨List.mem_map.mpr ⟨(⟨"SourceDisputeModel", "fail", "(I)V"⟩, 69), List.mem_of_getElem? (i := 58) (by decide +kernel), rfl⟩, by decide +kernel⟩)
set_option maxRecDepth 20000 in
theorem mc_X11_wrong : Cond.code yX11_wrong cX11_wrong 4 none ∈ zWL := zw6 (List.mem_of_getElem? (i := 215) rfl) rfl
set_option maxRecDepth 20000 in
theorem mi_X11_wrong : Cond.instanceMethod yX11_wrong ∈ zWL := zw6 (List.mem_of_getElem? (i := 214) rfl) rfl
theorem ml_X11_wrong : Cond.selects RX11 yX11_wrong yX11_wrong ∈ zWL := List.mem_append_right _ (List.mem_filter.mpr ⟨List.mem_map.mpr ⟨(⟨"SourceDisputeModel", "wrong", "(II)V"⟩, 69), List.mem_of_getElem? (i := 64) (by decide +kernel), rfl⟩, by decide +kernel⟩)
set_option maxRecDepth 20000 in
theorem mc_X11_goesOn : Cond.code yX11_goesOn cX11_goesOn 1 none ∈ zWL := zw6 (List.mem_of_getElem? (i := 195) rfl) rfl
set_option maxRecDepth 20000 in
theorem mi_X11_goesOn : Cond.instanceMethod yX11_goesOn ∈ zWL := zw6 (List.mem_of_getElem? (i := 194) rfl) rfl
theorem ml_X11_goesOn : Cond.selects RX11 yX11_goesOn yX11_goesOn ∈ zWL := List.mem_append_right _ (List.mem_filter.mpr ⟨List.mem_map.mpr ⟨(⟨"SourceDisputeModel", "goesOn", "()V"⟩, 69), List.mem_of_getElem? (i := 59) (by decide +kernel), rfl⟩, by decide +kernel⟩)
set_option maxRecDepth 20000 in
theorem mc_X11_must : Cond.code yX11_must cX11_must 2 none ∈ zWL := zw6 (List.mem_of_getElem? (i := 207) rfl) rfl
set_option maxRecDepth 20000 in
theorem mi_X11_must : Cond.instanceMethod yX11_must ∈ zWL := zw6 (List.mem_of_getElem? (i := 206) rfl) rfl
theorem ml_X11_must : Cond.selects RX11 yX11_must yX11_must ∈ zWL := List.mem_append_right _ (List.mem_filter.mpr ⟨List.mem_map.mpr ⟨(⟨"SourceDisputeModel", "must", "(I)V"⟩, 69), List.mem_of_getElem? (i := 62) (by decide +kernel), rfl⟩, by decide +kernel⟩)
set_option maxRecDepth 20000 in
theorem mc_X11_plain : Cond.code yX11_plain cX11_plain 3 none ∈ zWL := zw5 (List.mem_of_getElem? (i := 155) rfl) rfl
set_option maxRecDepth 20000 in
theorem mi_X11_plain : Cond.instanceMethod yX11_plain ∈ zWL := zw5 (List.mem_of_getElem? (i := 154) rfl) rfl
theorem ml_X11_plain : Cond.selects RX11 yX11_plain yX11_plain ∈ zWL := List.mem_append_right _ (List.mem_filter.mpr ⟨List.mem_map.mpr ⟨(⟨"SourceDisputeModel", "plain", "(I)V"⟩, 69), List.mem_of_getElem? (i := 47) (by decide +kernel), rfl⟩, by decide +kernel⟩)
set_option maxRecDepth 20000 in
theorem mc_X11_read : Cond.code yX11_read cX11_read 2 (some .int) ∈ zWL := zw6 (List.mem_of_getElem? (i := 157) rfl) rfl
set_option maxRecDepth 20000 in
theorem mi_X11_read : Cond.instanceMethod yX11_read ∈ zWL := zw6 (List.mem_of_getElem? (i := 155) rfl) rfl
set_option maxRecDepth 20000 in
theorem ml_X11_read : Cond.selects RX11 yX11_read yX11_read ∈ zWL := zw6 (List.mem_of_getElem? (i := 156) rfl) rfl
set_option maxRecDepth 20000 in
theorem mc_X11_place : Cond.code yX11_place cX11_place 1 (some .int) ∈ zWL := zw7 (List.mem_of_getElem? (i := 11) rfl) rfl
set_option maxRecDepth 20000 in
theorem mi_X11_place : Cond.instanceMethod yX11_place ∈ zWL := zw7 (List.mem_of_getElem? (i := 9) rfl) rfl
set_option maxRecDepth 20000 in
theorem ml_X11_place : Cond.selects RX11 yX11_place yX11_place ∈ zWL := zw7 (List.mem_of_getElem? (i := 10) rfl) rfl
set_option maxRecDepth 20000 in
theorem mc_X11_tellOne : Cond.code yX11_tellOne cX11_tellOne 2 none ∈ zWL := zw6 (List.mem_of_getElem? (i := 187) rfl) rfl
set_option maxRecDepth 20000 in
theorem mi_X11_tellOne : Cond.instanceMethod yX11_tellOne ∈ zWL := zw6 (List.mem_of_getElem? (i := 186) rfl) rfl
theorem ml_X11_tellOne : Cond.selects RX11 yX11_tellOne yX11_tellOne ∈ zWL := List.mem_append_right _ (List.mem_filter.mpr ⟨List.mem_map.mpr ⟨(⟨"SourceDisputeModel", "tellOne", "()V"⟩, 69), List.mem_of_getElem? (i := 57) (by decide +kernel), rfl⟩, by decide +kernel⟩)
set_option maxRecDepth 20000 in
theorem mc_X11_named : Cond.code yX11_named cX11_named 2 (some .int) ∈ zWL := zw6 (List.mem_of_getElem? (i := 203) rfl) rfl
set_option maxRecDepth 20000 in
theorem mi_X11_named : Cond.instanceMethod yX11_named ∈ zWL := zw6 (List.mem_of_getElem? (i := 202) rfl) rfl
theorem ml_X11_named : Cond.selects RX11 yX11_named yX11_named ∈ zWL := List.mem_append_right _ (List.mem_filter.mpr ⟨List.mem_map.mpr ⟨(⟨"SourceDisputeModel", "named", "()I"⟩, 69), List.mem_of_getElem? (i := 61) (by decide +kernel), rfl⟩, by decide +kernel⟩)
set_option maxRecDepth 20000 in
theorem mc_X11_numberOf : Cond.code yX11_numberOf cX11_numberOf 3 (some .int) ∈ zWL := zw6 (List.mem_of_getElem? (i := 211) rfl) rfl
set_option maxRecDepth 20000 in
theorem mi_X11_numberOf : Cond.instanceMethod yX11_numberOf ∈ zWL := zw6 (List.mem_of_getElem? (i := 210) rfl) rfl
theorem ml_X11_numberOf : Cond.selects RX11 yX11_numberOf yX11_numberOf ∈ zWL := List.mem_append_right _ (List.mem_filter.mpr ⟨List.mem_map.mpr ⟨(⟨"SourceDisputeModel", "numberOf", "(I)I"⟩, 69), List.mem_of_getElem? (i := 63) (by decide +kernel), rfl⟩, by decide +kernel⟩)
set_option maxRecDepth 20000 in
theorem mc_X11_bounded : Cond.code yX11_bounded cX11_bounded 4 (some .int) ∈ zWL := zw6 (List.mem_of_getElem? (i := 223) rfl) rfl
set_option maxRecDepth 20000 in
theorem mi_X11_bounded : Cond.instanceMethod yX11_bounded ∈ zWL := zw6 (List.mem_of_getElem? (i := 222) rfl) rfl
theorem ml_X11_bounded : Cond.selects RX11 yX11_bounded yX11_bounded ∈ zWL := List.mem_append_right _ (List.mem_filter.mpr ⟨List.mem_map.mpr ⟨(⟨"SourceDisputeModel", "bounded", "(II)I"⟩, 69), List.mem_of_getElem? (i := 66) (by decide +kernel), rfl⟩, by decide +kernel⟩)
set_option maxRecDepth 20000 in
theorem mc_X11_tellMouth : Cond.code yX11_tellMouth cX11_tellMouth 3 none ∈ zWL := zw6 (List.mem_of_getElem? (i := 199) rfl) rfl
set_option maxRecDepth 20000 in
theorem mi_X11_tellMouth : Cond.instanceMethod yX11_tellMouth ∈ zWL := zw6 (List.mem_of_getElem? (i := 198) rfl) rfl
theorem ml_X11_tellMouth : Cond.selects RX11 yX11_tellMouth yX11_tellMouth ∈ zWL := List.mem_append_right _ (List.mem_filter.mpr ⟨List.mem_map.mpr ⟨(⟨"SourceDisputeModel", "tellMouth", "()V"⟩, 69), List.mem_of_getElem? (i := 60) (by decide +kernel), rfl⟩, by decide +kernel⟩)
set_option maxRecDepth 20000 in
theorem mc_X11_tellPlace : Cond.code yX11_tellPlace cX11_tellPlace 4 none ∈ zWL := zw6 (List.mem_of_getElem? (i := 219) rfl) rfl
set_option maxRecDepth 20000 in
theorem mi_X11_tellPlace : Cond.instanceMethod yX11_tellPlace ∈ zWL := zw6 (List.mem_of_getElem? (i := 218) rfl) rfl
theorem ml_X11_tellPlace : Cond.selects RX11 yX11_tellPlace yX11_tellPlace ∈ zWL := List.mem_append_right _ (List.mem_filter.mpr ⟨List.mem_map.mpr ⟨(⟨"SourceDisputeModel", "tellPlace", "()V"⟩, 69), List.mem_of_getElem? (i := 65) (by decide +kernel), rfl⟩, by decide +kernel⟩)
set_option maxRecDepth 20000 in
theorem mc_X11_tellLaw : Cond.code yX11_tellLaw cX11_tellLaw 4 none ∈ zWL := zw6 (List.mem_of_getElem? (i := 227) rfl) rfl
set_option maxRecDepth 20000 in
theorem mi_X11_tellLaw : Cond.instanceMethod yX11_tellLaw ∈ zWL := zw6 (List.mem_of_getElem? (i := 226) rfl) rfl
theorem ml_X11_tellLaw : Cond.selects RX11 yX11_tellLaw yX11_tellLaw ∈ zWL := List.mem_append_right _ (List.mem_filter.mpr ⟨List.mem_map.mpr ⟨(⟨"SourceDisputeModel", "tellLaw", "(I)V"⟩, 69), List.mem_of_getElem? (i := 67) (by decide +kernel), rfl⟩, by decide +kernel⟩)
set_option maxRecDepth 20000 in
theorem mc_X11_term : Cond.code yX11_term cX11_term 1 none ∈ zWL := zw7 (List.mem_of_getElem? (i := 7) rfl) rfl
set_option maxRecDepth 20000 in
theorem mi_X11_term : Cond.instanceMethod yX11_term ∈ zWL := zw7 (List.mem_of_getElem? (i := 6) rfl) rfl
theorem ml_X11_term : Cond.selects RX11 yX11_term yX11_term ∈ zWL := List.mem_append_right _ (List.mem_filter.mpr ⟨List.mem_map.mpr ⟨(⟨"SourceDisputeModel", "term", "()V"⟩, 69), List.mem_of_getElem? (i := 72) (by decide +kernel), rfl⟩, by decide +kernel⟩)
set_option maxRecDepth 20000 in
theorem mc_X11_emit : Cond.code yX11_emit cX11_emit 3 none ∈ zWL := zw6 (List.mem_of_getElem? (i := 239) rfl) rfl
set_option maxRecDepth 20000 in
theorem mi_X11_emit : Cond.instanceMethod yX11_emit ∈ zWL := zw6 (List.mem_of_getElem? (i := 238) rfl) rfl
theorem ml_X11_emit : Cond.selects RX11 yX11_emit yX11_emit ∈ zWL := List.mem_append_right _ (List.mem_filter.mpr ⟨List.mem_map.mpr ⟨(⟨"SourceDisputeModel", "emit", "(II)V"⟩, 69), List.mem_of_getElem? (i := 70) (by decide +kernel), rfl⟩, by decide +kernel⟩)
set_option maxRecDepth 20000 in
theorem mc_X11_comesOut : Cond.code yX11_comesOut cX11_comesOut 3 none ∈ zWL := zw7 (List.mem_of_getElem? (i := 3) rfl) rfl
set_option maxRecDepth 20000 in
theorem mi_X11_comesOut : Cond.instanceMethod yX11_comesOut ∈ zWL := zw7 (List.mem_of_getElem? (i := 2) rfl) rfl
theorem ml_X11_comesOut : Cond.selects RX11 yX11_comesOut yX11_comesOut ∈ zWL := List.mem_append_right _ (List.mem_filter.mpr ⟨List.mem_map.mpr ⟨(⟨"SourceDisputeModel", "comesOut", "(Z)V"⟩, 69), List.mem_of_getElem? (i := 71) (by decide +kernel), rfl⟩, by decide +kernel⟩)
set_option maxRecDepth 20000 in
theorem mc_X11_expression : Cond.code yX11_expression cX11_expression 3 none ∈ zWL := zw6 (List.mem_of_getElem? (i := 231) rfl) rfl
set_option maxRecDepth 20000 in
theorem mi_X11_expression : Cond.instanceMethod yX11_expression ∈ zWL := zw6 (List.mem_of_getElem? (i := 230) rfl) rfl
theorem ml_X11_expression : Cond.selects RX11 yX11_expression yX11_expression ∈ zWL := List.mem_append_right _ (List.mem_filter.mpr ⟨List.mem_map.mpr ⟨(⟨"SourceDisputeModel", "expression", "()V"⟩, 69), List.mem_of_getElem? (i := 68) (by decide +kernel), rfl⟩, by decide +kernel⟩)
set_option maxRecDepth 20000 in
theorem mc_X11_unit : Cond.code yX11_unit cX11_unit 1 none ∈ zWL := zw6 (List.mem_of_getElem? (i := 235) rfl) rfl
set_option maxRecDepth 20000 in
theorem mi_X11_unit : Cond.instanceMethod yX11_unit ∈ zWL := zw6 (List.mem_of_getElem? (i := 234) rfl) rfl
theorem ml_X11_unit : Cond.selects RX11 yX11_unit yX11_unit ∈ zWL := List.mem_append_right _ (List.mem_filter.mpr ⟨List.mem_map.mpr ⟨(⟨"SourceDisputeModel", "unit", "()V"⟩, 69), List.mem_of_getElem? (i := 69) (by decide +kernel), rfl⟩, by decide +kernel⟩)
set_option maxRecDepth 20000 in
theorem mc_X11_termOf : Cond.code yX11_termOf cX11_termOf 8 (some .int) ∈ zWL := zw7 (List.mem_of_getElem? (i := 53) rfl) rfl
set_option maxRecDepth 20000 in
theorem mi_X11_termOf : Cond.instanceMethod yX11_termOf ∈ zWL := zw7 (List.mem_of_getElem? (i := 52) rfl) rfl
theorem ml_X11_termOf : Cond.selects RX11 yX11_termOf yX11_termOf ∈ zWL := List.mem_append_right _ (List.mem_filter.mpr ⟨List.mem_map.mpr ⟨(⟨"SourceDisputeModel", "termOf", "(II)I"⟩, 69), List.mem_of_getElem? (i := 80) (by decide +kernel), rfl⟩, by decide +kernel⟩)
set_option maxRecDepth 20000 in
theorem mc_X11_in : Cond.code yX11_in cX11_in 3 (some .boolean) ∈ zWL := zw7 (List.mem_of_getElem? (i := 22) rfl) rfl
set_option maxRecDepth 20000 in
theorem ms_X11_in : Cond.static yX11_in ∈ zWL := zw7 (List.mem_of_getElem? (i := 21) rfl) rfl
set_option maxRecDepth 20000 in
theorem mc_X11_within : Cond.code yX11_within cX11_within 3 (some .int) ∈ zWL := zw7 (List.mem_of_getElem? (i := 56) rfl) rfl
set_option maxRecDepth 20000 in
theorem ms_X11_within : Cond.static yX11_within ∈ zWL := zw7 (List.mem_of_getElem? (i := 55) rfl) rfl
set_option maxRecDepth 20000 in
theorem mc_X11_bits : Cond.code yX11_bits cX11_bits 3 (some .int) ∈ zWL := zw7 (List.mem_of_getElem? (i := 45) rfl) rfl
set_option maxRecDepth 20000 in
theorem ms_X11_bits : Cond.static yX11_bits ∈ zWL := zw7 (List.mem_of_getElem? (i := 44) rfl) rfl
set_option maxRecDepth 20000 in
theorem mc_X11_many : Cond.code yX11_many cX11_many 1 (some .int) ∈ zWL := zw5 (List.mem_of_getElem? (i := 170) rfl) rfl
set_option maxRecDepth 20000 in
theorem mi_X11_many : Cond.instanceMethod yX11_many ∈ zWL := zw5 (List.mem_of_getElem? (i := 169) rfl) rfl
theorem ml_X11_many : Cond.selects RX11 yX11_many yX11_many ∈ zWL := List.mem_append_right _ (List.mem_filter.mpr ⟨List.mem_map.mpr ⟨(⟨"SourceDisputeModel", "many", "()I"⟩, 69), List.mem_of_getElem? (i := 49) (by decide +kernel), rfl⟩, by decide +kernel⟩)
set_option maxRecDepth 20000 in
theorem mc_X11_isPlace : Cond.code yX11_isPlace cX11_isPlace 2 (some .boolean) ∈ zWL := zw7 (List.mem_of_getElem? (i := 19) rfl) rfl
set_option maxRecDepth 20000 in
theorem mi_X11_isPlace : Cond.instanceMethod yX11_isPlace ∈ zWL := zw7 (List.mem_of_getElem? (i := 18) rfl) rfl
theorem ml_X11_isPlace : Cond.selects RX11 yX11_isPlace yX11_isPlace ∈ zWL := List.mem_append_right _ (List.mem_filter.mpr ⟨List.mem_map.mpr ⟨(⟨"SourceDisputeModel", "isPlace", "(I)Z"⟩, 69), List.mem_of_getElem? (i := 73) (by decide +kernel), rfl⟩, by decide +kernel⟩)
set_option maxRecDepth 20000 in
theorem mc_X11_isBeside : Cond.code yX11_isBeside cX11_isBeside 2 (some .boolean) ∈ zWL := zw7 (List.mem_of_getElem? (i := 68) rfl) rfl
set_option maxRecDepth 20000 in
theorem mi_X11_isBeside : Cond.instanceMethod yX11_isBeside ∈ zWL := zw7 (List.mem_of_getElem? (i := 67) rfl) rfl
theorem ml_X11_isBeside : Cond.selects RX11 yX11_isBeside yX11_isBeside ∈ zWL := List.mem_append_right _ (List.mem_filter.mpr ⟨List.mem_map.mpr ⟨(⟨"SourceDisputeModel", "isBeside", "(I)Z"⟩, 69), List.mem_of_getElem? (i := 83) (by decide +kernel), rfl⟩, by decide +kernel⟩)
set_option maxRecDepth 20000 in
theorem mc_X11_isLaw : Cond.code yX11_isLaw cX11_isLaw 1 (some .boolean) ∈ zWL := zw7 (List.mem_of_getElem? (i := 79) rfl) rfl
set_option maxRecDepth 20000 in
theorem ms_X11_isLaw : Cond.static yX11_isLaw ∈ zWL := zw7 (List.mem_of_getElem? (i := 78) rfl) rfl
set_option maxRecDepth 20000 in
theorem mc_X11_begins : Cond.code yX11_begins cX11_begins 2 none ∈ zWL := zw5 (List.mem_of_getElem? (i := 166) rfl) rfl
set_option maxRecDepth 20000 in
theorem mi_X11_begins : Cond.instanceMethod yX11_begins ∈ zWL := zw5 (List.mem_of_getElem? (i := 165) rfl) rfl
theorem ml_X11_begins : Cond.selects RX11 yX11_begins yX11_begins ∈ zWL := List.mem_append_right _ (List.mem_filter.mpr ⟨List.mem_map.mpr ⟨(⟨"SourceDisputeModel", "begins", "()V"⟩, 69), List.mem_of_getElem? (i := 48) (by decide +kernel), rfl⟩, by decide +kernel⟩)
set_option maxRecDepth 20000 in
theorem mc_X11_keepsRow : Cond.code yX11_keepsRow cX11_keepsRow 2 none ∈ zWL := zw5 (List.mem_of_getElem? (i := 174) rfl) rfl
set_option maxRecDepth 20000 in
theorem mi_X11_keepsRow : Cond.instanceMethod yX11_keepsRow ∈ zWL := zw5 (List.mem_of_getElem? (i := 173) rfl) rfl
theorem ml_X11_keepsRow : Cond.selects RX11 yX11_keepsRow yX11_keepsRow ∈ zWL := List.mem_append_right _ (List.mem_filter.mpr ⟨List.mem_map.mpr ⟨(⟨"SourceDisputeModel", "keepsRow", "()V"⟩, 69), List.mem_of_getElem? (i := 50) (by decide +kernel), rfl⟩, by decide +kernel⟩)
set_option maxRecDepth 20000 in
theorem mc_X11_copies : Cond.code yX11_copies cX11_copies 2 none ∈ zWL := zw7 (List.mem_of_getElem? (i := 26) rfl) rfl
set_option maxRecDepth 20000 in
theorem mi_X11_copies : Cond.instanceMethod yX11_copies ∈ zWL := zw7 (List.mem_of_getElem? (i := 25) rfl) rfl
theorem ml_X11_copies : Cond.selects RX11 yX11_copies yX11_copies ∈ zWL := List.mem_append_right _ (List.mem_filter.mpr ⟨List.mem_map.mpr ⟨(⟨"SourceDisputeModel", "copies", "()V"⟩, 69), List.mem_of_getElem? (i := 74) (by decide +kernel), rfl⟩, by decide +kernel⟩)
set_option maxRecDepth 20000 in
theorem mc_X11_copiesStill : Cond.code yX11_copiesStill cX11_copiesStill 1 none ∈ zWL := zw7 (List.mem_of_getElem? (i := 154) rfl) rfl
set_option maxRecDepth 20000 in
theorem mi_X11_copiesStill : Cond.instanceMethod yX11_copiesStill ∈ zWL := zw7 (List.mem_of_getElem? (i := 153) rfl) rfl
theorem ml_X11_copiesStill : Cond.selects RX11 yX11_copiesStill yX11_copiesStill ∈ zWL := List.mem_append_right _ (List.mem_filter.mpr ⟨List.mem_map.mpr ⟨(⟨"SourceDisputeModel", "copiesStill", "()V"⟩, 69), List.mem_of_getElem? (i := 93) (by decide +kernel), rfl⟩, by decide +kernel⟩)
set_option maxRecDepth 20000 in
theorem mc_X11_mixed : Cond.code yX11_mixed cX11_mixed 3 (some .int) ∈ zWL := zw7 (List.mem_of_getElem? (i := 138) rfl) rfl
set_option maxRecDepth 20000 in
theorem ms_X11_mixed : Cond.static yX11_mixed ∈ zWL := zw7 (List.mem_of_getElem? (i := 137) rfl) rfl
set_option maxRecDepth 20000 in
theorem mc_X11_isStorm : Cond.code yX11_isStorm cX11_isStorm 1 (some .boolean) ∈ zWL := zw7 (List.mem_of_getElem? (i := 135) rfl) rfl
set_option maxRecDepth 20000 in
theorem mi_X11_isStorm : Cond.instanceMethod yX11_isStorm ∈ zWL := zw7 (List.mem_of_getElem? (i := 134) rfl) rfl
theorem ml_X11_isStorm : Cond.selects RX11 yX11_isStorm yX11_isStorm ∈ zWL := List.mem_append_right _ (List.mem_filter.mpr ⟨List.mem_map.mpr ⟨(⟨"SourceDisputeModel", "isStorm", "()Z"⟩, 69), List.mem_of_getElem? (i := 92) (by decide +kernel), rfl⟩, by decide +kernel⟩)
set_option maxRecDepth 20000 in
theorem mc_X11_fillsWays : Cond.code yX11_fillsWays cX11_fillsWays 3 none ∈ zWL := zw7 (List.mem_of_getElem? (i := 30) rfl) rfl
set_option maxRecDepth 20000 in
theorem mi_X11_fillsWays : Cond.instanceMethod yX11_fillsWays ∈ zWL := zw7 (List.mem_of_getElem? (i := 29) rfl) rfl
theorem ml_X11_fillsWays : Cond.selects RX11 yX11_fillsWays yX11_fillsWays ∈ zWL := List.mem_append_right _ (List.mem_filter.mpr ⟨List.mem_map.mpr ⟨(⟨"SourceDisputeModel", "fillsWays", "()V"⟩, 69), List.mem_of_getElem? (i := 75) (by decide +kernel), rfl⟩, by decide +kernel⟩)
set_option maxRecDepth 20000 in
theorem mc_X11_isSource : Cond.code yX11_isSource cX11_isSource 2 (some .boolean) ∈ zWL := zw7 (List.mem_of_getElem? (i := 64) rfl) rfl
set_option maxRecDepth 20000 in
theorem mi_X11_isSource : Cond.instanceMethod yX11_isSource ∈ zWL := zw7 (List.mem_of_getElem? (i := 63) rfl) rfl
theorem ml_X11_isSource : Cond.selects RX11 yX11_isSource yX11_isSource ∈ zWL := List.mem_append_right _ (List.mem_filter.mpr ⟨List.mem_map.mpr ⟨(⟨"SourceDisputeModel", "isSource", "(I)Z"⟩, 69), List.mem_of_getElem? (i := 82) (by decide +kernel), rfl⟩, by decide +kernel⟩)
set_option maxRecDepth 20000 in
theorem mc_X11_sourceBits : Cond.code yX11_sourceBits cX11_sourceBits 3 (some .int) ∈ zWL := zw7 (List.mem_of_getElem? (i := 182) rfl) rfl
set_option maxRecDepth 20000 in
theorem mi_X11_sourceBits : Cond.instanceMethod yX11_sourceBits ∈ zWL := zw7 (List.mem_of_getElem? (i := 181) rfl) rfl
theorem ml_X11_sourceBits : Cond.selects RX11 yX11_sourceBits yX11_sourceBits ∈ zWL := List.mem_append_right _ (List.mem_filter.mpr ⟨List.mem_map.mpr ⟨(⟨"SourceDisputeModel", "sourceBits", "()I"⟩, 69), List.mem_of_getElem? (i := 95) (by decide +kernel), rfl⟩, by decide +kernel⟩)
set_option maxRecDepth 20000 in
theorem mc_X11_looks : Cond.code yX11_looks cX11_looks 3 none ∈ zWL := zw7 (List.mem_of_getElem? (i := 42) rfl) rfl
set_option maxRecDepth 20000 in
theorem mi_X11_looks : Cond.instanceMethod yX11_looks ∈ zWL := zw7 (List.mem_of_getElem? (i := 41) rfl) rfl
theorem ml_X11_looks : Cond.selects RX11 yX11_looks yX11_looks ∈ zWL := List.mem_append_right _ (List.mem_filter.mpr ⟨List.mem_map.mpr ⟨(⟨"SourceDisputeModel", "looks", "(II)V"⟩, 69), List.mem_of_getElem? (i := 78) (by decide +kernel), rfl⟩, by decide +kernel⟩)
set_option maxRecDepth 20000 in
theorem mc_X11_lawTells : Cond.code yX11_lawTells cX11_lawTells 7 (some .int) ∈ zWL := zw7 (List.mem_of_getElem? (i := 49) rfl) rfl
set_option maxRecDepth 20000 in
theorem mi_X11_lawTells : Cond.instanceMethod yX11_lawTells ∈ zWL := zw7 (List.mem_of_getElem? (i := 48) rfl) rfl
theorem ml_X11_lawTells : Cond.selects RX11 yX11_lawTells yX11_lawTells ∈ zWL := List.mem_append_right _ (List.mem_filter.mpr ⟨List.mem_map.mpr ⟨(⟨"SourceDisputeModel", "lawTells", "(II)I"⟩, 69), List.mem_of_getElem? (i := 79) (by decide +kernel), rfl⟩, by decide +kernel⟩)
set_option maxRecDepth 20000 in
theorem mc_X11_rainsAt : Cond.code yX11_rainsAt cX11_rainsAt 2 (some .int) ∈ zWL := zw7 (List.mem_of_getElem? (i := 38) rfl) rfl
set_option maxRecDepth 20000 in
theorem mi_X11_rainsAt : Cond.instanceMethod yX11_rainsAt ∈ zWL := zw7 (List.mem_of_getElem? (i := 37) rfl) rfl
theorem ml_X11_rainsAt : Cond.selects RX11 yX11_rainsAt yX11_rainsAt ∈ zWL := List.mem_append_right _ (List.mem_filter.mpr ⟨List.mem_map.mpr ⟨(⟨"SourceDisputeModel", "rainsAt", "(I)I"⟩, 69), List.mem_of_getElem? (i := 77) (by decide +kernel), rfl⟩, by decide +kernel⟩)
set_option maxRecDepth 20000 in
theorem mc_X11_driesAt : Cond.code yX11_driesAt cX11_driesAt 2 (some .int) ∈ zWL := zw7 (List.mem_of_getElem? (i := 60) rfl) rfl
set_option maxRecDepth 20000 in
theorem mi_X11_driesAt : Cond.instanceMethod yX11_driesAt ∈ zWL := zw7 (List.mem_of_getElem? (i := 59) rfl) rfl
theorem ml_X11_driesAt : Cond.selects RX11 yX11_driesAt yX11_driesAt ∈ zWL := List.mem_append_right _ (List.mem_filter.mpr ⟨List.mem_map.mpr ⟨(⟨"SourceDisputeModel", "driesAt", "(I)I"⟩, 69), List.mem_of_getElem? (i := 81) (by decide +kernel), rfl⟩, by decide +kernel⟩)
set_option maxRecDepth 20000 in
theorem mc_X11_fillsFlows : Cond.code yX11_fillsFlows cX11_fillsFlows 5 none ∈ zWL := zw7 (List.mem_of_getElem? (i := 34) rfl) rfl
set_option maxRecDepth 20000 in
theorem mi_X11_fillsFlows : Cond.instanceMethod yX11_fillsFlows ∈ zWL := zw7 (List.mem_of_getElem? (i := 33) rfl) rfl
theorem ml_X11_fillsFlows : Cond.selects RX11 yX11_fillsFlows yX11_fillsFlows ∈ zWL := List.mem_append_right _ (List.mem_filter.mpr ⟨List.mem_map.mpr ⟨(⟨"SourceDisputeModel", "fillsFlows", "(I)V"⟩, 69), List.mem_of_getElem? (i := 76) (by decide +kernel), rfl⟩, by decide +kernel⟩)
set_option maxRecDepth 20000 in
theorem mc_X11_claimOf : Cond.code yX11_claimOf cX11_claimOf 4 (some .int) ∈ zWL := zw7 (List.mem_of_getElem? (i := 83) rfl) rfl
set_option maxRecDepth 20000 in
theorem mi_X11_claimOf : Cond.instanceMethod yX11_claimOf ∈ zWL := zw7 (List.mem_of_getElem? (i := 82) rfl) rfl
theorem ml_X11_claimOf : Cond.selects RX11 yX11_claimOf yX11_claimOf ∈ zWL := List.mem_append_right _ (List.mem_filter.mpr ⟨List.mem_map.mpr ⟨(⟨"SourceDisputeModel", "claimOf", "(II)I"⟩, 69), List.mem_of_getElem? (i := 85) (by decide +kernel), rfl⟩, by decide +kernel⟩)
set_option maxRecDepth 20000 in
theorem mc_X11_winnerBy : Cond.code yX11_winnerBy cX11_winnerBy 6 (some .int) ∈ zWL := zw7 (List.mem_of_getElem? (i := 92) rfl) rfl
set_option maxRecDepth 20000 in
theorem mi_X11_winnerBy : Cond.instanceMethod yX11_winnerBy ∈ zWL := zw7 (List.mem_of_getElem? (i := 91) rfl) rfl
theorem ml_X11_winnerBy : Cond.selects RX11 yX11_winnerBy yX11_winnerBy ∈ zWL := List.mem_append_right _ (List.mem_filter.mpr ⟨List.mem_map.mpr ⟨(⟨"SourceDisputeModel", "winnerBy", "(I)I"⟩, 69), List.mem_of_getElem? (i := 86) (by decide +kernel), rfl⟩, by decide +kernel⟩)
set_option maxRecDepth 20000 in
theorem mc_X11_monthGoes : Cond.code yX11_monthGoes cX11_monthGoes 1 none ∈ zWL := zw7 (List.mem_of_getElem? (i := 131) rfl) rfl
set_option maxRecDepth 20000 in
theorem mi_X11_monthGoes : Cond.instanceMethod yX11_monthGoes ∈ zWL := zw7 (List.mem_of_getElem? (i := 130) rfl) rfl
theorem ml_X11_monthGoes : Cond.selects RX11 yX11_monthGoes yX11_monthGoes ∈ zWL := List.mem_append_right _ (List.mem_filter.mpr ⟨List.mem_map.mpr ⟨(⟨"SourceDisputeModel", "monthGoes", "()V"⟩, 69), List.mem_of_getElem? (i := 91) (by decide +kernel), rfl⟩, by decide +kernel⟩)
set_option maxRecDepth 20000 in
theorem mc_X11_goes : Cond.code yX11_goes cX11_goes 3 none ∈ zWL := zw7 (List.mem_of_getElem? (i := 127) rfl) rfl
set_option maxRecDepth 20000 in
theorem mi_X11_goes : Cond.instanceMethod yX11_goes ∈ zWL := zw7 (List.mem_of_getElem? (i := 126) rfl) rfl
theorem ml_X11_goes : Cond.selects RX11 yX11_goes yX11_goes ∈ zWL := List.mem_append_right _ (List.mem_filter.mpr ⟨List.mem_map.mpr ⟨(⟨"SourceDisputeModel", "goes", "(I)V"⟩, 69), List.mem_of_getElem? (i := 90) (by decide +kernel), rfl⟩, by decide +kernel⟩)
set_option maxRecDepth 20000 in
theorem mc_X11_spot : Cond.code yX11_spot cX11_spot 3 (some .int) ∈ zWL := zw7 (List.mem_of_getElem? (i := 15) rfl) rfl
set_option maxRecDepth 20000 in
theorem mi_X11_spot : Cond.instanceMethod yX11_spot ∈ zWL := zw7 (List.mem_of_getElem? (i := 13) rfl) rfl
set_option maxRecDepth 20000 in
theorem ml_X11_spot : Cond.selects RX11 yX11_spot yX11_spot ∈ zWL := zw7 (List.mem_of_getElem? (i := 14) rfl) rfl
set_option maxRecDepth 20000 in
theorem mc_X11_isClaim : Cond.code yX11_isClaim cX11_isClaim 3 (some .boolean) ∈ zWL := zw7 (List.mem_of_getElem? (i := 76) rfl) rfl
set_option maxRecDepth 20000 in
theorem mi_X11_isClaim : Cond.instanceMethod yX11_isClaim ∈ zWL := zw7 (List.mem_of_getElem? (i := 75) rfl) rfl
theorem ml_X11_isClaim : Cond.selects RX11 yX11_isClaim yX11_isClaim ∈ zWL := List.mem_append_right _ (List.mem_filter.mpr ⟨List.mem_map.mpr ⟨(⟨"SourceDisputeModel", "isClaim", "(II)Z"⟩, 69), List.mem_of_getElem? (i := 84) (by decide +kernel), rfl⟩, by decide +kernel⟩)
set_option maxRecDepth 20000 in
theorem mc_X11_claim : Cond.code yX11_claim cX11_claim 3 (some .int) ∈ zWL := zw7 (List.mem_of_getElem? (i := 72) rfl) rfl
set_option maxRecDepth 20000 in
theorem mi_X11_claim : Cond.instanceMethod yX11_claim ∈ zWL := zw7 (List.mem_of_getElem? (i := 70) rfl) rfl
set_option maxRecDepth 20000 in
theorem ml_X11_claim : Cond.selects RX11 yX11_claim yX11_claim ∈ zWL := zw7 (List.mem_of_getElem? (i := 71) rfl) rfl
set_option maxRecDepth 20000 in
theorem mc_X11_winner : Cond.code yX11_winner cX11_winner 2 (some .int) ∈ zWL := zw7 (List.mem_of_getElem? (i := 88) rfl) rfl
set_option maxRecDepth 20000 in
theorem mi_X11_winner : Cond.instanceMethod yX11_winner ∈ zWL := zw7 (List.mem_of_getElem? (i := 86) rfl) rfl
set_option maxRecDepth 20000 in
theorem ml_X11_winner : Cond.selects RX11 yX11_winner yX11_winner ∈ zWL := zw7 (List.mem_of_getElem? (i := 87) rfl) rfl
set_option maxRecDepth 20000 in
theorem mc_X11_records : Cond.code yX11_records cX11_records 2 none ∈ zWL := zw7 (List.mem_of_getElem? (i := 104) rfl) rfl
set_option maxRecDepth 20000 in
theorem mi_X11_records : Cond.instanceMethod yX11_records ∈ zWL := zw7 (List.mem_of_getElem? (i := 103) rfl) rfl
theorem ml_X11_records : Cond.selects RX11 yX11_records yX11_records ∈ zWL := List.mem_append_right _ (List.mem_filter.mpr ⟨List.mem_map.mpr ⟨(⟨"SourceDisputeModel", "records", "()V"⟩, 69), List.mem_of_getElem? (i := 88) (by decide +kernel), rfl⟩, by decide +kernel⟩)
set_option maxRecDepth 20000 in
theorem mc_X11_does : Cond.code yX11_does cX11_does 3 none ∈ zWL := zw7 (List.mem_of_getElem? (i := 100) rfl) rfl
set_option maxRecDepth 20000 in
theorem mi_X11_does : Cond.instanceMethod yX11_does ∈ zWL := zw7 (List.mem_of_getElem? (i := 99) rfl) rfl
theorem ml_X11_does : Cond.selects RX11 yX11_does yX11_does ∈ zWL := List.mem_append_right _ (List.mem_filter.mpr ⟨List.mem_map.mpr ⟨(⟨"SourceDisputeModel", "does", "(II)V"⟩, 69), List.mem_of_getElem? (i := 87) (by decide +kernel), rfl⟩, by decide +kernel⟩)
set_option maxRecDepth 20000 in
theorem mc_X11_dam : Cond.code yX11_dam cX11_dam 3 (some .boolean) ∈ zWL := zw7 (List.mem_of_getElem? (i := 96) rfl) rfl
set_option maxRecDepth 20000 in
theorem mi_X11_dam : Cond.instanceMethod yX11_dam ∈ zWL := zw7 (List.mem_of_getElem? (i := 94) rfl) rfl
set_option maxRecDepth 20000 in
theorem ml_X11_dam : Cond.selects RX11 yX11_dam yX11_dam ∈ zWL := zw7 (List.mem_of_getElem? (i := 95) rfl) rfl
set_option maxRecDepth 20000 in
theorem mc_X11_canTurn : Cond.code yX11_canTurn cX11_canTurn 3 (some .boolean) ∈ zWL := zw7 (List.mem_of_getElem? (i := 112) rfl) rfl
set_option maxRecDepth 20000 in
theorem mi_X11_canTurn : Cond.instanceMethod yX11_canTurn ∈ zWL := zw7 (List.mem_of_getElem? (i := 111) rfl) rfl
theorem ml_X11_canTurn : Cond.selects RX11 yX11_canTurn yX11_canTurn ∈ zWL := List.mem_append_right _ (List.mem_filter.mpr ⟨List.mem_map.mpr ⟨(⟨"SourceDisputeModel", "canTurn", "(II)Z"⟩, 69), List.mem_of_getElem? (i := 89) (by decide +kernel), rfl⟩, by decide +kernel⟩)
set_option maxRecDepth 20000 in
theorem mc_X11_turn : Cond.code yX11_turn cX11_turn 3 (some .boolean) ∈ zWL := zw7 (List.mem_of_getElem? (i := 108) rfl) rfl
set_option maxRecDepth 20000 in
theorem mi_X11_turn : Cond.instanceMethod yX11_turn ∈ zWL := zw7 (List.mem_of_getElem? (i := 106) rfl) rfl
set_option maxRecDepth 20000 in
theorem ml_X11_turn : Cond.selects RX11 yX11_turn yX11_turn ∈ zWL := zw7 (List.mem_of_getElem? (i := 107) rfl) rfl
set_option maxRecDepth 20000 in
theorem mc_X11_rule : Cond.code yX11_rule cX11_rule 2 (some .boolean) ∈ zWL := zw7 (List.mem_of_getElem? (i := 116) rfl) rfl
set_option maxRecDepth 20000 in
theorem mi_X11_rule : Cond.instanceMethod yX11_rule ∈ zWL := zw7 (List.mem_of_getElem? (i := 114) rfl) rfl
set_option maxRecDepth 20000 in
theorem ml_X11_rule : Cond.selects RX11 yX11_rule yX11_rule ∈ zWL := zw7 (List.mem_of_getElem? (i := 115) rfl) rfl
set_option maxRecDepth 20000 in
theorem mc_X11_isLong : Cond.code yX11_isLong cX11_isLong 1 (some .boolean) ∈ zWL := zw7 (List.mem_of_getElem? (i := 123) rfl) rfl
set_option maxRecDepth 20000 in
theorem ms_X11_isLong : Cond.static yX11_isLong ∈ zWL := zw7 (List.mem_of_getElem? (i := 122) rfl) rfl
set_option maxRecDepth 20000 in
theorem mc_X11_isSome : Cond.code yX11_isSome cX11_isSome 1 (some .boolean) ∈ zWL := zw7 (List.mem_of_getElem? (i := 150) rfl) rfl
set_option maxRecDepth 20000 in
theorem ms_X11_isSome : Cond.static yX11_isSome ∈ zWL := zw7 (List.mem_of_getElem? (i := 149) rfl) rfl
set_option maxRecDepth 20000 in
theorem mc_X11_months : Cond.code yX11_months cX11_months 2 (some .int) ∈ zWL := zw7 (List.mem_of_getElem? (i := 120) rfl) rfl
set_option maxRecDepth 20000 in
theorem mi_X11_months : Cond.instanceMethod yX11_months ∈ zWL := zw7 (List.mem_of_getElem? (i := 118) rfl) rfl
set_option maxRecDepth 20000 in
theorem ml_X11_months : Cond.selects RX11 yX11_months yX11_months ∈ zWL := zw7 (List.mem_of_getElem? (i := 119) rfl) rfl
set_option maxRecDepth 20000 in
theorem mc_X11_undo : Cond.code yX11_undo cX11_undo 2 (some .boolean) ∈ zWL := zw7 (List.mem_of_getElem? (i := 143) rfl) rfl
set_option maxRecDepth 20000 in
theorem mi_X11_undo : Cond.instanceMethod yX11_undo ∈ zWL := zw7 (List.mem_of_getElem? (i := 141) rfl) rfl
set_option maxRecDepth 20000 in
theorem ml_X11_undo : Cond.selects RX11 yX11_undo yX11_undo ∈ zWL := zw7 (List.mem_of_getElem? (i := 142) rfl) rfl
set_option maxRecDepth 20000 in
theorem mc_X11_agree : Cond.code yX11_agree cX11_agree 5 (some .int) ∈ zWL := zw7 (List.mem_of_getElem? (i := 147) rfl) rfl
set_option maxRecDepth 20000 in
theorem mi_X11_agree : Cond.instanceMethod yX11_agree ∈ zWL := zw7 (List.mem_of_getElem? (i := 145) rfl) rfl
set_option maxRecDepth 20000 in
theorem ml_X11_agree : Cond.selects RX11 yX11_agree yX11_agree ∈ zWL := zw7 (List.mem_of_getElem? (i := 146) rfl) rfl
set_option maxRecDepth 20000 in
theorem mc_X11_behind : Cond.code yX11_behind cX11_behind 3 (some .int) ∈ zWL := zw7 (List.mem_of_getElem? (i := 158) rfl) rfl
set_option maxRecDepth 20000 in
theorem mi_X11_behind : Cond.instanceMethod yX11_behind ∈ zWL := zw7 (List.mem_of_getElem? (i := 156) rfl) rfl
set_option maxRecDepth 20000 in
theorem ml_X11_behind : Cond.selects RX11 yX11_behind yX11_behind ∈ zWL := zw7 (List.mem_of_getElem? (i := 157) rfl) rfl
set_option maxRecDepth 20000 in
theorem mc_X11_margin : Cond.code yX11_margin cX11_margin 5 (some .int) ∈ zWL := zw7 (List.mem_of_getElem? (i := 162) rfl) rfl
set_option maxRecDepth 20000 in
theorem mi_X11_margin : Cond.instanceMethod yX11_margin ∈ zWL := zw7 (List.mem_of_getElem? (i := 160) rfl) rfl
set_option maxRecDepth 20000 in
theorem ml_X11_margin : Cond.selects RX11 yX11_margin yX11_margin ∈ zWL := zw7 (List.mem_of_getElem? (i := 161) rfl) rfl
set_option maxRecDepth 20000 in
theorem mc_X11_richest : Cond.code yX11_richest cX11_richest 4 (some .int) ∈ zWL := zw7 (List.mem_of_getElem? (i := 166) rfl) rfl
set_option maxRecDepth 20000 in
theorem mi_X11_richest : Cond.instanceMethod yX11_richest ∈ zWL := zw7 (List.mem_of_getElem? (i := 164) rfl) rfl
set_option maxRecDepth 20000 in
theorem ml_X11_richest : Cond.selects RX11 yX11_richest yX11_richest ∈ zWL := zw7 (List.mem_of_getElem? (i := 165) rfl) rfl
set_option maxRecDepth 20000 in
theorem mc_X11_rankOf : Cond.code yX11_rankOf cX11_rankOf 7 (some .int) ∈ zWL := zw7 (List.mem_of_getElem? (i := 174) rfl) rfl
set_option maxRecDepth 20000 in
theorem mi_X11_rankOf : Cond.instanceMethod yX11_rankOf ∈ zWL := zw7 (List.mem_of_getElem? (i := 173) rfl) rfl
theorem ml_X11_rankOf : Cond.selects RX11 yX11_rankOf yX11_rankOf ∈ zWL := List.mem_append_right _ (List.mem_filter.mpr ⟨List.mem_map.mpr ⟨(⟨"SourceDisputeModel", "rankOf", "(II)I"⟩, 69), List.mem_of_getElem? (i := 94) (by decide +kernel), rfl⟩, by decide +kernel⟩)
set_option maxRecDepth 20000 in
theorem mc_X11_rank : Cond.code yX11_rank cX11_rank 3 (some .int) ∈ zWL := zw7 (List.mem_of_getElem? (i := 170) rfl) rfl
set_option maxRecDepth 20000 in
theorem mi_X11_rank : Cond.instanceMethod yX11_rank ∈ zWL := zw7 (List.mem_of_getElem? (i := 168) rfl) rfl
set_option maxRecDepth 20000 in
theorem ml_X11_rank : Cond.selects RX11 yX11_rank yX11_rank ∈ zWL := zw7 (List.mem_of_getElem? (i := 169) rfl) rfl
set_option maxRecDepth 20000 in
theorem mc_X11_vote : Cond.code yX11_vote cX11_vote 5 (some .int) ∈ zWL := zw7 (List.mem_of_getElem? (i := 178) rfl) rfl
set_option maxRecDepth 20000 in
theorem mi_X11_vote : Cond.instanceMethod yX11_vote ∈ zWL := zw7 (List.mem_of_getElem? (i := 176) rfl) rfl
set_option maxRecDepth 20000 in
theorem ml_X11_vote : Cond.selects RX11 yX11_vote yX11_vote ∈ zWL := zw7 (List.mem_of_getElem? (i := 177) rfl) rfl
set_option maxRecDepth 20000 in
theorem mc_X11_damsAll : Cond.code yX11_damsAll cX11_damsAll 3 none ∈ zWL := zw7 (List.mem_of_getElem? (i := 200) rfl) rfl
set_option maxRecDepth 20000 in
theorem mi_X11_damsAll : Cond.instanceMethod yX11_damsAll ∈ zWL := zw7 (List.mem_of_getElem? (i := 199) rfl) rfl
theorem ml_X11_damsAll : Cond.selects RX11 yX11_damsAll yX11_damsAll ∈ zWL := List.mem_append_right _ (List.mem_filter.mpr ⟨List.mem_map.mpr ⟨(⟨"SourceDisputeModel", "damsAll", "(I)V"⟩, 69), List.mem_of_getElem? (i := 97) (by decide +kernel), rfl⟩, by decide +kernel⟩)
set_option maxRecDepth 20000 in
theorem mc_X11_dammedBits : Cond.code yX11_dammedBits cX11_dammedBits 3 (some .int) ∈ zWL := zw7 (List.mem_of_getElem? (i := 190) rfl) rfl
set_option maxRecDepth 20000 in
theorem mi_X11_dammedBits : Cond.instanceMethod yX11_dammedBits ∈ zWL := zw7 (List.mem_of_getElem? (i := 189) rfl) rfl
theorem ml_X11_dammedBits : Cond.selects RX11 yX11_dammedBits yX11_dammedBits ∈ zWL := List.mem_append_right _ (List.mem_filter.mpr ⟨List.mem_map.mpr ⟨(⟨"SourceDisputeModel", "dammedBits", "()I"⟩, 69), List.mem_of_getElem? (i := 96) (by decide +kernel), rfl⟩, by decide +kernel⟩)
set_option maxRecDepth 20000 in
theorem mc_X11_ithOf : Cond.code yX11_ithOf cX11_ithOf 4 (some .int) ∈ zWL := zw7 (List.mem_of_getElem? (i := 196) rfl) rfl
set_option maxRecDepth 20000 in
theorem ms_X11_ithOf : Cond.static yX11_ithOf ∈ zWL := zw7 (List.mem_of_getElem? (i := 195) rfl) rfl
set_option maxRecDepth 20000 in
theorem mc_X11_isEarlier : Cond.code yX11_isEarlier cX11_isEarlier 3 (some .boolean) ∈ zWL := zw7 (List.mem_of_getElem? (i := 193) rfl) rfl
set_option maxRecDepth 20000 in
theorem ms_X11_isEarlier : Cond.static yX11_isEarlier ∈ zWL := zw7 (List.mem_of_getElem? (i := 192) rfl) rfl
set_option maxRecDepth 20000 in
theorem mc_X11_dams : Cond.code yX11_dams cX11_dams 6 (some .int) ∈ zWL := zw7 (List.mem_of_getElem? (i := 186) rfl) rfl
set_option maxRecDepth 20000 in
theorem mi_X11_dams : Cond.instanceMethod yX11_dams ∈ zWL := zw7 (List.mem_of_getElem? (i := 184) rfl) rfl
set_option maxRecDepth 20000 in
theorem ml_X11_dams : Cond.selects RX11 yX11_dams yX11_dams ∈ zWL := zw7 (List.mem_of_getElem? (i := 185) rfl) rfl
set_option maxRecDepth 20000 in
theorem mc_X11_lossOf : Cond.code yX11_lossOf cX11_lossOf 3 (some .int) ∈ zWL := zw7 (List.mem_of_getElem? (i := 208) rfl) rfl
set_option maxRecDepth 20000 in
theorem mi_X11_lossOf : Cond.instanceMethod yX11_lossOf ∈ zWL := zw7 (List.mem_of_getElem? (i := 207) rfl) rfl
theorem ml_X11_lossOf : Cond.selects RX11 yX11_lossOf yX11_lossOf ∈ zWL := List.mem_append_right _ (List.mem_filter.mpr ⟨List.mem_map.mpr ⟨(⟨"SourceDisputeModel", "lossOf", "(I)I"⟩, 69), List.mem_of_getElem? (i := 98) (by decide +kernel), rfl⟩, by decide +kernel⟩)
set_option maxRecDepth 20000 in
theorem mc_X11_loss : Cond.code yX11_loss cX11_loss 2 (some .int) ∈ zWL := zw7 (List.mem_of_getElem? (i := 204) rfl) rfl
set_option maxRecDepth 20000 in
theorem mi_X11_loss : Cond.instanceMethod yX11_loss ∈ zWL := zw7 (List.mem_of_getElem? (i := 202) rfl) rfl
set_option maxRecDepth 20000 in
theorem ml_X11_loss : Cond.selects RX11 yX11_loss yX11_loss ∈ zWL := zw7 (List.mem_of_getElem? (i := 203) rfl) rfl
set_option maxRecDepth 20000 in
theorem mc_X11_part : Cond.code yX11_part cX11_part 3 (some .int) ∈ zWL := zw7 (List.mem_of_getElem? (i := 212) rfl) rfl
set_option maxRecDepth 20000 in
theorem mi_X11_part : Cond.instanceMethod yX11_part ∈ zWL := zw7 (List.mem_of_getElem? (i := 210) rfl) rfl
set_option maxRecDepth 20000 in
theorem ml_X11_part : Cond.selects RX11 yX11_part yX11_part ∈ zWL := zw7 (List.mem_of_getElem? (i := 211) rfl) rfl
set_option maxRecDepth 20000 in
theorem mc_X11_main : Cond.code yX11_main cX11_main 6 (some .int) ∈ zWL := zw7 (List.mem_of_getElem? (i := 216) rfl) rfl
set_option maxRecDepth 20000 in
theorem mi_X11_main : Cond.instanceMethod yX11_main ∈ zWL := zw7 (List.mem_of_getElem? (i := 214) rfl) rfl
set_option maxRecDepth 20000 in
theorem ml_X11_main : Cond.selects RX11 yX11_main yX11_main ∈ zWL := zw7 (List.mem_of_getElem? (i := 215) rfl) rfl
set_option maxRecDepth 20000 in
theorem mc_X11_driest : Cond.code yX11_driest cX11_driest 6 (some .int) ∈ zWL := zw7 (List.mem_of_getElem? (i := 220) rfl) rfl
set_option maxRecDepth 20000 in
theorem mi_X11_driest : Cond.instanceMethod yX11_driest ∈ zWL := zw7 (List.mem_of_getElem? (i := 218) rfl) rfl
set_option maxRecDepth 20000 in
theorem ml_X11_driest : Cond.selects RX11 yX11_driest yX11_driest ∈ zWL := zw7 (List.mem_of_getElem? (i := 219) rfl) rfl
set_option maxRecDepth 20000 in
theorem mc_X11_winsTurned : Cond.code yX11_winsTurned cX11_winsTurned 5 (some .boolean) ∈ zWL := zw7 (List.mem_of_getElem? (i := 228) rfl) rfl
set_option maxRecDepth 20000 in
theorem mi_X11_winsTurned : Cond.instanceMethod yX11_winsTurned ∈ zWL := zw7 (List.mem_of_getElem? (i := 227) rfl) rfl
theorem ml_X11_winsTurned : Cond.selects RX11 yX11_winsTurned yX11_winsTurned ∈ zWL := List.mem_append_right _ (List.mem_filter.mpr ⟨List.mem_map.mpr ⟨(⟨"SourceDisputeModel", "winsTurned", "(IIII)Z"⟩, 69), List.mem_of_getElem? (i := 99) (by decide +kernel), rfl⟩, by decide +kernel⟩)
set_option maxRecDepth 20000 in
theorem mc_X11_turnFor : Cond.code yX11_turnFor cX11_turnFor 5 (some .int) ∈ zWL := zw7 (List.mem_of_getElem? (i := 224) rfl) rfl
set_option maxRecDepth 20000 in
theorem mi_X11_turnFor : Cond.instanceMethod yX11_turnFor ∈ zWL := zw7 (List.mem_of_getElem? (i := 222) rfl) rfl
set_option maxRecDepth 20000 in
theorem ml_X11_turnFor : Cond.selects RX11 yX11_turnFor yX11_turnFor ∈ zWL := zw7 (List.mem_of_getElem? (i := 223) rfl) rfl
set_option maxRecDepth 20000 in
theorem mc_X11_damFor : Cond.code yX11_damFor cX11_damFor 4 (some .int) ∈ zWL := zw7 (List.mem_of_getElem? (i := 232) rfl) rfl
set_option maxRecDepth 20000 in
theorem mi_X11_damFor : Cond.instanceMethod yX11_damFor ∈ zWL := zw7 (List.mem_of_getElem? (i := 230) rfl) rfl
set_option maxRecDepth 20000 in
theorem ml_X11_damFor : Cond.selects RX11 yX11_damFor yX11_damFor ∈ zWL := zw7 (List.mem_of_getElem? (i := 231) rfl) rfl
set_option maxRecDepth 20000 in
theorem mc_X11_depth : Cond.code yX11_depth cX11_depth 3 (some .int) ∈ zWL := zw7 (List.mem_of_getElem? (i := 236) rfl) rfl
set_option maxRecDepth 20000 in
theorem mi_X11_depth : Cond.instanceMethod yX11_depth ∈ zWL := zw7 (List.mem_of_getElem? (i := 234) rfl) rfl
set_option maxRecDepth 20000 in
theorem ml_X11_depth : Cond.selects RX11 yX11_depth yX11_depth ∈ zWL := zw7 (List.mem_of_getElem? (i := 235) rfl) rfl
set_option maxRecDepth 20000 in
theorem mc_X11_order : Cond.code yX11_order cX11_order 4 (some .int) ∈ zWL := zw8 (List.mem_of_getElem? (i := 0) rfl) rfl
set_option maxRecDepth 20000 in
theorem mi_X11_order : Cond.instanceMethod yX11_order ∈ zWL := zw7 (List.mem_of_getElem? (i := 238) rfl) rfl
set_option maxRecDepth 20000 in
theorem ml_X11_order : Cond.selects RX11 yX11_order yX11_order ∈ zWL := zw7 (List.mem_of_getElem? (i := 239) rfl) rfl
set_option maxRecDepth 20000 in
theorem mc_X11_orderAt : Cond.code yX11_orderAt cX11_orderAt 5 (some .int) ∈ zWL := zw8 (List.mem_of_getElem? (i := 4) rfl) rfl
set_option maxRecDepth 20000 in
theorem mi_X11_orderAt : Cond.instanceMethod yX11_orderAt ∈ zWL := zw8 (List.mem_of_getElem? (i := 3) rfl) rfl
theorem ml_X11_orderAt : Cond.selects RX11 yX11_orderAt yX11_orderAt ∈ zWL := List.mem_append_right _ (List.mem_filter.mpr ⟨List.mem_map.mpr ⟨(⟨"SourceDisputeModel", "orderAt", "(I)I"⟩, 69), List.mem_of_getElem? (i := 100) (by decide +kernel), rfl⟩, by decide +kernel⟩)
set_option maxRecDepth 20000 in
theorem mc_X11_basin : Cond.code yX11_basin cX11_basin 5 (some .int) ∈ zWL := zw8 (List.mem_of_getElem? (i := 8) rfl) rfl
set_option maxRecDepth 20000 in
theorem mi_X11_basin : Cond.instanceMethod yX11_basin ∈ zWL := zw8 (List.mem_of_getElem? (i := 6) rfl) rfl
set_option maxRecDepth 20000 in
theorem ml_X11_basin : Cond.selects RX11 yX11_basin yX11_basin ∈ zWL := zw8 (List.mem_of_getElem? (i := 7) rfl) rfl
set_option maxRecDepth 20000 in
theorem mc_X11_reign : Cond.code yX11_reign cX11_reign 7 (some .int) ∈ zWL := zw8 (List.mem_of_getElem? (i := 12) rfl) rfl
set_option maxRecDepth 20000 in
theorem mi_X11_reign : Cond.instanceMethod yX11_reign ∈ zWL := zw8 (List.mem_of_getElem? (i := 10) rfl) rfl
set_option maxRecDepth 20000 in
theorem ml_X11_reign : Cond.selects RX11 yX11_reign yX11_reign ∈ zWL := zw8 (List.mem_of_getElem? (i := 11) rfl) rfl
set_option maxRecDepth 20000 in
theorem mc_X11_tourOf : Cond.code yX11_tourOf cX11_tourOf 5 (some .int) ∈ zWL := zw8 (List.mem_of_getElem? (i := 20) rfl) rfl
set_option maxRecDepth 20000 in
theorem mi_X11_tourOf : Cond.instanceMethod yX11_tourOf ∈ zWL := zw8 (List.mem_of_getElem? (i := 19) rfl) rfl
theorem ml_X11_tourOf : Cond.selects RX11 yX11_tourOf yX11_tourOf ∈ zWL := List.mem_append_right _ (List.mem_filter.mpr ⟨List.mem_map.mpr ⟨(⟨"SourceDisputeModel", "tourOf", "(I)I"⟩, 69), List.mem_of_getElem? (i := 101) (by decide +kernel), rfl⟩, by decide +kernel⟩)
set_option maxRecDepth 20000 in
theorem mc_X11_tour : Cond.code yX11_tour cX11_tour 1 (some .int) ∈ zWL := zw8 (List.mem_of_getElem? (i := 16) rfl) rfl
set_option maxRecDepth 20000 in
theorem mi_X11_tour : Cond.instanceMethod yX11_tour ∈ zWL := zw8 (List.mem_of_getElem? (i := 14) rfl) rfl
set_option maxRecDepth 20000 in
theorem ml_X11_tour : Cond.selects RX11 yX11_tour yX11_tour ∈ zWL := zw8 (List.mem_of_getElem? (i := 15) rfl) rfl
set_option maxRecDepth 20000 in
theorem mc_X11_parted : Cond.code yX11_parted cX11_parted 6 (some .int) ∈ zWL := zw8 (List.mem_of_getElem? (i := 24) rfl) rfl
set_option maxRecDepth 20000 in
theorem mi_X11_parted : Cond.instanceMethod yX11_parted ∈ zWL := zw8 (List.mem_of_getElem? (i := 22) rfl) rfl
set_option maxRecDepth 20000 in
theorem ml_X11_parted : Cond.selects RX11 yX11_parted yX11_parted ∈ zWL := zw8 (List.mem_of_getElem? (i := 23) rfl) rfl
set_option maxRecDepth 20000 in
theorem mc_X11_meet : Cond.code yX11_meet cX11_meet 5 (some .int) ∈ zWL := zw8 (List.mem_of_getElem? (i := 28) rfl) rfl
set_option maxRecDepth 20000 in
theorem mi_X11_meet : Cond.instanceMethod yX11_meet ∈ zWL := zw8 (List.mem_of_getElem? (i := 26) rfl) rfl
set_option maxRecDepth 20000 in
theorem ml_X11_meet : Cond.selects RX11 yX11_meet yX11_meet ∈ zWL := zw8 (List.mem_of_getElem? (i := 27) rfl) rfl
set_option maxRecDepth 20000 in
theorem mc_X11_when : Cond.code yX11_when cX11_when 3 (some .int) ∈ zWL := zw8 (List.mem_of_getElem? (i := 32) rfl) rfl
set_option maxRecDepth 20000 in
theorem mi_X11_when : Cond.instanceMethod yX11_when ∈ zWL := zw8 (List.mem_of_getElem? (i := 30) rfl) rfl
set_option maxRecDepth 20000 in
theorem ml_X11_when : Cond.selects RX11 yX11_when yX11_when ∈ zWL := zw8 (List.mem_of_getElem? (i := 31) rfl) rfl
set_option maxRecDepth 20000 in
theorem mc_X11_then : Cond.code yX11_then cX11_then 4 (some .int) ∈ zWL := zw8 (List.mem_of_getElem? (i := 36) rfl) rfl
set_option maxRecDepth 20000 in
theorem mi_X11_then : Cond.instanceMethod yX11_then ∈ zWL := zw8 (List.mem_of_getElem? (i := 34) rfl) rfl
set_option maxRecDepth 20000 in
theorem ml_X11_then : Cond.selects RX11 yX11_then yX11_then ∈ zWL := zw8 (List.mem_of_getElem? (i := 35) rfl) rfl
set_option maxRecDepth 20000 in
theorem mc_X11_flowIn : Cond.code yX11_flowIn cX11_flowIn 2 (some .int) ∈ zWL := zw8 (List.mem_of_getElem? (i := 40) rfl) rfl
set_option maxRecDepth 20000 in
theorem mi_X11_flowIn : Cond.instanceMethod yX11_flowIn ∈ zWL := zw8 (List.mem_of_getElem? (i := 38) rfl) rfl
set_option maxRecDepth 20000 in
theorem ml_X11_flowIn : Cond.selects RX11 yX11_flowIn yX11_flowIn ∈ zWL := zw8 (List.mem_of_getElem? (i := 39) rfl) rfl
set_option maxRecDepth 20000 in
theorem mc_X11_hasWonMost : Cond.code yX11_hasWonMost cX11_hasWonMost 3 (some .boolean) ∈ zWL := zw8 (List.mem_of_getElem? (i := 48) rfl) rfl
set_option maxRecDepth 20000 in
theorem mi_X11_hasWonMost : Cond.instanceMethod yX11_hasWonMost ∈ zWL := zw8 (List.mem_of_getElem? (i := 47) rfl) rfl
theorem ml_X11_hasWonMost : Cond.selects RX11 yX11_hasWonMost yX11_hasWonMost ∈ zWL := List.mem_append_right _ (List.mem_filter.mpr ⟨List.mem_map.mpr ⟨(⟨"SourceDisputeModel", "hasWonMost", "(I)Z"⟩, 69), List.mem_of_getElem? (i := 102) (by decide +kernel), rfl⟩, by decide +kernel⟩)
set_option maxRecDepth 20000 in
theorem mc_X11_year : Cond.code yX11_year cX11_year 6 (some .int) ∈ zWL := zw8 (List.mem_of_getElem? (i := 44) rfl) rfl
set_option maxRecDepth 20000 in
theorem mi_X11_year : Cond.instanceMethod yX11_year ∈ zWL := zw8 (List.mem_of_getElem? (i := 42) rfl) rfl
set_option maxRecDepth 20000 in
theorem ml_X11_year : Cond.selects RX11 yX11_year yX11_year ∈ zWL := zw8 (List.mem_of_getElem? (i := 43) rfl) rfl
set_option maxRecDepth 20000 in
theorem mc_X11_tell : Cond.code yX11_tell cX11_tell 5 (some .int) ∈ zWL := zw8 (List.mem_of_getElem? (i := 52) rfl) rfl
set_option maxRecDepth 20000 in
theorem mi_X11_tell : Cond.instanceMethod yX11_tell ∈ zWL := zw8 (List.mem_of_getElem? (i := 50) rfl) rfl
set_option maxRecDepth 20000 in
theorem ml_X11_tell : Cond.selects RX11 yX11_tell yX11_tell ∈ zWL := zw8 (List.mem_of_getElem? (i := 51) rfl) rfl
set_option maxRecDepth 20000 in
theorem mc_X11_forget : Cond.code yX11_forget cX11_forget 2 (some .int) ∈ zWL := zw8 (List.mem_of_getElem? (i := 56) rfl) rfl
set_option maxRecDepth 20000 in
theorem mi_X11_forget : Cond.instanceMethod yX11_forget ∈ zWL := zw8 (List.mem_of_getElem? (i := 54) rfl) rfl
set_option maxRecDepth 20000 in
theorem ml_X11_forget : Cond.selects RX11 yX11_forget yX11_forget ∈ zWL := zw8 (List.mem_of_getElem? (i := 55) rfl) rfl
set_option maxRecDepth 20000 in
theorem mc_X11_comesBy : Cond.code yX11_comesBy cX11_comesBy 4 (some .boolean) ∈ zWL := zw8 (List.mem_of_getElem? (i := 68) rfl) rfl
set_option maxRecDepth 20000 in
theorem mi_X11_comesBy : Cond.instanceMethod yX11_comesBy ∈ zWL := zw8 (List.mem_of_getElem? (i := 67) rfl) rfl
theorem ml_X11_comesBy : Cond.selects RX11 yX11_comesBy yX11_comesBy ∈ zWL := List.mem_append_right _ (List.mem_filter.mpr ⟨List.mem_map.mpr ⟨(⟨"SourceDisputeModel", "comesBy", "(II)Z"⟩, 69), List.mem_of_getElem? (i := 104) (by decide +kernel), rfl⟩, by decide +kernel⟩)
set_option maxRecDepth 20000 in
theorem mc_X11_dyedBits : Cond.code yX11_dyedBits cX11_dyedBits 6 (some .int) ∈ zWL := zw8 (List.mem_of_getElem? (i := 64) rfl) rfl
set_option maxRecDepth 20000 in
theorem mi_X11_dyedBits : Cond.instanceMethod yX11_dyedBits ∈ zWL := zw8 (List.mem_of_getElem? (i := 63) rfl) rfl
theorem ml_X11_dyedBits : Cond.selects RX11 yX11_dyedBits yX11_dyedBits ∈ zWL := List.mem_append_right _ (List.mem_filter.mpr ⟨List.mem_map.mpr ⟨(⟨"SourceDisputeModel", "dyedBits", "(I)I"⟩, 69), List.mem_of_getElem? (i := 103) (by decide +kernel), rfl⟩, by decide +kernel⟩)
set_option maxRecDepth 20000 in
theorem mc_X11_dyed : Cond.code yX11_dyed cX11_dyed 4 (some .int) ∈ zWL := zw8 (List.mem_of_getElem? (i := 60) rfl) rfl
set_option maxRecDepth 20000 in
theorem mi_X11_dyed : Cond.instanceMethod yX11_dyed ∈ zWL := zw8 (List.mem_of_getElem? (i := 58) rfl) rfl
set_option maxRecDepth 20000 in
theorem ml_X11_dyed : Cond.selects RX11 yX11_dyed yX11_dyed ∈ zWL := zw8 (List.mem_of_getElem? (i := 59) rfl) rfl
set_option maxRecDepth 20000 in
theorem mc_X11_watch : Cond.code yX11_watch cX11_watch 8 (some .int) ∈ zWL := zw8 (List.mem_of_getElem? (i := 72) rfl) rfl
set_option maxRecDepth 20000 in
theorem mi_X11_watch : Cond.instanceMethod yX11_watch ∈ zWL := zw8 (List.mem_of_getElem? (i := 70) rfl) rfl
set_option maxRecDepth 20000 in
theorem ml_X11_watch : Cond.selects RX11 yX11_watch yX11_watch ∈ zWL := zw8 (List.mem_of_getElem? (i := 71) rfl) rfl
set_option maxRecDepth 20000 in
theorem mc_X11_hold : Cond.code yX11_hold cX11_hold 3 (some .boolean) ∈ zWL := zw8 (List.mem_of_getElem? (i := 76) rfl) rfl
set_option maxRecDepth 20000 in
theorem mi_X11_hold : Cond.instanceMethod yX11_hold ∈ zWL := zw8 (List.mem_of_getElem? (i := 74) rfl) rfl
set_option maxRecDepth 20000 in
theorem ml_X11_hold : Cond.selects RX11 yX11_hold yX11_hold ∈ zWL := zw8 (List.mem_of_getElem? (i := 75) rfl) rfl
set_option maxRecDepth 20000 in
theorem mc_X11_restore : Cond.code yX11_restore cX11_restore 3 (some .boolean) ∈ zWL := zw8 (List.mem_of_getElem? (i := 80) rfl) rfl
set_option maxRecDepth 20000 in
theorem mi_X11_restore : Cond.instanceMethod yX11_restore ∈ zWL := zw8 (List.mem_of_getElem? (i := 78) rfl) rfl
set_option maxRecDepth 20000 in
theorem ml_X11_restore : Cond.selects RX11 yX11_restore yX11_restore ∈ zWL := zw8 (List.mem_of_getElem? (i := 79) rfl) rfl
set_option maxRecDepth 20000 in
theorem mc_X11_count : Cond.code yX11_count cX11_count 4 (some .int) ∈ zWL := zw8 (List.mem_of_getElem? (i := 84) rfl) rfl
set_option maxRecDepth 20000 in
theorem mi_X11_count : Cond.instanceMethod yX11_count ∈ zWL := zw8 (List.mem_of_getElem? (i := 82) rfl) rfl
set_option maxRecDepth 20000 in
theorem ml_X11_count : Cond.selects RX11 yX11_count yX11_count ∈ zWL := zw8 (List.mem_of_getElem? (i := 83) rfl) rfl
set_option maxRecDepth 20000 in
theorem wc_L_7 : Cond.classLink RL 7 RX10 ∈ zWL := zw1 (List.mem_of_getElem? (i := 22) rfl) rfl
set_option maxRecDepth 20000 in
theorem wi_X10 : Cond.instantiable RX10 14 ∈ zWL := zw1 (List.mem_of_getElem? (i := 23) rfl) rfl
set_option maxRecDepth 20000 in
theorem mn_L_9 : Cond.methodLink RL 9 yX10_init ∈ zWL ∨ ∃ host, Cond.methodLinkNest RL 9 yX10_init host ∈ tables_1 := Or.inl (zw1 (List.mem_of_getElem? (i := 24) rfl) rfl)
set_option maxRecDepth 20000 in
theorem mi_X10_init : Cond.instanceMethod yX10_init ∈ zWL := zw1 (List.mem_of_getElem? (i := 25) rfl) rfl
set_option maxRecDepth 20000 in
theorem mo_X10_1 : Cond.methodLink RX10 1 objectInit ∈ zWL := zw1 (List.mem_of_getElem? (i := 27) rfl) rfl
set_option maxRecDepth 20000 in
theorem mo_inst : Cond.instanceMethod objectInit ∈ zWL := zw1 (List.mem_of_getElem? (i := 28) rfl) rfl
set_option maxRecDepth 20000 in
theorem mo_code : Cond.code objectInit ⟨#[0xb1]⟩ 1 none ∈ zWL := zw1 (List.mem_of_getElem? (i := 29) rfl) rfl
set_option maxRecDepth 20000 in
theorem wc_X10_7 : Cond.classLink RX10 7 RX7 ∈ zWL := zw1 (List.mem_of_getElem? (i := 30) rfl) rfl
set_option maxRecDepth 20000 in
theorem wi_X7 : Cond.instantiable RX7 2 ∈ zWL := zw1 (List.mem_of_getElem? (i := 31) rfl) rfl
set_option maxRecDepth 20000 in
theorem mn_X10_9 : Cond.methodLink RX10 9 yX7_init ∈ zWL ∨ ∃ host, Cond.methodLinkNest RX10 9 yX7_init host ∈ tables_1 := Or.inr ⟨"SourceDispute", (zt1 (List.mem_of_getElem? (i := 32) rfl))⟩
set_option maxRecDepth 20000 in
theorem mi_X7_init : Cond.instanceMethod yX7_init ∈ zWL := zw1 (List.mem_of_getElem? (i := 33) rfl) rfl
set_option maxRecDepth 20000 in
theorem mo_X7_3 : Cond.methodLink RX7 3 objectInit ∈ zWL := zw1 (List.mem_of_getElem? (i := 35) rfl) rfl
set_option maxRecDepth 20000 in
theorem wa_byte : Cond.arrayClass .byte ∈ zWL := zw1 (List.mem_of_getElem? (i := 45) rfl) rfl
set_option maxRecDepth 20000 in
theorem wc_X10_16 : Cond.classLink RX10 16 RX3 ∈ zWL := zw1 (List.mem_of_getElem? (i := 46) rfl) rfl
set_option maxRecDepth 20000 in
theorem wi_X3 : Cond.instantiable RX3 12 ∈ zWL := zw1 (List.mem_of_getElem? (i := 47) rfl) rfl
set_option maxRecDepth 20000 in
theorem mn_X10_18 : Cond.methodLink RX10 18 yX3_init ∈ zWL ∨ ∃ host, Cond.methodLinkNest RX10 18 yX3_init host ∈ tables_1 := Or.inr ⟨"SourceDispute", (zt1 (List.mem_of_getElem? (i := 48) rfl))⟩
set_option maxRecDepth 20000 in
theorem mi_X3_init : Cond.instanceMethod yX3_init ∈ zWL := zw1 (List.mem_of_getElem? (i := 49) rfl) rfl
set_option maxRecDepth 20000 in
theorem mo_X3_3 : Cond.methodLink RX3 3 objectInit ∈ zWL := zw1 (List.mem_of_getElem? (i := 51) rfl) rfl
set_option maxRecDepth 20000 in
theorem wc_X3_9 : Cond.classLink RX3 9 RX8 ∈ zWL := zw1 (List.mem_of_getElem? (i := 52) rfl) rfl
set_option maxRecDepth 20000 in
theorem wi_X8 : Cond.instantiable RX8 5 ∈ zWL := zw1 (List.mem_of_getElem? (i := 53) rfl) rfl
set_option maxRecDepth 20000 in
theorem mn_X3_11 : Cond.methodLink RX3 11 yX8_init ∈ zWL ∨ ∃ host, Cond.methodLinkNest RX3 11 yX8_init host ∈ tables_1 := Or.inl (zw1 (List.mem_of_getElem? (i := 54) rfl) rfl)
set_option maxRecDepth 20000 in
theorem mi_X8_init : Cond.instanceMethod yX8_init ∈ zWL := zw1 (List.mem_of_getElem? (i := 55) rfl) rfl
set_option maxRecDepth 20000 in
theorem mo_X8_1 : Cond.methodLink RX8 1 objectInit ∈ zWL := zw1 (List.mem_of_getElem? (i := 57) rfl) rfl
set_option maxRecDepth 20000 in
theorem wa_long : Cond.arrayClass .long ∈ zWL := zw1 (List.mem_of_getElem? (i := 131) rfl) rfl
set_option maxRecDepth 20000 in
theorem wa_int : Cond.arrayClass .int ∈ zWL := zw1 (List.mem_of_getElem? (i := 132) rfl) rfl
set_option maxRecDepth 20000 in
theorem wc_X10_23 : Cond.classLink RX10 23 RX5 ∈ zWL := zw1 (List.mem_of_getElem? (i := 171) rfl) rfl
set_option maxRecDepth 20000 in
theorem wi_X5 : Cond.instantiable RX5 7 ∈ zWL := zw1 (List.mem_of_getElem? (i := 172) rfl) rfl
set_option maxRecDepth 20000 in
theorem mn_X10_25 : Cond.methodLink RX10 25 yX5_init ∈ zWL ∨ ∃ host, Cond.methodLinkNest RX10 25 yX5_init host ∈ tables_1 := Or.inr ⟨"SourceDispute", (zt1 (List.mem_of_getElem? (i := 173) rfl))⟩
set_option maxRecDepth 20000 in
theorem mi_X5_init : Cond.instanceMethod yX5_init ∈ zWL := zw1 (List.mem_of_getElem? (i := 174) rfl) rfl
set_option maxRecDepth 20000 in
theorem mo_X5_3 : Cond.methodLink RX5 3 objectInit ∈ zWL := zw1 (List.mem_of_getElem? (i := 176) rfl) rfl
set_option maxRecDepth 20000 in
theorem wc_X5_9 : Cond.classLink RX5 9 RX6 ∈ zWL := zw1 (List.mem_of_getElem? (i := 177) rfl) rfl
set_option maxRecDepth 20000 in
theorem wi_X6 : Cond.instantiable RX6 7 ∈ zWL := zw1 (List.mem_of_getElem? (i := 178) rfl) rfl
set_option maxRecDepth 20000 in
theorem mn_X5_11 : Cond.methodLink RX5 11 yX6_init ∈ zWL ∨ ∃ host, Cond.methodLinkNest RX5 11 yX6_init host ∈ tables_1 := Or.inr ⟨"SourceDispute", (zt1 (List.mem_of_getElem? (i := 179) rfl))⟩
set_option maxRecDepth 20000 in
theorem mi_X6_init : Cond.instanceMethod yX6_init ∈ zWL := zw1 (List.mem_of_getElem? (i := 180) rfl) rfl
set_option maxRecDepth 20000 in
theorem mo_X6_3 : Cond.methodLink RX6 3 objectInit ∈ zWL := zw1 (List.mem_of_getElem? (i := 182) rfl) rfl
set_option maxRecDepth 20000 in
theorem wc_X5_18 : Cond.classLink RX5 18 RX0 ∈ zWL := zw1 (List.mem_of_getElem? (i := 214) rfl) rfl
set_option maxRecDepth 20000 in
theorem wi_X0 : Cond.instantiable RX0 2 ∈ zWL := zw1 (List.mem_of_getElem? (i := 215) rfl) rfl
set_option maxRecDepth 20000 in
theorem mn_X5_20 : Cond.methodLink RX5 20 yX0_init ∈ zWL ∨ ∃ host, Cond.methodLinkNest RX5 20 yX0_init host ∈ tables_1 := Or.inr ⟨"SourceDispute", (zt1 (List.mem_of_getElem? (i := 216) rfl))⟩
set_option maxRecDepth 20000 in
theorem mi_X0_init : Cond.instanceMethod yX0_init ∈ zWL := zw1 (List.mem_of_getElem? (i := 217) rfl) rfl
set_option maxRecDepth 20000 in
theorem mo_X0_1 : Cond.methodLink RX0 1 objectInit ∈ zWL := zw1 (List.mem_of_getElem? (i := 219) rfl) rfl
set_option maxRecDepth 20000 in
theorem wc_X10_35 : Cond.classLink RX10 35 RX4 ∈ zWL := zw2 (List.mem_of_getElem? (i := 14) rfl) rfl
set_option maxRecDepth 20000 in
theorem wi_X4 : Cond.instantiable RX4 3 ∈ zWL := zw2 (List.mem_of_getElem? (i := 15) rfl) rfl
set_option maxRecDepth 20000 in
theorem mn_X10_37 : Cond.methodLink RX10 37 yX4_init ∈ zWL ∨ ∃ host, Cond.methodLinkNest RX10 37 yX4_init host ∈ tables_1 := Or.inl (zw2 (List.mem_of_getElem? (i := 16) rfl) rfl)
set_option maxRecDepth 20000 in
theorem mi_X4_init : Cond.instanceMethod yX4_init ∈ zWL := zw2 (List.mem_of_getElem? (i := 17) rfl) rfl
set_option maxRecDepth 20000 in
theorem mo_X4_1 : Cond.methodLink RX4 1 objectInit ∈ zWL := zw2 (List.mem_of_getElem? (i := 19) rfl) rfl
set_option maxRecDepth 20000 in
theorem wc_X4_9 : Cond.classLink RX4 9 RX1 ∈ zWL := zw2 (List.mem_of_getElem? (i := 20) rfl) rfl
set_option maxRecDepth 20000 in
theorem wi_X1 : Cond.instantiable RX1 6 ∈ zWL := zw2 (List.mem_of_getElem? (i := 22) rfl) rfl
set_option maxRecDepth 20000 in
theorem mn_X4_22 : Cond.methodLink RX4 22 yX1_init ∈ zWL ∨ ∃ host, Cond.methodLinkNest RX4 22 yX1_init host ∈ tables_1 := Or.inr ⟨"SourceDispute", (zt2 (List.mem_of_getElem? (i := 23) rfl))⟩
set_option maxRecDepth 20000 in
theorem mi_X1_init : Cond.instanceMethod yX1_init ∈ zWL := zw2 (List.mem_of_getElem? (i := 24) rfl) rfl
set_option maxRecDepth 20000 in
theorem mo_X1_3 : Cond.methodLink RX1 3 objectInit ∈ zWL := zw2 (List.mem_of_getElem? (i := 26) rfl) rfl
set_option maxRecDepth 20000 in
theorem wc_X10_42 : Cond.classLink RX10 42 RX2 ∈ zWL := zw2 (List.mem_of_getElem? (i := 69) rfl) rfl
set_option maxRecDepth 20000 in
theorem wi_X2 : Cond.instantiable RX2 5 ∈ zWL := zw2 (List.mem_of_getElem? (i := 70) rfl) rfl
set_option maxRecDepth 20000 in
theorem mn_X10_44 : Cond.methodLink RX10 44 yX2_init ∈ zWL ∨ ∃ host, Cond.methodLinkNest RX10 44 yX2_init host ∈ tables_1 := Or.inr ⟨"SourceDispute", (zt2 (List.mem_of_getElem? (i := 71) rfl))⟩
set_option maxRecDepth 20000 in
theorem mi_X2_init : Cond.instanceMethod yX2_init ∈ zWL := zw2 (List.mem_of_getElem? (i := 72) rfl) rfl
set_option maxRecDepth 20000 in
theorem mo_X2_3 : Cond.methodLink RX2 3 objectInit ∈ zWL := zw2 (List.mem_of_getElem? (i := 74) rfl) rfl
set_option maxRecDepth 20000 in
theorem wa_boolean : Cond.arrayClass .boolean ∈ zWL := zw2 (List.mem_of_getElem? (i := 92) rfl) rfl
set_option maxRecDepth 20000 in
theorem wc_X10_49 : Cond.classLink RX10 49 RX1 ∈ zWL := zw2 (List.mem_of_getElem? (i := 93) rfl) rfl
set_option maxRecDepth 20000 in
theorem mn_X10_51 : Cond.methodLink RX10 51 yX1_init ∈ zWL ∨ ∃ host, Cond.methodLinkNest RX10 51 yX1_init host ∈ tables_1 := Or.inr ⟨"SourceDispute", (zt2 (List.mem_of_getElem? (i := 94) rfl))⟩
set_option maxRecDepth 20000 in
theorem wc_X10_67 : Cond.classLink RX10 67 RX9 ∈ zWL := zw2 (List.mem_of_getElem? (i := 95) rfl) rfl
set_option maxRecDepth 20000 in
theorem wi_X9 : Cond.instantiable RX9 14 ∈ zWL := zw2 (List.mem_of_getElem? (i := 96) rfl) rfl
set_option maxRecDepth 20000 in
theorem mn_X10_69 : Cond.methodLink RX10 69 yX9_init ∈ zWL ∨ ∃ host, Cond.methodLinkNest RX10 69 yX9_init host ∈ tables_1 := Or.inl (zw2 (List.mem_of_getElem? (i := 97) rfl) rfl)
set_option maxRecDepth 20000 in
theorem mi_X9_init : Cond.instanceMethod yX9_init ∈ zWL := zw2 (List.mem_of_getElem? (i := 98) rfl) rfl
set_option maxRecDepth 20000 in
theorem mo_X9_3 : Cond.methodLink RX9 3 objectInit ∈ zWL := zw2 (List.mem_of_getElem? (i := 100) rfl) rfl
set_option maxRecDepth 20000 in
theorem wc_L_10 : Cond.classLink RL 10 RX11 ∈ zWL := zw5 (List.mem_of_getElem? (i := 146) rfl) rfl
set_option maxRecDepth 20000 in
theorem wi_X11 : Cond.instantiable RX11 69 ∈ zWL := zw5 (List.mem_of_getElem? (i := 147) rfl) rfl
set_option maxRecDepth 20000 in
theorem mn_L_12 : Cond.methodLink RL 12 yX11_init ∈ zWL ∨ ∃ host, Cond.methodLinkNest RL 12 yX11_init host ∈ tables_1 := Or.inl (zw5 (List.mem_of_getElem? (i := 148) rfl) rfl)
set_option maxRecDepth 20000 in
theorem mi_X11_init : Cond.instanceMethod yX11_init ∈ zWL := zw5 (List.mem_of_getElem? (i := 149) rfl) rfl
set_option maxRecDepth 20000 in
theorem mo_X11_7 : Cond.methodLink RX11 7 objectInit ∈ zWL := zw5 (List.mem_of_getElem? (i := 151) rfl) rfl
set_option maxRecDepth 20000 in
theorem zs_J0_38 : Cond.fieldLink RJ0 38 "java/lang/String" "COMPACT_STRINGS" "Z" ∈ zWL := zw1 (List.mem_of_getElem? (i := 67) rfl) rfl
set_option maxRecDepth 20000 in
theorem zs_J0_1053 : Cond.fieldLink RJ0 1053 "jdk/internal/util/Preconditions" "SIOOBE_FORMATTER" "Ljava/util/function/BiFunction;" ∈ zWL := zw1 (List.mem_of_getElem? (i := 83) rfl) rfl
set_option maxRecDepth 20000 in
theorem zs_J0_9 : Cond.fieldLink RJ0 9 "java/lang/String" "value" "[B" ∈ zWL := zw8 (List.mem_of_getElem? (i := 85) rfl) rfl
set_option maxRecDepth 20000 in
theorem zs_J0_15 : Cond.fieldLink RJ0 15 "java/lang/String" "coder" "B" ∈ zWL := zw8 (List.mem_of_getElem? (i := 86) rfl) rfl
set_option maxRecDepth 20000 in
theorem mc_J11_isValidCodePoint_9a6ad : Cond.code yJ11_isValidCodePoint_9a6ad cJ11_isValidCodePoint_9a6ad 2 (some .boolean) ∈ zWL := zw3 (List.mem_of_getElem? (i := 83) rfl) rfl
set_option maxRecDepth 20000 in
theorem ms_J11_isValidCodePoint_9a6ad : Cond.static yJ11_isValidCodePoint_9a6ad ∈ zWL := zw3 (List.mem_of_getElem? (i := 82) rfl) rfl
set_option maxRecDepth 20000 in
theorem mc_J11_highSurrogate_5068e : Cond.code yJ11_highSurrogate_5068e cJ11_highSurrogate_5068e 1 (some .char) ∈ zWL := zw3 (List.mem_of_getElem? (i := 86) rfl) rfl
set_option maxRecDepth 20000 in
theorem ms_J11_highSurrogate_5068e : Cond.static yJ11_highSurrogate_5068e ∈ zWL := zw3 (List.mem_of_getElem? (i := 85) rfl) rfl
set_option maxRecDepth 20000 in
theorem mc_J11_lowSurrogate_5068e : Cond.code yJ11_lowSurrogate_5068e cJ11_lowSurrogate_5068e 1 (some .char) ∈ zWL := zw3 (List.mem_of_getElem? (i := 90) rfl) rfl
set_option maxRecDepth 20000 in
theorem ms_J11_lowSurrogate_5068e : Cond.static yJ11_lowSurrogate_5068e ∈ zWL := zw3 (List.mem_of_getElem? (i := 89) rfl) rfl
set_option maxRecDepth 20000 in
theorem mc_J6_bitCount_0f7a4 : Cond.code yJ6_bitCount_0f7a4 cJ6_bitCount_0f7a4 1 (some .int) ∈ zWL := zw4 (List.mem_of_getElem? (i := 80) rfl) rfl
set_option maxRecDepth 20000 in
theorem ms_J6_bitCount_0f7a4 : Cond.static yJ6_bitCount_0f7a4 ∈ zWL := zw4 (List.mem_of_getElem? (i := 79) rfl) rfl
set_option maxRecDepth 20000 in
theorem mc_J9_max_7cf53 : Cond.code yJ9_max_7cf53 cJ9_max_7cf53 2 (some .int) ∈ zWL := zw3 (List.mem_of_getElem? (i := 50) rfl) rfl
set_option maxRecDepth 20000 in
theorem ms_J9_max_7cf53 : Cond.static yJ9_max_7cf53 ∈ zWL := zw3 (List.mem_of_getElem? (i := 49) rfl) rfl
set_option maxRecDepth 20000 in
theorem mc_J9_min_7cf53 : Cond.code yJ9_min_7cf53 cJ9_min_7cf53 2 (some .int) ∈ zWL := zw3 (List.mem_of_getElem? (i := 53) rfl) rfl
set_option maxRecDepth 20000 in
theorem ms_J9_min_7cf53 : Cond.static yJ9_min_7cf53 ∈ zWL := zw3 (List.mem_of_getElem? (i := 52) rfl) rfl
set_option maxRecDepth 20000 in
theorem mc_J0_length_8abf5 : Cond.code yJ0_length_8abf5 cJ0_length_8abf5 1 (some .int) ∈ zWL := zw1 (List.mem_of_getElem? (i := 62) rfl) rfl
set_option maxRecDepth 20000 in
theorem mi_J0_length_8abf5 : Cond.instanceMethod yJ0_length_8abf5 ∈ zWL := zw1 (List.mem_of_getElem? (i := 60) rfl) rfl
set_option maxRecDepth 20000 in
theorem ml_J0_length_8abf5 : Cond.selects RJ0 yJ0_length_8abf5 yJ0_length_8abf5 ∈ zWL := zw1 (List.mem_of_getElem? (i := 61) rfl) rfl
set_option maxRecDepth 20000 in
theorem mc_J0_charAt_5068e : Cond.code yJ0_charAt_5068e cJ0_charAt_5068e 2 (some .char) ∈ zWL := zw1 (List.mem_of_getElem? (i := 72) rfl) rfl
set_option maxRecDepth 20000 in
theorem mi_J0_charAt_5068e : Cond.instanceMethod yJ0_charAt_5068e ∈ zWL := zw1 (List.mem_of_getElem? (i := 70) rfl) rfl
set_option maxRecDepth 20000 in
theorem ml_J0_charAt_5068e : Cond.selects RJ0 yJ0_charAt_5068e yJ0_charAt_5068e ∈ zWL := zw1 (List.mem_of_getElem? (i := 71) rfl) rfl
set_option maxRecDepth 20000 in
theorem mc_J0_indexOf_0f7a4 : Cond.code yJ0_indexOf_0f7a4 cJ0_indexOf_0f7a4 2 (some .int) ∈ zWL := zw3 (List.mem_of_getElem? (i := 36) rfl) rfl
set_option maxRecDepth 20000 in
theorem mi_J0_indexOf_0f7a4 : Cond.instanceMethod yJ0_indexOf_0f7a4 ∈ zWL := zw3 (List.mem_of_getElem? (i := 34) rfl) rfl
set_option maxRecDepth 20000 in
theorem ml_J0_indexOf_0f7a4 : Cond.selects RJ0 yJ0_indexOf_0f7a4 yJ0_indexOf_0f7a4 ∈ zWL := zw3 (List.mem_of_getElem? (i := 35) rfl) rfl
set_option maxRecDepth 20000 in
theorem mc_J0_indexOf_7cf53 : Cond.code yJ0_indexOf_7cf53 cJ0_indexOf_7cf53 3 (some .int) ∈ zWL := zw3 (List.mem_of_getElem? (i := 40) rfl) rfl
set_option maxRecDepth 20000 in
theorem mi_J0_indexOf_7cf53 : Cond.instanceMethod yJ0_indexOf_7cf53 ∈ zWL := zw3 (List.mem_of_getElem? (i := 38) rfl) rfl
set_option maxRecDepth 20000 in
theorem ml_J0_indexOf_7cf53 : Cond.selects RJ0 yJ0_indexOf_7cf53 yJ0_indexOf_7cf53 ∈ zWL := zw3 (List.mem_of_getElem? (i := 39) rfl) rfl
set_option maxRecDepth 20000 in
theorem mc_J0_coder_7d493 : Cond.code yJ0_coder_7d493 cJ0_coder_7d493 1 (some .byte) ∈ zWL := zw1 (List.mem_of_getElem? (i := 66) rfl) rfl
set_option maxRecDepth 20000 in
theorem mi_J0_coder_7d493 : Cond.instanceMethod yJ0_coder_7d493 ∈ zWL := zw1 (List.mem_of_getElem? (i := 64) rfl) rfl
set_option maxRecDepth 20000 in
theorem ml_J0_coder_7d493 : Cond.selects RJ0 yJ0_coder_7d493 yJ0_coder_7d493 ∈ zWL := zw1 (List.mem_of_getElem? (i := 65) rfl) rfl
set_option maxRecDepth 20000 in
theorem mc_J0_isLatin1_aae02 : Cond.code yJ0_isLatin1_aae02 cJ0_isLatin1_aae02 1 (some .boolean) ∈ zWL := zw1 (List.mem_of_getElem? (i := 76) rfl) rfl
set_option maxRecDepth 20000 in
theorem mi_J0_isLatin1_aae02 : Cond.instanceMethod yJ0_isLatin1_aae02 ∈ zWL := zw1 (List.mem_of_getElem? (i := 74) rfl) rfl
set_option maxRecDepth 20000 in
theorem ml_J0_isLatin1_aae02 : Cond.selects RJ0 yJ0_isLatin1_aae02 yJ0_isLatin1_aae02 ∈ zWL := zw1 (List.mem_of_getElem? (i := 75) rfl) rfl
set_option maxRecDepth 20000 in
theorem mc_J0_checkIndex_df160 : Cond.code yJ0_checkIndex_df160 cJ0_checkIndex_df160 2 none ∈ zWL := zw1 (List.mem_of_getElem? (i := 82) rfl) rfl
set_option maxRecDepth 20000 in
theorem ms_J0_checkIndex_df160 : Cond.static yJ0_checkIndex_df160 ∈ zWL := zw1 (List.mem_of_getElem? (i := 81) rfl) rfl
set_option maxRecDepth 20000 in
theorem mc_J0_checkBoundsBeginEnd_23922 : Cond.code yJ0_checkBoundsBeginEnd_23922 cJ0_checkBoundsBeginEnd_23922 3 none ∈ zWL := zw3 (List.mem_of_getElem? (i := 71) rfl) rfl
set_option maxRecDepth 20000 in
theorem ms_J0_checkBoundsBeginEnd_23922 : Cond.static yJ0_checkBoundsBeginEnd_23922 ∈ zWL := zw3 (List.mem_of_getElem? (i := 70) rfl) rfl
set_option maxRecDepth 20000 in
theorem mc_J1_charAt_3b067 : Cond.code yJ1_charAt_3b067 cJ1_charAt_3b067 2 (some .char) ∈ zWL := zw1 (List.mem_of_getElem? (i := 79) rfl) rfl
set_option maxRecDepth 20000 in
theorem ms_J1_charAt_3b067 : Cond.static yJ1_charAt_3b067 ∈ zWL := zw1 (List.mem_of_getElem? (i := 78) rfl) rfl
set_option maxRecDepth 20000 in
theorem mc_J1_canEncode_9a6ad : Cond.code yJ1_canEncode_9a6ad cJ1_canEncode_9a6ad 1 (some .boolean) ∈ zWL := zw3 (List.mem_of_getElem? (i := 47) rfl) rfl
set_option maxRecDepth 20000 in
theorem ms_J1_canEncode_9a6ad : Cond.static yJ1_canEncode_9a6ad ∈ zWL := zw3 (List.mem_of_getElem? (i := 46) rfl) rfl
set_option maxRecDepth 20000 in
theorem mc_J1_indexOf_4cfef : Cond.code yJ1_indexOf_4cfef cJ1_indexOf_4cfef 4 (some .int) ∈ zWL := zw3 (List.mem_of_getElem? (i := 44) rfl) rfl
set_option maxRecDepth 20000 in
theorem ms_J1_indexOf_4cfef : Cond.static yJ1_indexOf_4cfef ∈ zWL := zw3 (List.mem_of_getElem? (i := 43) rfl) rfl
set_option maxRecDepth 20000 in
theorem mc_J1_indexOfChar_4cfef : Cond.code yJ1_indexOfChar_4cfef cJ1_indexOfChar_4cfef 6 (some .int) ∈ zWL := zw3 (List.mem_of_getElem? (i := 56) rfl) rfl
set_option maxRecDepth 20000 in
theorem ms_J1_indexOfChar_4cfef : Cond.static yJ1_indexOfChar_4cfef ∈ zWL := zw3 (List.mem_of_getElem? (i := 55) rfl) rfl
set_option maxRecDepth 20000 in
theorem mc_J2_getChar_3b067 : Cond.code yJ2_getChar_3b067 cJ2_getChar_3b067 2 (some .char) ∈ zWL := zw1 (List.mem_of_getElem? (i := 100) rfl) rfl
set_option maxRecDepth 20000 in
theorem ms_J2_getChar_3b067 : Cond.static yJ2_getChar_3b067 ∈ zWL := zw1 (List.mem_of_getElem? (i := 99) rfl) rfl
set_option maxRecDepth 20000 in
theorem mc_J2_length_9d52b : Cond.code yJ2_length_9d52b cJ2_length_9d52b 1 (some .int) ∈ zWL := zw1 (List.mem_of_getElem? (i := 96) rfl) rfl
set_option maxRecDepth 20000 in
theorem ms_J2_length_9d52b : Cond.static yJ2_length_9d52b ∈ zWL := zw1 (List.mem_of_getElem? (i := 95) rfl) rfl
set_option maxRecDepth 20000 in
theorem mc_J2_indexOf_4cfef : Cond.code yJ2_indexOf_4cfef cJ2_indexOf_4cfef 4 (some .int) ∈ zWL := zw3 (List.mem_of_getElem? (i := 59) rfl) rfl
set_option maxRecDepth 20000 in
theorem ms_J2_indexOf_4cfef : Cond.static yJ2_indexOf_4cfef ∈ zWL := zw3 (List.mem_of_getElem? (i := 58) rfl) rfl
set_option maxRecDepth 20000 in
theorem mc_J2_indexOfChar_4cfef : Cond.code yJ2_indexOfChar_4cfef cJ2_indexOfChar_4cfef 4 (some .int) ∈ zWL := zw3 (List.mem_of_getElem? (i := 65) rfl) rfl
set_option maxRecDepth 20000 in
theorem ms_J2_indexOfChar_4cfef : Cond.static yJ2_indexOfChar_4cfef ∈ zWL := zw3 (List.mem_of_getElem? (i := 64) rfl) rfl
set_option maxRecDepth 20000 in
theorem mc_J2_indexOfCharUnsafe_4cfef : Cond.code yJ2_indexOfCharUnsafe_4cfef cJ2_indexOfCharUnsafe_4cfef 5 (some .int) ∈ zWL := zw3 (List.mem_of_getElem? (i := 77) rfl) rfl
set_option maxRecDepth 20000 in
theorem ms_J2_indexOfCharUnsafe_4cfef : Cond.static yJ2_indexOfCharUnsafe_4cfef ∈ zWL := zw3 (List.mem_of_getElem? (i := 76) rfl) rfl
set_option maxRecDepth 20000 in
theorem mc_J2_indexOfSupplementary_4cfef : Cond.code yJ2_indexOfSupplementary_4cfef cJ2_indexOfSupplementary_4cfef 7 (some .int) ∈ zWL := zw3 (List.mem_of_getElem? (i := 80) rfl) rfl
set_option maxRecDepth 20000 in
theorem ms_J2_indexOfSupplementary_4cfef : Cond.static yJ2_indexOfSupplementary_4cfef ∈ zWL := zw3 (List.mem_of_getElem? (i := 79) rfl) rfl
set_option maxRecDepth 20000 in
theorem mc_J2_charAt_3b067 : Cond.code yJ2_charAt_3b067 cJ2_charAt_3b067 2 (some .char) ∈ zWL := zw1 (List.mem_of_getElem? (i := 90) rfl) rfl
set_option maxRecDepth 20000 in
theorem ms_J2_charAt_3b067 : Cond.static yJ2_charAt_3b067 ∈ zWL := zw1 (List.mem_of_getElem? (i := 89) rfl) rfl
set_option maxRecDepth 20000 in
theorem mc_J2_checkIndex_2214a : Cond.code yJ2_checkIndex_2214a cJ2_checkIndex_2214a 2 none ∈ zWL := zw1 (List.mem_of_getElem? (i := 93) rfl) rfl
set_option maxRecDepth 20000 in
theorem ms_J2_checkIndex_2214a : Cond.static yJ2_checkIndex_2214a ∈ zWL := zw1 (List.mem_of_getElem? (i := 92) rfl) rfl
set_option maxRecDepth 20000 in
theorem mc_J2_checkBoundsBeginEnd_d044e : Cond.code yJ2_checkBoundsBeginEnd_d044e cJ2_checkBoundsBeginEnd_d044e 3 none ∈ zWL := zw3 (List.mem_of_getElem? (i := 68) rfl) rfl
set_option maxRecDepth 20000 in
theorem ms_J2_checkBoundsBeginEnd_d044e : Cond.static yJ2_checkBoundsBeginEnd_d044e ∈ zWL := zw3 (List.mem_of_getElem? (i := 67) rfl) rfl
set_option maxRecDepth 20000 in
theorem mc_J7_fill_53178 : Cond.code yJ7_fill_53178 cJ7_fill_53178 4 none ∈ zWL := zw3 (List.mem_of_getElem? (i := 179) rfl) rfl
set_option maxRecDepth 20000 in
theorem ms_J7_fill_53178 : Cond.static yJ7_fill_53178 ∈ zWL := zw3 (List.mem_of_getElem? (i := 178) rfl) rfl
set_option maxRecDepth 20000 in
theorem mc_J3_checkIndex_8e157 : Cond.code yJ3_checkIndex_8e157 cJ3_checkIndex_8e157 3 (some .int) ∈ zWL := zw1 (List.mem_of_getElem? (i := 87) rfl) rfl
set_option maxRecDepth 20000 in
theorem ms_J3_checkIndex_8e157 : Cond.static yJ3_checkIndex_8e157 ∈ zWL := zw1 (List.mem_of_getElem? (i := 86) rfl) rfl
set_option maxRecDepth 20000 in
theorem mc_J3_checkFromToIndex_8c36e : Cond.code yJ3_checkFromToIndex_8c36e cJ3_checkFromToIndex_8c36e 4 (some .int) ∈ zWL := zw3 (List.mem_of_getElem? (i := 74) rfl) rfl
set_option maxRecDepth 20000 in
theorem ms_J3_checkFromToIndex_8c36e : Cond.static yJ3_checkFromToIndex_8c36e ∈ zWL := zw3 (List.mem_of_getElem? (i := 73) rfl) rfl
set_option maxRecDepth 20000 in
theorem mz_J11 : Cond.initialized RJ11 ∈ zWL := zw1 (List.mem_of_getElem? (i := 18) rfl) rfl
theorem md_J11 : RJ11 ≠ "java/lang/invoke/MethodHandle" ∧ RJ11 ≠ "java/lang/invoke/VarHandle" := ⟨by decide +kernel, by decide +kernel⟩
set_option maxRecDepth 20000 in
theorem mz_J6 : Cond.initialized RJ6 ∈ zWL := zw1 (List.mem_of_getElem? (i := 21) rfl) rfl
theorem md_J6 : RJ6 ≠ "java/lang/invoke/MethodHandle" ∧ RJ6 ≠ "java/lang/invoke/VarHandle" := ⟨by decide +kernel, by decide +kernel⟩
set_option maxRecDepth 20000 in
theorem mz_J9 : Cond.initialized RJ9 ∈ zWL := zw1 (List.mem_of_getElem? (i := 17) rfl) rfl
theorem md_J9 : RJ9 ≠ "java/lang/invoke/MethodHandle" ∧ RJ9 ≠ "java/lang/invoke/VarHandle" := ⟨by decide +kernel, by decide +kernel⟩
set_option maxRecDepth 20000 in
theorem mz_J0 : Cond.initialized RJ0 ∈ zWL := zw1 (List.mem_of_getElem? (i := 5) rfl) rfl
theorem md_J0 : RJ0 ≠ "java/lang/invoke/MethodHandle" ∧ RJ0 ≠ "java/lang/invoke/VarHandle" := ⟨by decide +kernel, by decide +kernel⟩
set_option maxRecDepth 20000 in
theorem mz_J1 : Cond.initialized RJ1 ∈ zWL := zw1 (List.mem_of_getElem? (i := 6) rfl) rfl
theorem md_J1 : RJ1 ≠ "java/lang/invoke/MethodHandle" ∧ RJ1 ≠ "java/lang/invoke/VarHandle" := ⟨by decide +kernel, by decide +kernel⟩
set_option maxRecDepth 20000 in
theorem mz_J2 : Cond.initialized RJ2 ∈ zWL := zw1 (List.mem_of_getElem? (i := 8) rfl) rfl
theorem md_J2 : RJ2 ≠ "java/lang/invoke/MethodHandle" ∧ RJ2 ≠ "java/lang/invoke/VarHandle" := ⟨by decide +kernel, by decide +kernel⟩
set_option maxRecDepth 20000 in
theorem mz_J10 : Cond.initialized RJ10 ∈ zWL := zw1 (List.mem_of_getElem? (i := 19) rfl) rfl
theorem md_J10 : RJ10 ≠ "java/lang/invoke/MethodHandle" ∧ RJ10 ≠ "java/lang/invoke/VarHandle" := ⟨by decide +kernel, by decide +kernel⟩
set_option maxRecDepth 20000 in
theorem mz_J7 : Cond.initialized RJ7 ∈ zWL := zw1 (List.mem_of_getElem? (i := 20) rfl) rfl
theorem md_J7 : RJ7 ≠ "java/lang/invoke/MethodHandle" ∧ RJ7 ≠ "java/lang/invoke/VarHandle" := ⟨by decide +kernel, by decide +kernel⟩
set_option maxRecDepth 20000 in
theorem mz_J3 : Cond.initialized RJ3 ∈ zWL := zw1 (List.mem_of_getElem? (i := 7) rfl) rfl
theorem md_J3 : RJ3 ≠ "java/lang/invoke/MethodHandle" ∧ RJ3 ≠ "java/lang/invoke/VarHandle" := ⟨by decide +kernel, by decide +kernel⟩
set_option maxRecDepth 20000 in
theorem mk_X8_29 : Cond.methodLink RX8 29 yJ0_length_8abf5 ∈ zWL := zw1 (List.mem_of_getElem? (i := 59) rfl) rfl
set_option maxRecDepth 20000 in
theorem mk_J0_335 : Cond.methodLink RJ0 335 yJ0_coder_7d493 ∈ zWL := zw1 (List.mem_of_getElem? (i := 63) rfl) rfl
set_option maxRecDepth 20000 in
theorem mk_X8_35 : Cond.methodLink RX8 35 yJ0_charAt_5068e ∈ zWL := zw1 (List.mem_of_getElem? (i := 69) rfl) rfl
set_option maxRecDepth 20000 in
theorem mk_J0_492 : Cond.methodLink RJ0 492 yJ0_isLatin1_aae02 ∈ zWL := zw1 (List.mem_of_getElem? (i := 73) rfl) rfl
set_option maxRecDepth 20000 in
theorem mk_J0_495 : Cond.methodLink RJ0 495 yJ1_charAt_3b067 ∈ zWL := zw1 (List.mem_of_getElem? (i := 77) rfl) rfl
set_option maxRecDepth 20000 in
theorem mk_J1_9 : Cond.methodLink RJ1 9 yJ0_checkIndex_df160 ∈ zWL := zw1 (List.mem_of_getElem? (i := 80) rfl) rfl
set_option maxRecDepth 20000 in
theorem mk_J0_1059 : Cond.methodLink RJ0 1059 yJ3_checkIndex_8e157 ∈ zWL := zw1 (List.mem_of_getElem? (i := 85) rfl) rfl
set_option maxRecDepth 20000 in
theorem mk_J0_498 : Cond.methodLink RJ0 498 yJ2_charAt_3b067 ∈ zWL := zw1 (List.mem_of_getElem? (i := 88) rfl) rfl
set_option maxRecDepth 20000 in
theorem mk_J2_67 : Cond.methodLink RJ2 67 yJ2_checkIndex_2214a ∈ zWL := zw1 (List.mem_of_getElem? (i := 91) rfl) rfl
set_option maxRecDepth 20000 in
theorem mk_J2_48 : Cond.methodLink RJ2 48 yJ2_length_9d52b ∈ zWL := zw1 (List.mem_of_getElem? (i := 94) rfl) rfl
set_option maxRecDepth 20000 in
theorem mk_J2_414 : Cond.methodLink RJ2 414 yJ0_checkIndex_df160 ∈ zWL := zw1 (List.mem_of_getElem? (i := 97) rfl) rfl
set_option maxRecDepth 20000 in
theorem mk_J2_71 : Cond.methodLink RJ2 71 yJ2_getChar_3b067 ∈ zWL := zw1 (List.mem_of_getElem? (i := 98) rfl) rfl
set_option maxRecDepth 20000 in
theorem mk_X8_68 : Cond.methodLink RX8 68 yJ0_indexOf_0f7a4 ∈ zWL := zw3 (List.mem_of_getElem? (i := 33) rfl) rfl
set_option maxRecDepth 20000 in
theorem mk_J0_633 : Cond.methodLink RJ0 633 yJ0_indexOf_7cf53 ∈ zWL := zw3 (List.mem_of_getElem? (i := 37) rfl) rfl
set_option maxRecDepth 20000 in
theorem mk_J0_505 : Cond.methodLink RJ0 505 yJ0_length_8abf5 ∈ zWL := zw3 (List.mem_of_getElem? (i := 41) rfl) rfl
set_option maxRecDepth 20000 in
theorem mk_J0_637 : Cond.methodLink RJ0 637 yJ1_indexOf_4cfef ∈ zWL := zw3 (List.mem_of_getElem? (i := 42) rfl) rfl
set_option maxRecDepth 20000 in
theorem mk_J1_88 : Cond.methodLink RJ1 88 yJ1_canEncode_9a6ad ∈ zWL := zw3 (List.mem_of_getElem? (i := 45) rfl) rfl
set_option maxRecDepth 20000 in
theorem mk_J1_92 : Cond.methodLink RJ1 92 yJ9_max_7cf53 ∈ zWL := zw3 (List.mem_of_getElem? (i := 48) rfl) rfl
set_option maxRecDepth 20000 in
theorem mk_J1_38 : Cond.methodLink RJ1 38 yJ9_min_7cf53 ∈ zWL := zw3 (List.mem_of_getElem? (i := 51) rfl) rfl
set_option maxRecDepth 20000 in
theorem mk_J1_95 : Cond.methodLink RJ1 95 yJ1_indexOfChar_4cfef ∈ zWL := zw3 (List.mem_of_getElem? (i := 54) rfl) rfl
set_option maxRecDepth 20000 in
theorem mk_J0_640 : Cond.methodLink RJ0 640 yJ2_indexOf_4cfef ∈ zWL := zw3 (List.mem_of_getElem? (i := 57) rfl) rfl
set_option maxRecDepth 20000 in
theorem mk_J2_224 : Cond.methodLink RJ2 224 yJ9_max_7cf53 ∈ zWL := zw3 (List.mem_of_getElem? (i := 60) rfl) rfl
set_option maxRecDepth 20000 in
theorem mk_J2_183 : Cond.methodLink RJ2 183 yJ9_min_7cf53 ∈ zWL := zw3 (List.mem_of_getElem? (i := 61) rfl) rfl
set_option maxRecDepth 20000 in
theorem mk_J2_228 : Cond.methodLink RJ2 228 yJ2_indexOfChar_4cfef ∈ zWL := zw3 (List.mem_of_getElem? (i := 63) rfl) rfl
set_option maxRecDepth 20000 in
theorem mk_J2_96 : Cond.methodLink RJ2 96 yJ2_checkBoundsBeginEnd_d044e ∈ zWL := zw3 (List.mem_of_getElem? (i := 66) rfl) rfl
set_option maxRecDepth 20000 in
theorem mk_J2_241 : Cond.methodLink RJ2 241 yJ0_checkBoundsBeginEnd_23922 ∈ zWL := zw3 (List.mem_of_getElem? (i := 69) rfl) rfl
set_option maxRecDepth 20000 in
theorem mk_J0_1062 : Cond.methodLink RJ0 1062 yJ3_checkFromToIndex_8c36e ∈ zWL := zw3 (List.mem_of_getElem? (i := 72) rfl) rfl
set_option maxRecDepth 20000 in
theorem mk_J2_244 : Cond.methodLink RJ2 244 yJ2_indexOfCharUnsafe_4cfef ∈ zWL := zw3 (List.mem_of_getElem? (i := 75) rfl) rfl
set_option maxRecDepth 20000 in
theorem mk_J2_232 : Cond.methodLink RJ2 232 yJ2_indexOfSupplementary_4cfef ∈ zWL := zw3 (List.mem_of_getElem? (i := 78) rfl) rfl
set_option maxRecDepth 20000 in
theorem mk_J2_164 : Cond.methodLink RJ2 164 yJ11_isValidCodePoint_9a6ad ∈ zWL := zw3 (List.mem_of_getElem? (i := 81) rfl) rfl
set_option maxRecDepth 20000 in
theorem mk_J2_157 : Cond.methodLink RJ2 157 yJ11_highSurrogate_5068e ∈ zWL := zw3 (List.mem_of_getElem? (i := 84) rfl) rfl
set_option maxRecDepth 20000 in
theorem mk_J2_161 : Cond.methodLink RJ2 161 yJ11_lowSurrogate_5068e ∈ zWL := zw3 (List.mem_of_getElem? (i := 88) rfl) rfl
set_option maxRecDepth 20000 in
theorem mk_X3_132 : Cond.methodLink RX3 132 yJ9_max_7cf53 ∈ zWL := zw3 (List.mem_of_getElem? (i := 137) rfl) rfl
set_option maxRecDepth 20000 in
theorem mk_X1_40 : Cond.methodLink RX1 40 yJ7_fill_53178 ∈ zWL := zw3 (List.mem_of_getElem? (i := 177) rfl) rfl
set_option maxRecDepth 20000 in
theorem mk_X6_57 : Cond.methodLink RX6 57 yJ7_fill_53178 ∈ zWL := zw3 (List.mem_of_getElem? (i := 217) rfl) rfl
set_option maxRecDepth 20000 in
theorem mk_X10_262 : Cond.methodLink RX10 262 yJ9_min_7cf53 ∈ zWL := zw4 (List.mem_of_getElem? (i := 1) rfl) rfl
set_option maxRecDepth 20000 in
theorem mk_X10_333 : Cond.methodLink RX10 333 yJ9_max_7cf53 ∈ zWL := zw4 (List.mem_of_getElem? (i := 2) rfl) rfl
set_option maxRecDepth 20000 in
theorem mk_X10_198 : Cond.methodLink RX10 198 yJ6_bitCount_0f7a4 ∈ zWL := zw4 (List.mem_of_getElem? (i := 78) rfl) rfl
set_option maxRecDepth 20000 in
theorem mk_X9_76 : Cond.methodLink RX9 76 yJ9_max_7cf53 ∈ zWL := zw4 (List.mem_of_getElem? (i := 95) rfl) rfl
set_option maxRecDepth 20000 in
theorem mk_X6_67 : Cond.methodLink RX6 67 yJ9_max_7cf53 ∈ zWL := zw4 (List.mem_of_getElem? (i := 104) rfl) rfl
set_option maxRecDepth 20000 in
theorem mk_X4_27 : Cond.methodLink RX4 27 yJ9_min_7cf53 ∈ zWL := zw4 (List.mem_of_getElem? (i := 117) rfl) rfl
set_option maxRecDepth 20000 in
theorem mk_X1_46 : Cond.methodLink RX1 46 yJ9_min_7cf53 ∈ zWL := zw4 (List.mem_of_getElem? (i := 152) rfl) rfl
set_option maxRecDepth 20000 in
theorem mk_X10_302 : Cond.methodLink RX10 302 yJ7_fill_53178 ∈ zWL := zw5 (List.mem_of_getElem? (i := 31) rfl) rfl
set_option maxRecDepth 20000 in
theorem mk_X6_73 : Cond.methodLink RX6 73 yJ6_bitCount_0f7a4 ∈ zWL := zw5 (List.mem_of_getElem? (i := 68) rfl) rfl
set_option maxRecDepth 20000 in
theorem wk_J2_227 : Cond.constant RJ2 227 (65536) ∈ zWL := zw3 (List.mem_of_getElem? (i := 62) rfl) rfl
set_option maxRecDepth 20000 in
theorem wk_J11_110 : Cond.constant RJ11 110 (55232) ∈ zWL := zw3 (List.mem_of_getElem? (i := 87) rfl) rfl
set_option maxRecDepth 20000 in
theorem wk_J11_76 : Cond.constant RJ11 76 (56320) ∈ zWL := zw3 (List.mem_of_getElem? (i := 91) rfl) rfl
set_option maxRecDepth 20000 in
theorem wk_J6_265 : Cond.constant RJ6 265 (1431655765) ∈ zWL := zw4 (List.mem_of_getElem? (i := 81) rfl) rfl
set_option maxRecDepth 20000 in
theorem wk_J6_266 : Cond.constant RJ6 266 (858993459) ∈ zWL := zw4 (List.mem_of_getElem? (i := 82) rfl) rfl
set_option maxRecDepth 20000 in
theorem wk_J6_267 : Cond.constant RJ6 267 (252645135) ∈ zWL := zw4 (List.mem_of_getElem? (i := 83) rfl) rfl
set_option maxRecDepth 20000 in
theorem zk_unt : Cond.fieldLink RX9 47 "SourceDispute$Told" "UNTOLD_LAWS" "[I" ∈ zWL := zw2 (List.mem_of_getElem? (i := 105) rfl) rfl
set_option maxRecDepth 20000 in
theorem wj_X10_262 : Cond.methodLink RX10 262 Lib.Math.min.name ∈ zWL ∧ Cond.static Lib.Math.min.name ∈ zWL ∧ Cond.initialized "java/lang/Math" ∈ zWL ∧ Cond.code Lib.Math.min.name Lib.Math.min.code 2 (some .int) ∈ zWL := ⟨zw4 (List.mem_of_getElem? (i := 1) rfl) rfl, zw3 (List.mem_of_getElem? (i := 52) rfl) rfl, zw1 (List.mem_of_getElem? (i := 17) rfl) rfl, zw3 (List.mem_of_getElem? (i := 53) rfl) rfl⟩
set_option maxRecDepth 20000 in
theorem wj_X10_333 : Cond.methodLink RX10 333 Lib.Math.max.name ∈ zWL ∧ Cond.static Lib.Math.max.name ∈ zWL ∧ Cond.initialized "java/lang/Math" ∈ zWL ∧ Cond.code Lib.Math.max.name Lib.Math.max.code 2 (some .int) ∈ zWL := ⟨zw4 (List.mem_of_getElem? (i := 2) rfl) rfl, zw3 (List.mem_of_getElem? (i := 49) rfl) rfl, zw1 (List.mem_of_getElem? (i := 17) rfl) rfl, zw3 (List.mem_of_getElem? (i := 50) rfl) rfl⟩
set_option maxRecDepth 20000 in
theorem wj_X1_34 : Cond.methodLink RX1 34 arraycopyName ∈ zWL ∧ Cond.native arraycopyName ∈ zWL ∧ Cond.static arraycopyName ∈ zWL ∧ Cond.initialized "java/lang/System" ∈ zWL := ⟨zw3 (List.mem_of_getElem? (i := 174) rfl) rfl, zw3 (List.mem_of_getElem? (i := 176) rfl) rfl, zw3 (List.mem_of_getElem? (i := 175) rfl) rfl, zw1 (List.mem_of_getElem? (i := 19) rfl) rfl⟩
set_option maxRecDepth 20000 in
theorem wj_X1_46 : Cond.methodLink RX1 46 Lib.Math.min.name ∈ zWL ∧ Cond.static Lib.Math.min.name ∈ zWL ∧ Cond.initialized "java/lang/Math" ∈ zWL ∧ Cond.code Lib.Math.min.name Lib.Math.min.code 2 (some .int) ∈ zWL := ⟨zw4 (List.mem_of_getElem? (i := 152) rfl) rfl, zw3 (List.mem_of_getElem? (i := 52) rfl) rfl, zw1 (List.mem_of_getElem? (i := 17) rfl) rfl, zw3 (List.mem_of_getElem? (i := 53) rfl) rfl⟩
set_option maxRecDepth 20000 in
theorem wj_X3_132 : Cond.methodLink RX3 132 Lib.Math.max.name ∈ zWL ∧ Cond.static Lib.Math.max.name ∈ zWL ∧ Cond.initialized "java/lang/Math" ∈ zWL ∧ Cond.code Lib.Math.max.name Lib.Math.max.code 2 (some .int) ∈ zWL := ⟨zw3 (List.mem_of_getElem? (i := 137) rfl) rfl, zw3 (List.mem_of_getElem? (i := 49) rfl) rfl, zw1 (List.mem_of_getElem? (i := 17) rfl) rfl, zw3 (List.mem_of_getElem? (i := 50) rfl) rfl⟩
set_option maxRecDepth 20000 in
theorem wj_X4_27 : Cond.methodLink RX4 27 Lib.Math.min.name ∈ zWL ∧ Cond.static Lib.Math.min.name ∈ zWL ∧ Cond.initialized "java/lang/Math" ∈ zWL ∧ Cond.code Lib.Math.min.name Lib.Math.min.code 2 (some .int) ∈ zWL := ⟨zw4 (List.mem_of_getElem? (i := 117) rfl) rfl, zw3 (List.mem_of_getElem? (i := 52) rfl) rfl, zw1 (List.mem_of_getElem? (i := 17) rfl) rfl, zw3 (List.mem_of_getElem? (i := 53) rfl) rfl⟩
set_option maxRecDepth 20000 in
theorem wj_X5_76 : Cond.methodLink RX5 76 arraycopyName ∈ zWL ∧ Cond.native arraycopyName ∈ zWL ∧ Cond.static arraycopyName ∈ zWL ∧ Cond.initialized "java/lang/System" ∈ zWL := ⟨zw4 (List.mem_of_getElem? (i := 7) rfl) rfl, zw3 (List.mem_of_getElem? (i := 176) rfl) rfl, zw3 (List.mem_of_getElem? (i := 175) rfl) rfl, zw1 (List.mem_of_getElem? (i := 19) rfl) rfl⟩
set_option maxRecDepth 20000 in
theorem wj_X6_38 : Cond.methodLink RX6 38 arraycopyName ∈ zWL ∧ Cond.native arraycopyName ∈ zWL ∧ Cond.static arraycopyName ∈ zWL ∧ Cond.initialized "java/lang/System" ∈ zWL := ⟨zw3 (List.mem_of_getElem? (i := 209) rfl) rfl, zw3 (List.mem_of_getElem? (i := 176) rfl) rfl, zw3 (List.mem_of_getElem? (i := 175) rfl) rfl, zw1 (List.mem_of_getElem? (i := 19) rfl) rfl⟩
set_option maxRecDepth 20000 in
theorem wj_X6_67 : Cond.methodLink RX6 67 Lib.Math.max.name ∈ zWL ∧ Cond.static Lib.Math.max.name ∈ zWL ∧ Cond.initialized "java/lang/Math" ∈ zWL ∧ Cond.code Lib.Math.max.name Lib.Math.max.code 2 (some .int) ∈ zWL := ⟨zw4 (List.mem_of_getElem? (i := 104) rfl) rfl, zw3 (List.mem_of_getElem? (i := 49) rfl) rfl, zw1 (List.mem_of_getElem? (i := 17) rfl) rfl, zw3 (List.mem_of_getElem? (i := 50) rfl) rfl⟩
set_option maxRecDepth 20000 in
theorem wj_X9_76 : Cond.methodLink RX9 76 Lib.Math.max.name ∈ zWL ∧ Cond.static Lib.Math.max.name ∈ zWL ∧ Cond.initialized "java/lang/Math" ∈ zWL ∧ Cond.code Lib.Math.max.name Lib.Math.max.code 2 (some .int) ∈ zWL := ⟨zw4 (List.mem_of_getElem? (i := 95) rfl) rfl, zw3 (List.mem_of_getElem? (i := 49) rfl) rfl, zw1 (List.mem_of_getElem? (i := 17) rfl) rfl, zw3 (List.mem_of_getElem? (i := 50) rfl) rfl⟩
set_option maxRecDepth 20000 in
theorem wj_J1_38 : Cond.methodLink RJ1 38 Lib.Math.min.name ∈ zWL ∧ Cond.static Lib.Math.min.name ∈ zWL ∧ Cond.initialized "java/lang/Math" ∈ zWL ∧ Cond.code Lib.Math.min.name Lib.Math.min.code 2 (some .int) ∈ zWL := ⟨zw3 (List.mem_of_getElem? (i := 51) rfl) rfl, zw3 (List.mem_of_getElem? (i := 52) rfl) rfl, zw1 (List.mem_of_getElem? (i := 17) rfl) rfl, zw3 (List.mem_of_getElem? (i := 53) rfl) rfl⟩
set_option maxRecDepth 20000 in
theorem wj_J1_92 : Cond.methodLink RJ1 92 Lib.Math.max.name ∈ zWL ∧ Cond.static Lib.Math.max.name ∈ zWL ∧ Cond.initialized "java/lang/Math" ∈ zWL ∧ Cond.code Lib.Math.max.name Lib.Math.max.code 2 (some .int) ∈ zWL := ⟨zw3 (List.mem_of_getElem? (i := 48) rfl) rfl, zw3 (List.mem_of_getElem? (i := 49) rfl) rfl, zw1 (List.mem_of_getElem? (i := 17) rfl) rfl, zw3 (List.mem_of_getElem? (i := 50) rfl) rfl⟩
set_option maxRecDepth 20000 in
theorem wj_J2_183 : Cond.methodLink RJ2 183 Lib.Math.min.name ∈ zWL ∧ Cond.static Lib.Math.min.name ∈ zWL ∧ Cond.initialized "java/lang/Math" ∈ zWL ∧ Cond.code Lib.Math.min.name Lib.Math.min.code 2 (some .int) ∈ zWL := ⟨zw3 (List.mem_of_getElem? (i := 61) rfl) rfl, zw3 (List.mem_of_getElem? (i := 52) rfl) rfl, zw1 (List.mem_of_getElem? (i := 17) rfl) rfl, zw3 (List.mem_of_getElem? (i := 53) rfl) rfl⟩
set_option maxRecDepth 20000 in
theorem wj_J2_224 : Cond.methodLink RJ2 224 Lib.Math.max.name ∈ zWL ∧ Cond.static Lib.Math.max.name ∈ zWL ∧ Cond.initialized "java/lang/Math" ∈ zWL ∧ Cond.code Lib.Math.max.name Lib.Math.max.code 2 (some .int) ∈ zWL := ⟨zw3 (List.mem_of_getElem? (i := 60) rfl) rfl, zw3 (List.mem_of_getElem? (i := 49) rfl) rfl, zw1 (List.mem_of_getElem? (i := 17) rfl) rfl, zw3 (List.mem_of_getElem? (i := 50) rfl) rfl⟩
set_option maxRecDepth 20000 in
theorem wk_X8_43 : Cond.constantLong RX8 43 (32) ∈ zWL := zw1 (List.mem_of_getElem? (i := 110) rfl) rfl
set_option maxRecDepth 20000 in
theorem wk_X5_125 : Cond.constant RX5 125 (99999) ∈ zWL := zw4 (List.mem_of_getElem? (i := 38) rfl) rfl
set_option maxRecDepth 20000 in
theorem wk_X9_81 : Cond.constant RX9 81 (1103515245) ∈ zWL := zw4 (List.mem_of_getElem? (i := 94) rfl) rfl
set_option maxRecDepth 20000 in
theorem wk_X11_178 : Cond.constantLong RX11 178 (27) ∈ zWL := zw5 (List.mem_of_getElem? (i := 162) rfl) rfl
set_option maxRecDepth 20000 in
theorem wk_X11_366 : Cond.constant RX11 366 (99999) ∈ zWL := zw7 (List.mem_of_getElem? (i := 84) rfl) rfl
set_option maxRecDepth 20000 in
theorem wk_X11_335 : Cond.constant RX11 335 (1103515245) ∈ zWL := zw7 (List.mem_of_getElem? (i := 139) rfl) rfl
set_option maxRecDepth 20000 in
theorem mz_X0 : Cond.initialized RX0 ∈ zWL := zw1 (List.mem_of_getElem? (i := 11) rfl) rfl
theorem md_X0 : RX0 ≠ "java/lang/invoke/MethodHandle" ∧ RX0 ≠ "java/lang/invoke/VarHandle" := ⟨by decide +kernel, by decide +kernel⟩
set_option maxRecDepth 20000 in
theorem mz_X1 : Cond.initialized RX1 ∈ zWL := zw1 (List.mem_of_getElem? (i := 13) rfl) rfl
theorem md_X1 : RX1 ≠ "java/lang/invoke/MethodHandle" ∧ RX1 ≠ "java/lang/invoke/VarHandle" := ⟨by decide +kernel, by decide +kernel⟩
set_option maxRecDepth 20000 in
theorem mz_X2 : Cond.initialized RX2 ∈ zWL := zw1 (List.mem_of_getElem? (i := 14) rfl) rfl
theorem md_X2 : RX2 ≠ "java/lang/invoke/MethodHandle" ∧ RX2 ≠ "java/lang/invoke/VarHandle" := ⟨by decide +kernel, by decide +kernel⟩
set_option maxRecDepth 20000 in
theorem mz_X3 : Cond.initialized RX3 ∈ zWL := zw1 (List.mem_of_getElem? (i := 3) rfl) rfl
theorem md_X3 : RX3 ≠ "java/lang/invoke/MethodHandle" ∧ RX3 ≠ "java/lang/invoke/VarHandle" := ⟨by decide +kernel, by decide +kernel⟩
set_option maxRecDepth 20000 in
theorem mz_X4 : Cond.initialized RX4 ∈ zWL := zw1 (List.mem_of_getElem? (i := 12) rfl) rfl
theorem md_X4 : RX4 ≠ "java/lang/invoke/MethodHandle" ∧ RX4 ≠ "java/lang/invoke/VarHandle" := ⟨by decide +kernel, by decide +kernel⟩
set_option maxRecDepth 20000 in
theorem mz_X5 : Cond.initialized RX5 ∈ zWL := zw1 (List.mem_of_getElem? (i := 9) rfl) rfl
theorem md_X5 : RX5 ≠ "java/lang/invoke/MethodHandle" ∧ RX5 ≠ "java/lang/invoke/VarHandle" := ⟨by decide +kernel, by decide +kernel⟩
set_option maxRecDepth 20000 in
theorem mz_X6 : Cond.initialized RX6 ∈ zWL := zw1 (List.mem_of_getElem? (i := 10) rfl) rfl
theorem md_X6 : RX6 ≠ "java/lang/invoke/MethodHandle" ∧ RX6 ≠ "java/lang/invoke/VarHandle" := ⟨by decide +kernel, by decide +kernel⟩
set_option maxRecDepth 20000 in
theorem mz_X7 : Cond.initialized RX7 ∈ zWL := zw1 (List.mem_of_getElem? (i := 2) rfl) rfl
theorem md_X7 : RX7 ≠ "java/lang/invoke/MethodHandle" ∧ RX7 ≠ "java/lang/invoke/VarHandle" := ⟨by decide +kernel, by decide +kernel⟩
set_option maxRecDepth 20000 in
theorem mz_X8 : Cond.initialized RX8 ∈ zWL := zw1 (List.mem_of_getElem? (i := 4) rfl) rfl
theorem md_X8 : RX8 ≠ "java/lang/invoke/MethodHandle" ∧ RX8 ≠ "java/lang/invoke/VarHandle" := ⟨by decide +kernel, by decide +kernel⟩
set_option maxRecDepth 20000 in
theorem mz_X9 : Cond.initialized RX9 ∈ zWL := zw1 (List.mem_of_getElem? (i := 15) rfl) rfl
theorem md_X9 : RX9 ≠ "java/lang/invoke/MethodHandle" ∧ RX9 ≠ "java/lang/invoke/VarHandle" := ⟨by decide +kernel, by decide +kernel⟩
set_option maxRecDepth 20000 in
theorem mz_X10 : Cond.initialized RX10 ∈ zWL := zw1 (List.mem_of_getElem? (i := 1) rfl) rfl
theorem md_X10 : RX10 ≠ "java/lang/invoke/MethodHandle" ∧ RX10 ≠ "java/lang/invoke/VarHandle" := ⟨by decide +kernel, by decide +kernel⟩
set_option maxRecDepth 20000 in
theorem mz_X11 : Cond.initialized RX11 ∈ zWL := zw1 (List.mem_of_getElem? (i := 16) rfl) rfl
theorem md_X11 : RX11 ≠ "java/lang/invoke/MethodHandle" ∧ RX11 ≠ "java/lang/invoke/VarHandle" := ⟨by decide +kernel, by decide +kernel⟩
