set_option maxRecDepth 20000 in
theorem mw_1_26 : Cond.classLink RL 8 RX10 ∈ pw_T := pw_in (tb_1 (List.mem_of_getElem? (i := 26) (by rfl))) (by decide +kernel)
set_option maxRecDepth 20000 in
theorem mw_1_28 : Cond.methodLink RL 17 yX10_init ∈ pw_T := pw_in (tb_1 (List.mem_of_getElem? (i := 28) (by rfl))) (by decide +kernel)
set_option maxRecDepth 20000 in
theorem mw_1_31 : Cond.methodLink RX10 7 objectInit ∈ pw_T := pw_in (tb_1 (List.mem_of_getElem? (i := 31) (by rfl))) (by decide +kernel)
set_option maxRecDepth 20000 in
theorem mw_1_34 : Cond.classLink RX10 13 RX4 ∈ pw_T := pw_in (tb_1 (List.mem_of_getElem? (i := 34) (by rfl))) (by decide +kernel)
set_option maxRecDepth 20000 in
theorem mw_1_39 : Cond.methodLink RX4 3 objectInit ∈ pw_T := pw_in (tb_1 (List.mem_of_getElem? (i := 39) (by rfl))) (by decide +kernel)
set_option maxRecDepth 20000 in
theorem mw_1_40 : Cond.classLink RX4 22 RX7 ∈ pw_T := pw_in (tb_1 (List.mem_of_getElem? (i := 40) (by rfl))) (by decide +kernel)
set_option maxRecDepth 20000 in
theorem mw_1_42 : Cond.methodLink RX4 24 yX7_init ∈ pw_T := pw_in (tb_1 (List.mem_of_getElem? (i := 42) (by rfl))) (by decide +kernel)
set_option maxRecDepth 20000 in
theorem mw_1_45 : Cond.methodLink RX7 3 objectInit ∈ pw_T := pw_in (tb_1 (List.mem_of_getElem? (i := 45) (by rfl))) (by decide +kernel)
set_option maxRecDepth 20000 in
theorem mw_1_47 : Cond.methodLink RX7 26 yJ0_length_8abf5 ∈ pw_T := pw_in (tb_1 (List.mem_of_getElem? (i := 47) (by rfl))) (by decide +kernel)
set_option maxRecDepth 20000 in
theorem mw_1_51 : Cond.methodLink RJ0 335 yJ0_coder_7d493 ∈ pw_T := pw_in (tb_1 (List.mem_of_getElem? (i := 51) (by rfl))) (by decide +kernel)
set_option maxRecDepth 20000 in
theorem mw_1_55 : Cond.fieldLink RJ0 38 "java/lang/String" "COMPACT_STRINGS" "Z" ∈ pw_T := pw_in (tb_1 (List.mem_of_getElem? (i := 55) (by rfl))) (by decide +kernel)
set_option maxRecDepth 20000 in
theorem mw_1_57 : Cond.methodLink RX7 32 yJ0_charAt_5068e ∈ pw_T := pw_in (tb_1 (List.mem_of_getElem? (i := 57) (by rfl))) (by decide +kernel)
set_option maxRecDepth 20000 in
theorem mw_1_61 : Cond.methodLink RJ0 492 yJ0_isLatin1_aae02 ∈ pw_T := pw_in (tb_1 (List.mem_of_getElem? (i := 61) (by rfl))) (by decide +kernel)
set_option maxRecDepth 20000 in
theorem mw_1_65 : Cond.methodLink RJ0 495 yJ1_charAt_3b067 ∈ pw_T := pw_in (tb_1 (List.mem_of_getElem? (i := 65) (by rfl))) (by decide +kernel)
set_option maxRecDepth 20000 in
theorem mw_1_68 : Cond.methodLink RJ1 9 yJ0_checkIndex_df160 ∈ pw_T := pw_in (tb_1 (List.mem_of_getElem? (i := 68) (by rfl))) (by decide +kernel)
set_option maxRecDepth 20000 in
theorem mw_1_71 : Cond.fieldLink RJ0 1053 "jdk/internal/util/Preconditions" "SIOOBE_FORMATTER" "Ljava/util/function/BiFunction;" ∈ pw_T := pw_in (tb_1 (List.mem_of_getElem? (i := 71) (by rfl))) (by decide +kernel)
set_option maxRecDepth 20000 in
theorem mw_1_73 : Cond.methodLink RJ0 1059 yJ3_checkIndex_8e157 ∈ pw_T := pw_in (tb_1 (List.mem_of_getElem? (i := 73) (by rfl))) (by decide +kernel)
set_option maxRecDepth 20000 in
theorem mw_1_76 : Cond.methodLink RJ0 498 yJ2_charAt_3b067 ∈ pw_T := pw_in (tb_1 (List.mem_of_getElem? (i := 76) (by rfl))) (by decide +kernel)
set_option maxRecDepth 20000 in
theorem mw_1_79 : Cond.methodLink RJ2 67 yJ2_checkIndex_2214a ∈ pw_T := pw_in (tb_1 (List.mem_of_getElem? (i := 79) (by rfl))) (by decide +kernel)
set_option maxRecDepth 20000 in
theorem mw_1_82 : Cond.methodLink RJ2 48 yJ2_length_9d52b ∈ pw_T := pw_in (tb_1 (List.mem_of_getElem? (i := 82) (by rfl))) (by decide +kernel)
set_option maxRecDepth 20000 in
theorem mw_1_85 : Cond.methodLink RJ2 414 yJ0_checkIndex_df160 ∈ pw_T := pw_in (tb_1 (List.mem_of_getElem? (i := 85) (by rfl))) (by decide +kernel)
set_option maxRecDepth 20000 in
theorem mw_1_86 : Cond.methodLink RJ2 71 yJ2_getChar_3b067 ∈ pw_T := pw_in (tb_1 (List.mem_of_getElem? (i := 86) (by rfl))) (by decide +kernel)
set_option maxRecDepth 20000 in
theorem mw_1_89 : Cond.fieldLink RJ2 44 "java/lang/StringUTF16" "$assertionsDisabled" "Z" ∈ pw_T := pw_in (tb_1 (List.mem_of_getElem? (i := 89) (by rfl))) (by decide +kernel)
set_option maxRecDepth 20000 in
theorem mw_1_91 : Cond.fieldLink RJ2 59 "java/lang/StringUTF16" "HI_BYTE_SHIFT" "I" ∈ pw_T := pw_in (tb_1 (List.mem_of_getElem? (i := 91) (by rfl))) (by decide +kernel)
set_option maxRecDepth 20000 in
theorem mw_1_93 : Cond.fieldLink RJ2 63 "java/lang/StringUTF16" "LO_BYTE_SHIFT" "I" ∈ pw_T := pw_in (tb_1 (List.mem_of_getElem? (i := 93) (by rfl))) (by decide +kernel)
set_option maxRecDepth 20000 in
theorem mw_1_95 : Cond.methodLink RX7 36 yX7_spelled ∈ pw_T := pw_in (tb_1 (List.mem_of_getElem? (i := 95) (by rfl))) (by decide +kernel)
set_option maxRecDepth 20000 in
theorem mw_1_98 : Cond.methodLink RX7 40 yX7_withLetter ∈ pw_T := pw_in (tb_1 (List.mem_of_getElem? (i := 98) (by rfl))) (by decide +kernel)
set_option maxRecDepth 20000 in
theorem mw_1_101 : Cond.fieldLink RX4 80 "PassedClocks$Tokens" "count" "I" ∈ pw_T := pw_in (tb_1 (List.mem_of_getElem? (i := 101) (by rfl))) (by decide +kernel)
set_option maxRecDepth 20000 in
theorem mw_1_102 : Cond.fieldLink RX7 44 "PassedClocks$Tokens" "count" "I" ∈ pw_T := pw_in (tb_1 (List.mem_of_getElem? (i := 102) (by rfl))) (by decide +kernel)
set_option maxRecDepth 20000 in
theorem mw_1_103 : Cond.fieldLink RX7 9 "PassedClocks$Tokens" "kind" "[I" ∈ pw_T := pw_in (tb_1 (List.mem_of_getElem? (i := 103) (by rfl))) (by decide +kernel)
set_option maxRecDepth 20000 in
theorem mw_1_104 : Cond.fieldLink RX4 77 "PassedClocks$Tokens" "kind" "[I" ∈ pw_T := pw_in (tb_1 (List.mem_of_getElem? (i := 104) (by rfl))) (by decide +kernel)
set_option maxRecDepth 20000 in
theorem mw_1_105 : Cond.fieldLink RX7 15 "PassedClocks$Tokens" "place" "[I" ∈ pw_T := pw_in (tb_1 (List.mem_of_getElem? (i := 105) (by rfl))) (by decide +kernel)
set_option maxRecDepth 20000 in
theorem mw_1_106 : Cond.fieldLink RX4 83 "PassedClocks$Tokens" "place" "[I" ∈ pw_T := pw_in (tb_1 (List.mem_of_getElem? (i := 106) (by rfl))) (by decide +kernel)
set_option maxRecDepth 20000 in
theorem mw_1_107 : Cond.fieldLink RX7 18 "PassedClocks$Tokens" "worth" "[I" ∈ pw_T := pw_in (tb_1 (List.mem_of_getElem? (i := 107) (by rfl))) (by decide +kernel)
set_option maxRecDepth 20000 in
theorem mw_1_108 : Cond.fieldLink RX4 140 "PassedClocks$Tokens" "worth" "[I" ∈ pw_T := pw_in (tb_1 (List.mem_of_getElem? (i := 108) (by rfl))) (by decide +kernel)
set_option maxRecDepth 20000 in
theorem mw_1_109 : Cond.fieldLink RX7 21 "PassedClocks$Tokens" "language" "[I" ∈ pw_T := pw_in (tb_1 (List.mem_of_getElem? (i := 109) (by rfl))) (by decide +kernel)
set_option maxRecDepth 20000 in
theorem mw_1_123 : Cond.fieldLink RX4 9 "PassedClocks$Reader" "tape" "[B" ∈ pw_T := pw_in (tb_1 (List.mem_of_getElem? (i := 123) (by rfl))) (by decide +kernel)
set_option maxRecDepth 20000 in
theorem mw_1_124 : Cond.fieldLink RX10 95 "PassedClocks$Reader" "bytes" "I" ∈ pw_T := pw_in (tb_1 (List.mem_of_getElem? (i := 124) (by rfl))) (by decide +kernel)
set_option maxRecDepth 20000 in
theorem mw_1_125 : Cond.fieldLink RX4 29 "PassedClocks$Reader" "bytes" "I" ∈ pw_T := pw_in (tb_1 (List.mem_of_getElem? (i := 125) (by rfl))) (by decide +kernel)
set_option maxRecDepth 20000 in
theorem mw_1_126 : Cond.fieldLink RX4 15 "PassedClocks$Reader" "fault" "I" ∈ pw_T := pw_in (tb_1 (List.mem_of_getElem? (i := 126) (by rfl))) (by decide +kernel)
set_option maxRecDepth 20000 in
theorem mw_1_127 : Cond.fieldLink RX10 107 "PassedClocks$Reader" "fault" "I" ∈ pw_T := pw_in (tb_1 (List.mem_of_getElem? (i := 127) (by rfl))) (by decide +kernel)
set_option maxRecDepth 20000 in
theorem mw_1_128 : Cond.fieldLink RX4 19 "PassedClocks$Reader" "place" "I" ∈ pw_T := pw_in (tb_1 (List.mem_of_getElem? (i := 128) (by rfl))) (by decide +kernel)
set_option maxRecDepth 20000 in
theorem mw_1_129 : Cond.fieldLink RX10 129 "PassedClocks$Reader" "place" "I" ∈ pw_T := pw_in (tb_1 (List.mem_of_getElem? (i := 129) (by rfl))) (by decide +kernel)
set_option maxRecDepth 20000 in
theorem mw_1_130 : Cond.fieldLink RX4 25 "PassedClocks$Reader" "tokens" "LPassedClocks$Tokens;" ∈ pw_T := pw_in (tb_1 (List.mem_of_getElem? (i := 130) (by rfl))) (by decide +kernel)
set_option maxRecDepth 20000 in
theorem mw_1_131 : Cond.fieldLink RX4 42 "PassedClocks$Reader" "told" "LPassedClocks$Told;" ∈ pw_T := pw_in (tb_1 (List.mem_of_getElem? (i := 131) (by rfl))) (by decide +kernel)
set_option maxRecDepth 20000 in
theorem mw_1_132 : Cond.fieldLink RX4 36 "PassedClocks$Reader" "at" "I" ∈ pw_T := pw_in (tb_1 (List.mem_of_getElem? (i := 132) (by rfl))) (by decide +kernel)
set_option maxRecDepth 20000 in
theorem mw_1_133 : Cond.fieldLink RX4 39 "PassedClocks$Reader" "knots" "I" ∈ pw_T := pw_in (tb_1 (List.mem_of_getElem? (i := 133) (by rfl))) (by decide +kernel)
set_option maxRecDepth 20000 in
theorem mw_1_151 : Cond.classLink RX10 20 RX8 ∈ pw_T := pw_in (tb_1 (List.mem_of_getElem? (i := 151) (by rfl))) (by decide +kernel)
set_option maxRecDepth 20000 in
theorem mw_1_156 : Cond.methodLink RX8 3 objectInit ∈ pw_T := pw_in (tb_1 (List.mem_of_getElem? (i := 156) (by rfl))) (by decide +kernel)
set_option maxRecDepth 20000 in
theorem mw_1_157 : Cond.classLink RX8 48 RX6 ∈ pw_T := pw_in (tb_1 (List.mem_of_getElem? (i := 157) (by rfl))) (by decide +kernel)
set_option maxRecDepth 20000 in
theorem mw_1_162 : Cond.methodLink RX6 3 objectInit ∈ pw_T := pw_in (tb_1 (List.mem_of_getElem? (i := 162) (by rfl))) (by decide +kernel)
set_option maxRecDepth 20000 in
theorem mw_1_163 : Cond.fieldLink RX6 31 "PassedClocks$Rules" "knots" "I" ∈ pw_T := pw_in (tb_1 (List.mem_of_getElem? (i := 163) (by rfl))) (by decide +kernel)
set_option maxRecDepth 20000 in
theorem mw_1_164 : Cond.fieldLink RX4 174 "PassedClocks$Rules" "knots" "I" ∈ pw_T := pw_in (tb_1 (List.mem_of_getElem? (i := 164) (by rfl))) (by decide +kernel)
set_option maxRecDepth 20000 in
theorem mw_1_165 : Cond.fieldLink RX10 383 "PassedClocks$Rules" "knots" "I" ∈ pw_T := pw_in (tb_1 (List.mem_of_getElem? (i := 165) (by rfl))) (by decide +kernel)
set_option maxRecDepth 20000 in
theorem mw_1_166 : Cond.fieldLink RX6 9 "PassedClocks$Rules" "kind" "[I" ∈ pw_T := pw_in (tb_1 (List.mem_of_getElem? (i := 166) (by rfl))) (by decide +kernel)
set_option maxRecDepth 20000 in
theorem mw_1_167 : Cond.fieldLink RX6 15 "PassedClocks$Rules" "number" "[I" ∈ pw_T := pw_in (tb_1 (List.mem_of_getElem? (i := 167) (by rfl))) (by decide +kernel)
set_option maxRecDepth 20000 in
theorem mw_1_168 : Cond.fieldLink RX6 18 "PassedClocks$Rules" "from" "[I" ∈ pw_T := pw_in (tb_1 (List.mem_of_getElem? (i := 168) (by rfl))) (by decide +kernel)
set_option maxRecDepth 20000 in
theorem mw_1_169 : Cond.fieldLink RX4 169 "PassedClocks$Rules" "from" "[I" ∈ pw_T := pw_in (tb_1 (List.mem_of_getElem? (i := 169) (by rfl))) (by decide +kernel)
set_option maxRecDepth 20000 in
theorem mw_1_170 : Cond.fieldLink RX6 21 "PassedClocks$Rules" "until" "[I" ∈ pw_T := pw_in (tb_1 (List.mem_of_getElem? (i := 170) (by rfl))) (by decide +kernel)
set_option maxRecDepth 20000 in
theorem mw_1_171 : Cond.fieldLink RX4 178 "PassedClocks$Rules" "until" "[I" ∈ pw_T := pw_in (tb_1 (List.mem_of_getElem? (i := 171) (by rfl))) (by decide +kernel)
set_option maxRecDepth 20000 in
theorem mw_1_172 : Cond.fieldLink RX6 24 "PassedClocks$Rules" "names" "[J" ∈ pw_T := pw_in (tb_1 (List.mem_of_getElem? (i := 172) (by rfl))) (by decide +kernel)
set_option maxRecDepth 20000 in
theorem mw_1_173 : Cond.fieldLink RX6 28 "PassedClocks$Rules" "stack" "[J" ∈ pw_T := pw_in (tb_1 (List.mem_of_getElem? (i := 173) (by rfl))) (by decide +kernel)
set_option maxRecDepth 20000 in
theorem mw_1_190 : Cond.fieldLink RX8 55 "PassedClocks$Told" "clocks" "I" ∈ pw_T := pw_in (tb_1 (List.mem_of_getElem? (i := 190) (by rfl))) (by decide +kernel)
set_option maxRecDepth 20000 in
theorem mw_1_191 : Cond.fieldLink RX10 132 "PassedClocks$Told" "clocks" "I" ∈ pw_T := pw_in (tb_1 (List.mem_of_getElem? (i := 191) (by rfl))) (by decide +kernel)
set_option maxRecDepth 20000 in
theorem mw_1_192 : Cond.fieldLink RX4 88 "PassedClocks$Told" "clocks" "I" ∈ pw_T := pw_in (tb_1 (List.mem_of_getElem? (i := 192) (by rfl))) (by decide +kernel)
set_option maxRecDepth 20000 in
theorem mw_1_193 : Cond.fieldLink RX8 59 "PassedClocks$Told" "people" "I" ∈ pw_T := pw_in (tb_1 (List.mem_of_getElem? (i := 193) (by rfl))) (by decide +kernel)
set_option maxRecDepth 20000 in
theorem mw_1_194 : Cond.fieldLink RX10 139 "PassedClocks$Told" "people" "I" ∈ pw_T := pw_in (tb_1 (List.mem_of_getElem? (i := 194) (by rfl))) (by decide +kernel)
set_option maxRecDepth 20000 in
theorem mw_1_195 : Cond.fieldLink RX4 106 "PassedClocks$Told" "people" "I" ∈ pw_T := pw_in (tb_1 (List.mem_of_getElem? (i := 195) (by rfl))) (by decide +kernel)
set_option maxRecDepth 20000 in
theorem mw_1_196 : Cond.fieldLink RX8 62 "PassedClocks$Told" "rounds" "I" ∈ pw_T := pw_in (tb_1 (List.mem_of_getElem? (i := 196) (by rfl))) (by decide +kernel)
set_option maxRecDepth 20000 in
theorem mw_1_197 : Cond.fieldLink RX3 80 "PassedClocks$Told" "rounds" "I" ∈ pw_T := pw_in (tb_1 (List.mem_of_getElem? (i := 197) (by rfl))) (by decide +kernel)
set_option maxRecDepth 20000 in
theorem mw_1_198 : Cond.fieldLink RX10 190 "PassedClocks$Told" "rounds" "I" ∈ pw_T := pw_in (tb_1 (List.mem_of_getElem? (i := 198) (by rfl))) (by decide +kernel)
set_option maxRecDepth 20000 in
theorem mw_1_199 : Cond.fieldLink RX4 112 "PassedClocks$Told" "rounds" "I" ∈ pw_T := pw_in (tb_1 (List.mem_of_getElem? (i := 199) (by rfl))) (by decide +kernel)
set_option maxRecDepth 20000 in
theorem mw_1_200 : Cond.fieldLink RX8 65 "PassedClocks$Told" "guns" "I" ∈ pw_T := pw_in (tb_1 (List.mem_of_getElem? (i := 200) (by rfl))) (by decide +kernel)
set_option maxRecDepth 20000 in
theorem mw_1_201 : Cond.fieldLink RX3 67 "PassedClocks$Told" "guns" "I" ∈ pw_T := pw_in (tb_1 (List.mem_of_getElem? (i := 201) (by rfl))) (by decide +kernel)
set_option maxRecDepth 20000 in
theorem mw_1_202 : Cond.fieldLink RX4 131 "PassedClocks$Told" "guns" "I" ∈ pw_T := pw_in (tb_1 (List.mem_of_getElem? (i := 202) (by rfl))) (by decide +kernel)
set_option maxRecDepth 20000 in
theorem mw_1_203 : Cond.fieldLink RX10 377 "PassedClocks$Told" "guns" "I" ∈ pw_T := pw_in (tb_1 (List.mem_of_getElem? (i := 203) (by rfl))) (by decide +kernel)
set_option maxRecDepth 20000 in
theorem mw_1_204 : Cond.fieldLink RX8 68 "PassedClocks$Told" "lines" "I" ∈ pw_T := pw_in (tb_1 (List.mem_of_getElem? (i := 204) (by rfl))) (by decide +kernel)
set_option maxRecDepth 20000 in
theorem mw_1_205 : Cond.fieldLink RX10 113 "PassedClocks$Told" "lines" "I" ∈ pw_T := pw_in (tb_1 (List.mem_of_getElem? (i := 205) (by rfl))) (by decide +kernel)
set_option maxRecDepth 20000 in
theorem mw_1_206 : Cond.fieldLink RX4 74 "PassedClocks$Told" "lines" "I" ∈ pw_T := pw_in (tb_1 (List.mem_of_getElem? (i := 206) (by rfl))) (by decide +kernel)
set_option maxRecDepth 20000 in
theorem mw_1_207 : Cond.fieldLink RX8 9 "PassedClocks$Told" "name" "[I" ∈ pw_T := pw_in (tb_1 (List.mem_of_getElem? (i := 207) (by rfl))) (by decide +kernel)
set_option maxRecDepth 20000 in
theorem mw_1_208 : Cond.fieldLink RX4 147 "PassedClocks$Told" "name" "[I" ∈ pw_T := pw_in (tb_1 (List.mem_of_getElem? (i := 208) (by rfl))) (by decide +kernel)
set_option maxRecDepth 20000 in
theorem mw_1_209 : Cond.fieldLink RX8 15 "PassedClocks$Told" "first" "[I" ∈ pw_T := pw_in (tb_1 (List.mem_of_getElem? (i := 209) (by rfl))) (by decide +kernel)
set_option maxRecDepth 20000 in
theorem mw_1_210 : Cond.fieldLink RX3 38 "PassedClocks$Told" "first" "[I" ∈ pw_T := pw_in (tb_1 (List.mem_of_getElem? (i := 210) (by rfl))) (by decide +kernel)
set_option maxRecDepth 20000 in
theorem mw_1_211 : Cond.fieldLink RX10 153 "PassedClocks$Told" "first" "[I" ∈ pw_T := pw_in (tb_1 (List.mem_of_getElem? (i := 211) (by rfl))) (by decide +kernel)
set_option maxRecDepth 20000 in
theorem mw_1_212 : Cond.fieldLink RX4 95 "PassedClocks$Told" "first" "[I" ∈ pw_T := pw_in (tb_1 (List.mem_of_getElem? (i := 212) (by rfl))) (by decide +kernel)
set_option maxRecDepth 20000 in
theorem mw_1_213 : Cond.fieldLink RX8 18 "PassedClocks$Told" "gain" "[I" ∈ pw_T := pw_in (tb_1 (List.mem_of_getElem? (i := 213) (by rfl))) (by decide +kernel)
set_option maxRecDepth 20000 in
theorem mw_1_214 : Cond.fieldLink RX3 47 "PassedClocks$Told" "gain" "[I" ∈ pw_T := pw_in (tb_1 (List.mem_of_getElem? (i := 214) (by rfl))) (by decide +kernel)
set_option maxRecDepth 20000 in
theorem mw_1_215 : Cond.fieldLink RX10 157 "PassedClocks$Told" "gain" "[I" ∈ pw_T := pw_in (tb_1 (List.mem_of_getElem? (i := 215) (by rfl))) (by decide +kernel)
set_option maxRecDepth 20000 in
theorem mw_1_216 : Cond.fieldLink RX4 159 "PassedClocks$Told" "gain" "[I" ∈ pw_T := pw_in (tb_1 (List.mem_of_getElem? (i := 216) (by rfl))) (by decide +kernel)
set_option maxRecDepth 20000 in
theorem mw_1_217 : Cond.fieldLink RX8 21 "PassedClocks$Told" "rough" "[I" ∈ pw_T := pw_in (tb_1 (List.mem_of_getElem? (i := 217) (by rfl))) (by decide +kernel)
set_option maxRecDepth 20000 in
theorem mw_1_218 : Cond.fieldLink RX10 160 "PassedClocks$Told" "rough" "[I" ∈ pw_T := pw_in (tb_1 (List.mem_of_getElem? (i := 218) (by rfl))) (by decide +kernel)
set_option maxRecDepth 20000 in
theorem mw_1_219 : Cond.fieldLink RX4 162 "PassedClocks$Told" "rough" "[I" ∈ pw_T := pw_in (tb_1 (List.mem_of_getElem? (i := 219) (by rfl))) (by decide +kernel)
set_option maxRecDepth 20000 in
theorem mw_1_220 : Cond.fieldLink RX8 24 "PassedClocks$Told" "custom" "[I" ∈ pw_T := pw_in (tb_1 (List.mem_of_getElem? (i := 220) (by rfl))) (by decide +kernel)
set_option maxRecDepth 20000 in
theorem mw_1_221 : Cond.fieldLink RX3 48 "PassedClocks$Told" "custom" "[I" ∈ pw_T := pw_in (tb_1 (List.mem_of_getElem? (i := 221) (by rfl))) (by decide +kernel)
set_option maxRecDepth 20000 in
theorem mw_1_222 : Cond.fieldLink RX10 163 "PassedClocks$Told" "custom" "[I" ∈ pw_T := pw_in (tb_1 (List.mem_of_getElem? (i := 222) (by rfl))) (by decide +kernel)
set_option maxRecDepth 20000 in
theorem mw_1_223 : Cond.fieldLink RX4 150 "PassedClocks$Told" "custom" "[I" ∈ pw_T := pw_in (tb_1 (List.mem_of_getElem? (i := 223) (by rfl))) (by decide +kernel)
set_option maxRecDepth 20000 in
theorem mw_1_224 : Cond.fieldLink RX8 27 "PassedClocks$Told" "part" "[I" ∈ pw_T := pw_in (tb_1 (List.mem_of_getElem? (i := 224) (by rfl))) (by decide +kernel)
set_option maxRecDepth 20000 in
theorem mw_1_225 : Cond.fieldLink RX10 166 "PassedClocks$Told" "part" "[I" ∈ pw_T := pw_in (tb_1 (List.mem_of_getElem? (i := 225) (by rfl))) (by decide +kernel)
set_option maxRecDepth 20000 in
theorem mw_1_226 : Cond.fieldLink RX0 152 "PassedClocks$Told" "part" "[I" ∈ pw_T := pw_in (tb_1 (List.mem_of_getElem? (i := 226) (by rfl))) (by decide +kernel)
set_option maxRecDepth 20000 in
theorem mw_1_227 : Cond.fieldLink RX4 153 "PassedClocks$Told" "part" "[I" ∈ pw_T := pw_in (tb_1 (List.mem_of_getElem? (i := 227) (by rfl))) (by decide +kernel)
set_option maxRecDepth 20000 in
theorem mw_1_228 : Cond.fieldLink RX8 30 "PassedClocks$Told" "whole" "[I" ∈ pw_T := pw_in (tb_1 (List.mem_of_getElem? (i := 228) (by rfl))) (by decide +kernel)
set_option maxRecDepth 20000 in
theorem mw_1_229 : Cond.fieldLink RX10 169 "PassedClocks$Told" "whole" "[I" ∈ pw_T := pw_in (tb_1 (List.mem_of_getElem? (i := 229) (by rfl))) (by decide +kernel)
set_option maxRecDepth 20000 in
theorem mw_1_230 : Cond.fieldLink RX0 149 "PassedClocks$Told" "whole" "[I" ∈ pw_T := pw_in (tb_1 (List.mem_of_getElem? (i := 230) (by rfl))) (by decide +kernel)
set_option maxRecDepth 20000 in
theorem mw_1_231 : Cond.fieldLink RX4 156 "PassedClocks$Told" "whole" "[I" ∈ pw_T := pw_in (tb_1 (List.mem_of_getElem? (i := 231) (by rfl))) (by decide +kernel)
set_option maxRecDepth 20000 in
theorem mw_1_232 : Cond.fieldLink RX8 33 "PassedClocks$Told" "roundPerson" "[I" ∈ pw_T := pw_in (tb_1 (List.mem_of_getElem? (i := 232) (by rfl))) (by decide +kernel)
set_option maxRecDepth 20000 in
theorem mw_1_233 : Cond.fieldLink RX3 83 "PassedClocks$Told" "roundPerson" "[I" ∈ pw_T := pw_in (tb_1 (List.mem_of_getElem? (i := 233) (by rfl))) (by decide +kernel)
set_option maxRecDepth 20000 in
theorem mw_1_234 : Cond.fieldLink RX10 193 "PassedClocks$Told" "roundPerson" "[I" ∈ pw_T := pw_in (tb_1 (List.mem_of_getElem? (i := 234) (by rfl))) (by decide +kernel)
set_option maxRecDepth 20000 in
theorem mw_1_235 : Cond.fieldLink RX4 115 "PassedClocks$Told" "roundPerson" "[I" ∈ pw_T := pw_in (tb_1 (List.mem_of_getElem? (i := 235) (by rfl))) (by decide +kernel)
set_option maxRecDepth 20000 in
theorem mw_1_236 : Cond.fieldLink RX8 36 "PassedClocks$Told" "roundClock" "[I" ∈ pw_T := pw_in (tb_1 (List.mem_of_getElem? (i := 236) (by rfl))) (by decide +kernel)
set_option maxRecDepth 20000 in
theorem mw_1_237 : Cond.fieldLink RX3 89 "PassedClocks$Told" "roundClock" "[I" ∈ pw_T := pw_in (tb_1 (List.mem_of_getElem? (i := 237) (by rfl))) (by decide +kernel)
set_option maxRecDepth 20000 in
theorem mw_1_238 : Cond.fieldLink RX10 196 "PassedClocks$Told" "roundClock" "[I" ∈ pw_T := pw_in (tb_1 (List.mem_of_getElem? (i := 238) (by rfl))) (by decide +kernel)
set_option maxRecDepth 20000 in
theorem mw_1_239 : Cond.fieldLink RX4 122 "PassedClocks$Told" "roundClock" "[I" ∈ pw_T := pw_in (tb_1 (List.mem_of_getElem? (i := 239) (by rfl))) (by decide +kernel)
set_option maxRecDepth 20000 in
theorem mw_2_0 : Cond.fieldLink RX8 39 "PassedClocks$Told" "roundHour" "[I" ∈ pw_T := pw_in (tb_2 (List.mem_of_getElem? (i := 0) (by rfl))) (by decide +kernel)
set_option maxRecDepth 20000 in
theorem mw_2_1 : Cond.fieldLink RX3 86 "PassedClocks$Told" "roundHour" "[I" ∈ pw_T := pw_in (tb_2 (List.mem_of_getElem? (i := 1) (by rfl))) (by decide +kernel)
set_option maxRecDepth 20000 in
theorem mw_2_2 : Cond.fieldLink RX10 199 "PassedClocks$Told" "roundHour" "[I" ∈ pw_T := pw_in (tb_2 (List.mem_of_getElem? (i := 2) (by rfl))) (by decide +kernel)
set_option maxRecDepth 20000 in
theorem mw_2_3 : Cond.fieldLink RX4 125 "PassedClocks$Told" "roundHour" "[I" ∈ pw_T := pw_in (tb_2 (List.mem_of_getElem? (i := 3) (by rfl))) (by decide +kernel)
set_option maxRecDepth 20000 in
theorem mw_2_4 : Cond.fieldLink RX8 42 "PassedClocks$Told" "gunClock" "[I" ∈ pw_T := pw_in (tb_2 (List.mem_of_getElem? (i := 4) (by rfl))) (by decide +kernel)
set_option maxRecDepth 20000 in
theorem mw_2_5 : Cond.fieldLink RX3 73 "PassedClocks$Told" "gunClock" "[I" ∈ pw_T := pw_in (tb_2 (List.mem_of_getElem? (i := 5) (by rfl))) (by decide +kernel)
set_option maxRecDepth 20000 in
theorem mw_2_6 : Cond.fieldLink RX4 134 "PassedClocks$Told" "gunClock" "[I" ∈ pw_T := pw_in (tb_2 (List.mem_of_getElem? (i := 6) (by rfl))) (by decide +kernel)
set_option maxRecDepth 20000 in
theorem mw_2_7 : Cond.fieldLink RX8 45 "PassedClocks$Told" "gunHour" "[I" ∈ pw_T := pw_in (tb_2 (List.mem_of_getElem? (i := 7) (by rfl))) (by decide +kernel)
set_option maxRecDepth 20000 in
theorem mw_2_8 : Cond.fieldLink RX3 70 "PassedClocks$Told" "gunHour" "[I" ∈ pw_T := pw_in (tb_2 (List.mem_of_getElem? (i := 8) (by rfl))) (by decide +kernel)
set_option maxRecDepth 20000 in
theorem mw_2_9 : Cond.fieldLink RX4 137 "PassedClocks$Told" "gunHour" "[I" ∈ pw_T := pw_in (tb_2 (List.mem_of_getElem? (i := 9) (by rfl))) (by decide +kernel)
set_option maxRecDepth 20000 in
theorem mw_2_10 : Cond.fieldLink RX8 51 "PassedClocks$Told" "rules" "LPassedClocks$Rules;" ∈ pw_T := pw_in (tb_2 (List.mem_of_getElem? (i := 10) (by rfl))) (by decide +kernel)
set_option maxRecDepth 20000 in
theorem mw_2_11 : Cond.fieldLink RX3 49 "PassedClocks$Told" "rules" "LPassedClocks$Rules;" ∈ pw_T := pw_in (tb_2 (List.mem_of_getElem? (i := 11) (by rfl))) (by decide +kernel)
set_option maxRecDepth 20000 in
theorem mw_2_12 : Cond.fieldLink RX0 105 "PassedClocks$Told" "rules" "LPassedClocks$Rules;" ∈ pw_T := pw_in (tb_2 (List.mem_of_getElem? (i := 12) (by rfl))) (by decide +kernel)
set_option maxRecDepth 20000 in
theorem mw_2_13 : Cond.fieldLink RX10 172 "PassedClocks$Told" "rules" "LPassedClocks$Rules;" ∈ pw_T := pw_in (tb_2 (List.mem_of_getElem? (i := 13) (by rfl))) (by decide +kernel)
set_option maxRecDepth 20000 in
theorem mw_2_14 : Cond.fieldLink RX4 165 "PassedClocks$Told" "rules" "LPassedClocks$Rules;" ∈ pw_T := pw_in (tb_2 (List.mem_of_getElem? (i := 14) (by rfl))) (by decide +kernel)
set_option maxRecDepth 20000 in
theorem mw_2_52 : Cond.classLink RX10 30 RX3 ∈ pw_T := pw_in (tb_2 (List.mem_of_getElem? (i := 52) (by rfl))) (by decide +kernel)
set_option maxRecDepth 20000 in
theorem mw_2_54 : Cond.methodLink RX10 32 yX3_init ∈ pw_T := pw_in (tb_2 (List.mem_of_getElem? (i := 54) (by rfl))) (by decide +kernel)
set_option maxRecDepth 20000 in
theorem mw_2_57 : Cond.methodLink RX3 3 objectInit ∈ pw_T := pw_in (tb_2 (List.mem_of_getElem? (i := 57) (by rfl))) (by decide +kernel)
set_option maxRecDepth 20000 in
theorem mw_2_58 : Cond.fieldLink RX3 34 "PassedClocks$Plan" "told" "LPassedClocks$Told;" ∈ pw_T := pw_in (tb_2 (List.mem_of_getElem? (i := 58) (by rfl))) (by decide +kernel)
set_option maxRecDepth 20000 in
theorem mw_2_59 : Cond.fieldLink RX2 28 "PassedClocks$Plan" "told" "LPassedClocks$Told;" ∈ pw_T := pw_in (tb_2 (List.mem_of_getElem? (i := 59) (by rfl))) (by decide +kernel)
set_option maxRecDepth 20000 in
theorem mw_2_60 : Cond.fieldLink RX1 50 "PassedClocks$Plan" "told" "LPassedClocks$Told;" ∈ pw_T := pw_in (tb_2 (List.mem_of_getElem? (i := 60) (by rfl))) (by decide +kernel)
set_option maxRecDepth 20000 in
theorem mw_2_61 : Cond.fieldLink RX0 101 "PassedClocks$Plan" "told" "LPassedClocks$Told;" ∈ pw_T := pw_in (tb_2 (List.mem_of_getElem? (i := 61) (by rfl))) (by decide +kernel)
set_option maxRecDepth 20000 in
theorem mw_2_62 : Cond.fieldLink RX3 9 "PassedClocks$Plan" "first" "[I" ∈ pw_T := pw_in (tb_2 (List.mem_of_getElem? (i := 62) (by rfl))) (by decide +kernel)
set_option maxRecDepth 20000 in
theorem mw_2_63 : Cond.fieldLink RX0 57 "PassedClocks$Plan" "first" "[I" ∈ pw_T := pw_in (tb_2 (List.mem_of_getElem? (i := 63) (by rfl))) (by decide +kernel)
set_option maxRecDepth 20000 in
theorem mw_2_64 : Cond.fieldLink RX3 15 "PassedClocks$Plan" "gain" "[I" ∈ pw_T := pw_in (tb_2 (List.mem_of_getElem? (i := 64) (by rfl))) (by decide +kernel)
set_option maxRecDepth 20000 in
theorem mw_2_65 : Cond.fieldLink RX0 162 "PassedClocks$Plan" "gain" "[I" ∈ pw_T := pw_in (tb_2 (List.mem_of_getElem? (i := 65) (by rfl))) (by decide +kernel)
set_option maxRecDepth 20000 in
theorem mw_2_66 : Cond.fieldLink RX3 18 "PassedClocks$Plan" "custom" "[I" ∈ pw_T := pw_in (tb_2 (List.mem_of_getElem? (i := 66) (by rfl))) (by decide +kernel)
set_option maxRecDepth 20000 in
theorem mw_2_67 : Cond.fieldLink RX0 126 "PassedClocks$Plan" "custom" "[I" ∈ pw_T := pw_in (tb_2 (List.mem_of_getElem? (i := 67) (by rfl))) (by decide +kernel)
set_option maxRecDepth 20000 in
theorem mw_2_68 : Cond.fieldLink RX3 21 "PassedClocks$Plan" "ruled" "[Z" ∈ pw_T := pw_in (tb_2 (List.mem_of_getElem? (i := 68) (by rfl))) (by decide +kernel)
set_option maxRecDepth 20000 in
theorem mw_2_69 : Cond.fieldLink RX0 97 "PassedClocks$Plan" "ruled" "[Z" ∈ pw_T := pw_in (tb_2 (List.mem_of_getElem? (i := 69) (by rfl))) (by decide +kernel)
set_option maxRecDepth 20000 in
theorem mw_2_70 : Cond.fieldLink RX3 63 "PassedClocks$Plan" "deeds" "I" ∈ pw_T := pw_in (tb_2 (List.mem_of_getElem? (i := 70) (by rfl))) (by decide +kernel)
set_option maxRecDepth 20000 in
theorem mw_2_71 : Cond.fieldLink RX0 74 "PassedClocks$Plan" "deeds" "I" ∈ pw_T := pw_in (tb_2 (List.mem_of_getElem? (i := 71) (by rfl))) (by decide +kernel)
set_option maxRecDepth 20000 in
theorem mw_2_72 : Cond.fieldLink RX3 25 "PassedClocks$Plan" "deedHour" "[I" ∈ pw_T := pw_in (tb_2 (List.mem_of_getElem? (i := 72) (by rfl))) (by decide +kernel)
set_option maxRecDepth 20000 in
theorem mw_2_73 : Cond.fieldLink RX0 77 "PassedClocks$Plan" "deedHour" "[I" ∈ pw_T := pw_in (tb_2 (List.mem_of_getElem? (i := 73) (by rfl))) (by decide +kernel)
set_option maxRecDepth 20000 in
theorem mw_2_74 : Cond.fieldLink RX3 28 "PassedClocks$Plan" "deedPerson" "[I" ∈ pw_T := pw_in (tb_2 (List.mem_of_getElem? (i := 74) (by rfl))) (by decide +kernel)
set_option maxRecDepth 20000 in
theorem mw_2_75 : Cond.fieldLink RX0 80 "PassedClocks$Plan" "deedPerson" "[I" ∈ pw_T := pw_in (tb_2 (List.mem_of_getElem? (i := 75) (by rfl))) (by decide +kernel)
set_option maxRecDepth 20000 in
theorem mw_2_76 : Cond.fieldLink RX3 31 "PassedClocks$Plan" "deedClock" "[I" ∈ pw_T := pw_in (tb_2 (List.mem_of_getElem? (i := 76) (by rfl))) (by decide +kernel)
set_option maxRecDepth 20000 in
theorem mw_2_77 : Cond.fieldLink RX0 83 "PassedClocks$Plan" "deedClock" "[I" ∈ pw_T := pw_in (tb_2 (List.mem_of_getElem? (i := 77) (by rfl))) (by decide +kernel)
set_option maxRecDepth 20000 in
theorem mw_2_98 : Cond.classLink RX10 42 RX0 ∈ pw_T := pw_in (tb_2 (List.mem_of_getElem? (i := 98) (by rfl))) (by decide +kernel)
set_option maxRecDepth 20000 in
theorem mw_2_100 : Cond.methodLink RX10 44 yX0_init ∈ pw_T := pw_in (tb_2 (List.mem_of_getElem? (i := 100) (by rfl))) (by decide +kernel)
set_option maxRecDepth 20000 in
theorem mw_2_103 : Cond.methodLink RX0 3 objectInit ∈ pw_T := pw_in (tb_2 (List.mem_of_getElem? (i := 103) (by rfl))) (by decide +kernel)
set_option maxRecDepth 20000 in
theorem mw_2_104 : Cond.fieldLink RX0 33 "PassedClocks$Course" "plan" "LPassedClocks$Plan;" ∈ pw_T := pw_in (tb_2 (List.mem_of_getElem? (i := 104) (by rfl))) (by decide +kernel)
set_option maxRecDepth 20000 in
theorem mw_2_105 : Cond.fieldLink RX2 24 "PassedClocks$Course" "plan" "LPassedClocks$Plan;" ∈ pw_T := pw_in (tb_2 (List.mem_of_getElem? (i := 105) (by rfl))) (by decide +kernel)
set_option maxRecDepth 20000 in
theorem mw_2_106 : Cond.fieldLink RX1 44 "PassedClocks$Course" "plan" "LPassedClocks$Plan;" ∈ pw_T := pw_in (tb_2 (List.mem_of_getElem? (i := 106) (by rfl))) (by decide +kernel)
set_option maxRecDepth 20000 in
theorem mw_2_107 : Cond.fieldLink RX2 18 "PassedClocks$Course" "hour" "I" ∈ pw_T := pw_in (tb_2 (List.mem_of_getElem? (i := 107) (by rfl))) (by decide +kernel)
set_option maxRecDepth 20000 in
theorem mw_2_108 : Cond.fieldLink RX0 37 "PassedClocks$Course" "hour" "I" ∈ pw_T := pw_in (tb_2 (List.mem_of_getElem? (i := 108) (by rfl))) (by decide +kernel)
set_option maxRecDepth 20000 in
theorem mw_2_109 : Cond.fieldLink RX10 202 "PassedClocks$Course" "hour" "I" ∈ pw_T := pw_in (tb_2 (List.mem_of_getElem? (i := 109) (by rfl))) (by decide +kernel)
set_option maxRecDepth 20000 in
theorem mw_2_110 : Cond.fieldLink RX0 41 "PassedClocks$Course" "passings" "I" ∈ pw_T := pw_in (tb_2 (List.mem_of_getElem? (i := 110) (by rfl))) (by decide +kernel)
set_option maxRecDepth 20000 in
theorem mw_2_111 : Cond.fieldLink RX10 386 "PassedClocks$Course" "passings" "I" ∈ pw_T := pw_in (tb_2 (List.mem_of_getElem? (i := 111) (by rfl))) (by decide +kernel)
set_option maxRecDepth 20000 in
theorem mw_2_112 : Cond.fieldLink RX0 9 "PassedClocks$Course" "last" "[I" ∈ pw_T := pw_in (tb_2 (List.mem_of_getElem? (i := 112) (by rfl))) (by decide +kernel)
set_option maxRecDepth 20000 in
theorem mw_2_113 : Cond.fieldLink RX10 219 "PassedClocks$Course" "last" "[I" ∈ pw_T := pw_in (tb_2 (List.mem_of_getElem? (i := 113) (by rfl))) (by decide +kernel)
set_option maxRecDepth 20000 in
theorem mw_2_114 : Cond.fieldLink RX0 15 "PassedClocks$Course" "passed" "[I" ∈ pw_T := pw_in (tb_2 (List.mem_of_getElem? (i := 114) (by rfl))) (by decide +kernel)
set_option maxRecDepth 20000 in
theorem mw_2_115 : Cond.fieldLink RX10 222 "PassedClocks$Course" "passed" "[I" ∈ pw_T := pw_in (tb_2 (List.mem_of_getElem? (i := 115) (by rfl))) (by decide +kernel)
set_option maxRecDepth 20000 in
theorem mw_2_116 : Cond.fieldLink RX0 18 "PassedClocks$Course" "keptCount" "[I" ∈ pw_T := pw_in (tb_2 (List.mem_of_getElem? (i := 116) (by rfl))) (by decide +kernel)
set_option maxRecDepth 20000 in
theorem mw_2_117 : Cond.fieldLink RX10 225 "PassedClocks$Course" "keptCount" "[I" ∈ pw_T := pw_in (tb_2 (List.mem_of_getElem? (i := 117) (by rfl))) (by decide +kernel)
set_option maxRecDepth 20000 in
theorem mw_2_118 : Cond.fieldLink RX0 44 "PassedClocks$Course" "watched" "Z" ∈ pw_T := pw_in (tb_2 (List.mem_of_getElem? (i := 118) (by rfl))) (by decide +kernel)
set_option maxRecDepth 20000 in
theorem mw_2_119 : Cond.fieldLink RX10 347 "PassedClocks$Course" "watched" "Z" ∈ pw_T := pw_in (tb_2 (List.mem_of_getElem? (i := 119) (by rfl))) (by decide +kernel)
set_option maxRecDepth 20000 in
theorem mw_2_120 : Cond.fieldLink RX0 48 "PassedClocks$Course" "widest" "I" ∈ pw_T := pw_in (tb_2 (List.mem_of_getElem? (i := 120) (by rfl))) (by decide +kernel)
set_option maxRecDepth 20000 in
theorem mw_2_121 : Cond.fieldLink RX10 350 "PassedClocks$Course" "widest" "I" ∈ pw_T := pw_in (tb_2 (List.mem_of_getElem? (i := 121) (by rfl))) (by decide +kernel)
set_option maxRecDepth 20000 in
theorem mw_2_122 : Cond.fieldLink RX0 51 "PassedClocks$Course" "deed" "I" ∈ pw_T := pw_in (tb_2 (List.mem_of_getElem? (i := 122) (by rfl))) (by decide +kernel)
set_option maxRecDepth 20000 in
theorem mw_2_123 : Cond.fieldLink RX0 54 "PassedClocks$Course" "week" "I" ∈ pw_T := pw_in (tb_2 (List.mem_of_getElem? (i := 123) (by rfl))) (by decide +kernel)
set_option maxRecDepth 20000 in
theorem mw_2_124 : Cond.fieldLink RX0 21 "PassedClocks$Course" "off" "[I" ∈ pw_T := pw_in (tb_2 (List.mem_of_getElem? (i := 124) (by rfl))) (by decide +kernel)
set_option maxRecDepth 20000 in
theorem mw_2_125 : Cond.fieldLink RX0 24 "PassedClocks$Course" "since" "[I" ∈ pw_T := pw_in (tb_2 (List.mem_of_getElem? (i := 125) (by rfl))) (by decide +kernel)
set_option maxRecDepth 20000 in
theorem mw_2_126 : Cond.fieldLink RX0 27 "PassedClocks$Course" "kept" "[I" ∈ pw_T := pw_in (tb_2 (List.mem_of_getElem? (i := 126) (by rfl))) (by decide +kernel)
set_option maxRecDepth 20000 in
theorem mw_2_127 : Cond.fieldLink RX0 30 "PassedClocks$Course" "sorted" "[I" ∈ pw_T := pw_in (tb_2 (List.mem_of_getElem? (i := 127) (by rfl))) (by decide +kernel)
set_option maxRecDepth 20000 in
theorem mw_2_157 : Cond.classLink RX10 60 RX2 ∈ pw_T := pw_in (tb_2 (List.mem_of_getElem? (i := 157) (by rfl))) (by decide +kernel)
set_option maxRecDepth 20000 in
theorem mw_2_162 : Cond.methodLink RX2 3 objectInit ∈ pw_T := pw_in (tb_2 (List.mem_of_getElem? (i := 162) (by rfl))) (by decide +kernel)
set_option maxRecDepth 20000 in
theorem mw_2_163 : Cond.fieldLink RX2 9 "PassedClocks$History" "off" "[I" ∈ pw_T := pw_in (tb_2 (List.mem_of_getElem? (i := 163) (by rfl))) (by decide +kernel)
set_option maxRecDepth 20000 in
theorem mw_2_164 : Cond.fieldLink RX10 231 "PassedClocks$History" "off" "[I" ∈ pw_T := pw_in (tb_2 (List.mem_of_getElem? (i := 164) (by rfl))) (by decide +kernel)
set_option maxRecDepth 20000 in
theorem mw_2_165 : Cond.fieldLink RX2 15 "PassedClocks$History" "apart" "[I" ∈ pw_T := pw_in (tb_2 (List.mem_of_getElem? (i := 165) (by rfl))) (by decide +kernel)
set_option maxRecDepth 20000 in
theorem mw_2_166 : Cond.fieldLink RX10 238 "PassedClocks$History" "apart" "[I" ∈ pw_T := pw_in (tb_2 (List.mem_of_getElem? (i := 166) (by rfl))) (by decide +kernel)
set_option maxRecDepth 20000 in
theorem mw_2_172 : Cond.classLink RX10 67 RX5 ∈ pw_T := pw_in (tb_2 (List.mem_of_getElem? (i := 172) (by rfl))) (by decide +kernel)
set_option maxRecDepth 20000 in
theorem mw_2_177 : Cond.methodLink RX5 3 objectInit ∈ pw_T := pw_in (tb_2 (List.mem_of_getElem? (i := 177) (by rfl))) (by decide +kernel)
set_option maxRecDepth 20000 in
theorem mw_2_178 : Cond.fieldLink RX5 31 "PassedClocks$Readings" "count" "I" ∈ pw_T := pw_in (tb_2 (List.mem_of_getElem? (i := 178) (by rfl))) (by decide +kernel)
set_option maxRecDepth 20000 in
theorem mw_2_179 : Cond.fieldLink RX10 300 "PassedClocks$Readings" "count" "I" ∈ pw_T := pw_in (tb_2 (List.mem_of_getElem? (i := 179) (by rfl))) (by decide +kernel)
set_option maxRecDepth 20000 in
theorem mw_2_180 : Cond.fieldLink RX5 9 "PassedClocks$Readings" "knownFirst" "I" ∈ pw_T := pw_in (tb_2 (List.mem_of_getElem? (i := 180) (by rfl))) (by decide +kernel)
set_option maxRecDepth 20000 in
theorem mw_2_181 : Cond.fieldLink RX10 307 "PassedClocks$Readings" "knownFirst" "I" ∈ pw_T := pw_in (tb_2 (List.mem_of_getElem? (i := 181) (by rfl))) (by decide +kernel)
set_option maxRecDepth 20000 in
theorem mw_2_182 : Cond.fieldLink RX5 15 "PassedClocks$Readings" "slot" "[I" ∈ pw_T := pw_in (tb_2 (List.mem_of_getElem? (i := 182) (by rfl))) (by decide +kernel)
set_option maxRecDepth 20000 in
theorem mw_2_183 : Cond.fieldLink RX5 19 "PassedClocks$Readings" "hour" "[I" ∈ pw_T := pw_in (tb_2 (List.mem_of_getElem? (i := 183) (by rfl))) (by decide +kernel)
set_option maxRecDepth 20000 in
theorem mw_2_184 : Cond.fieldLink RX5 22 "PassedClocks$Readings" "low" "[I" ∈ pw_T := pw_in (tb_2 (List.mem_of_getElem? (i := 184) (by rfl))) (by decide +kernel)
set_option maxRecDepth 20000 in
theorem mw_2_185 : Cond.fieldLink RX5 25 "PassedClocks$Readings" "high" "[I" ∈ pw_T := pw_in (tb_2 (List.mem_of_getElem? (i := 185) (by rfl))) (by decide +kernel)
set_option maxRecDepth 20000 in
theorem mw_2_186 : Cond.fieldLink RX5 28 "PassedClocks$Readings" "byHour" "[I" ∈ pw_T := pw_in (tb_2 (List.mem_of_getElem? (i := 186) (by rfl))) (by decide +kernel)
set_option maxRecDepth 20000 in
theorem mw_2_202 : Cond.classLink RX10 74 RX9 ∈ pw_T := pw_in (tb_2 (List.mem_of_getElem? (i := 202) (by rfl))) (by decide +kernel)
set_option maxRecDepth 20000 in
theorem mw_2_207 : Cond.methodLink RX9 3 objectInit ∈ pw_T := pw_in (tb_2 (List.mem_of_getElem? (i := 207) (by rfl))) (by decide +kernel)
set_option maxRecDepth 20000 in
theorem mw_2_208 : Cond.fieldLink RX9 9 "PassedClocks$Ways" "slot" "I" ∈ pw_T := pw_in (tb_2 (List.mem_of_getElem? (i := 208) (by rfl))) (by decide +kernel)
set_option maxRecDepth 20000 in
theorem mw_2_209 : Cond.fieldLink RX10 321 "PassedClocks$Ways" "slot" "I" ∈ pw_T := pw_in (tb_2 (List.mem_of_getElem? (i := 209) (by rfl))) (by decide +kernel)
set_option maxRecDepth 20000 in
theorem mw_2_210 : Cond.fieldLink RX9 19 "PassedClocks$Ways" "count" "I" ∈ pw_T := pw_in (tb_2 (List.mem_of_getElem? (i := 210) (by rfl))) (by decide +kernel)
set_option maxRecDepth 20000 in
theorem mw_2_211 : Cond.fieldLink RX10 317 "PassedClocks$Ways" "count" "I" ∈ pw_T := pw_in (tb_2 (List.mem_of_getElem? (i := 211) (by rfl))) (by decide +kernel)
set_option maxRecDepth 20000 in
theorem mw_2_212 : Cond.fieldLink RX9 15 "PassedClocks$Ways" "seconds" "[I" ∈ pw_T := pw_in (tb_2 (List.mem_of_getElem? (i := 212) (by rfl))) (by decide +kernel)
set_option maxRecDepth 20000 in
theorem mw_2_213 : Cond.fieldLink RX10 318 "PassedClocks$Ways" "seconds" "[I" ∈ pw_T := pw_in (tb_2 (List.mem_of_getElem? (i := 213) (by rfl))) (by decide +kernel)
set_option maxRecDepth 20000 in
theorem mw_2_221 : Cond.classLink RX10 81 RX1 ∈ pw_T := pw_in (tb_2 (List.mem_of_getElem? (i := 221) (by rfl))) (by decide +kernel)
set_option maxRecDepth 20000 in
theorem mw_2_226 : Cond.methodLink RX1 3 objectInit ∈ pw_T := pw_in (tb_2 (List.mem_of_getElem? (i := 226) (by rfl))) (by decide +kernel)
set_option maxRecDepth 20000 in
theorem mw_2_227 : Cond.fieldLink RX1 9 "PassedClocks$Extremes" "least" "[I" ∈ pw_T := pw_in (tb_2 (List.mem_of_getElem? (i := 227) (by rfl))) (by decide +kernel)
set_option maxRecDepth 20000 in
theorem mw_2_228 : Cond.fieldLink RX10 282 "PassedClocks$Extremes" "least" "[I" ∈ pw_T := pw_in (tb_2 (List.mem_of_getElem? (i := 228) (by rfl))) (by decide +kernel)
set_option maxRecDepth 20000 in
theorem mw_2_229 : Cond.fieldLink RX1 15 "PassedClocks$Extremes" "leastAt" "[I" ∈ pw_T := pw_in (tb_2 (List.mem_of_getElem? (i := 229) (by rfl))) (by decide +kernel)
set_option maxRecDepth 20000 in
theorem mw_2_230 : Cond.fieldLink RX10 374 "PassedClocks$Extremes" "leastAt" "[I" ∈ pw_T := pw_in (tb_2 (List.mem_of_getElem? (i := 230) (by rfl))) (by decide +kernel)
set_option maxRecDepth 20000 in
theorem mw_2_231 : Cond.fieldLink RX1 18 "PassedClocks$Extremes" "most" "[I" ∈ pw_T := pw_in (tb_2 (List.mem_of_getElem? (i := 231) (by rfl))) (by decide +kernel)
set_option maxRecDepth 20000 in
theorem mw_2_232 : Cond.fieldLink RX10 285 "PassedClocks$Extremes" "most" "[I" ∈ pw_T := pw_in (tb_2 (List.mem_of_getElem? (i := 232) (by rfl))) (by decide +kernel)
set_option maxRecDepth 20000 in
theorem mw_2_233 : Cond.fieldLink RX1 21 "PassedClocks$Extremes" "mostAt" "[I" ∈ pw_T := pw_in (tb_2 (List.mem_of_getElem? (i := 233) (by rfl))) (by decide +kernel)
set_option maxRecDepth 20000 in
theorem mw_2_234 : Cond.fieldLink RX10 371 "PassedClocks$Extremes" "mostAt" "[I" ∈ pw_T := pw_in (tb_2 (List.mem_of_getElem? (i := 234) (by rfl))) (by decide +kernel)
set_option maxRecDepth 20000 in
theorem mw_2_235 : Cond.fieldLink RX1 24 "PassedClocks$Extremes" "person" "I" ∈ pw_T := pw_in (tb_2 (List.mem_of_getElem? (i := 235) (by rfl))) (by decide +kernel)
set_option maxRecDepth 20000 in
theorem mw_2_236 : Cond.fieldLink RX1 28 "PassedClocks$Extremes" "clock" "I" ∈ pw_T := pw_in (tb_2 (List.mem_of_getElem? (i := 236) (by rfl))) (by decide +kernel)
set_option maxRecDepth 20000 in
theorem mw_2_237 : Cond.fieldLink RX1 31 "PassedClocks$Extremes" "hour" "I" ∈ pw_T := pw_in (tb_2 (List.mem_of_getElem? (i := 237) (by rfl))) (by decide +kernel)
set_option maxRecDepth 20000 in
theorem mw_3_13 : Cond.fieldLink RX10 16 "PassedClocks" "reader" "LPassedClocks$Reader;" ∈ pw_T := pw_in (tb_3 (List.mem_of_getElem? (i := 13) (by rfl))) (by decide +kernel)
set_option maxRecDepth 20000 in
theorem mw_3_14 : Cond.fieldLink RX10 23 "PassedClocks" "told" "LPassedClocks$Told;" ∈ pw_T := pw_in (tb_3 (List.mem_of_getElem? (i := 14) (by rfl))) (by decide +kernel)
set_option maxRecDepth 20000 in
theorem mw_3_15 : Cond.fieldLink RX10 27 "PassedClocks" "spare" "LPassedClocks$Told;" ∈ pw_T := pw_in (tb_3 (List.mem_of_getElem? (i := 15) (by rfl))) (by decide +kernel)
set_option maxRecDepth 20000 in
theorem mw_3_16 : Cond.fieldLink RX10 35 "PassedClocks" "asTold" "LPassedClocks$Plan;" ∈ pw_T := pw_in (tb_3 (List.mem_of_getElem? (i := 16) (by rfl))) (by decide +kernel)
set_option maxRecDepth 20000 in
theorem mw_3_17 : Cond.fieldLink RX10 39 "PassedClocks" "tryPlan" "LPassedClocks$Plan;" ∈ pw_T := pw_in (tb_3 (List.mem_of_getElem? (i := 17) (by rfl))) (by decide +kernel)
set_option maxRecDepth 20000 in
theorem mw_3_18 : Cond.fieldLink RX10 47 "PassedClocks" "now" "LPassedClocks$Course;" ∈ pw_T := pw_in (tb_3 (List.mem_of_getElem? (i := 18) (by rfl))) (by decide +kernel)
set_option maxRecDepth 20000 in
theorem mw_3_19 : Cond.fieldLink RX10 51 "PassedClocks" "image" "LPassedClocks$Course;" ∈ pw_T := pw_in (tb_3 (List.mem_of_getElem? (i := 19) (by rfl))) (by decide +kernel)
set_option maxRecDepth 20000 in
theorem mw_3_20 : Cond.fieldLink RX10 91 "PassedClocks" "imageKept" "Z" ∈ pw_T := pw_in (tb_3 (List.mem_of_getElem? (i := 20) (by rfl))) (by decide +kernel)
set_option maxRecDepth 20000 in
theorem mw_3_21 : Cond.fieldLink RX10 54 "PassedClocks" "plainRun" "LPassedClocks$Course;" ∈ pw_T := pw_in (tb_3 (List.mem_of_getElem? (i := 21) (by rfl))) (by decide +kernel)
set_option maxRecDepth 20000 in
theorem mw_3_22 : Cond.fieldLink RX10 57 "PassedClocks" "tryRun" "LPassedClocks$Course;" ∈ pw_T := pw_in (tb_3 (List.mem_of_getElem? (i := 22) (by rfl))) (by decide +kernel)
set_option maxRecDepth 20000 in
theorem mw_3_23 : Cond.fieldLink RX10 63 "PassedClocks" "history" "LPassedClocks$History;" ∈ pw_T := pw_in (tb_3 (List.mem_of_getElem? (i := 23) (by rfl))) (by decide +kernel)
set_option maxRecDepth 20000 in
theorem mw_3_24 : Cond.fieldLink RX10 70 "PassedClocks" "readings" "LPassedClocks$Readings;" ∈ pw_T := pw_in (tb_3 (List.mem_of_getElem? (i := 24) (by rfl))) (by decide +kernel)
set_option maxRecDepth 20000 in
theorem mw_3_25 : Cond.fieldLink RX10 77 "PassedClocks" "ways" "LPassedClocks$Ways;" ∈ pw_T := pw_in (tb_3 (List.mem_of_getElem? (i := 25) (by rfl))) (by decide +kernel)
set_option maxRecDepth 20000 in
theorem mw_3_26 : Cond.fieldLink RX10 84 "PassedClocks" "endsFound" "LPassedClocks$Extremes;" ∈ pw_T := pw_in (tb_3 (List.mem_of_getElem? (i := 26) (by rfl))) (by decide +kernel)
set_option maxRecDepth 20000 in
theorem mw_3_27 : Cond.fieldLink RX10 88 "PassedClocks" "purposeFound" "LPassedClocks$Extremes;" ∈ pw_T := pw_in (tb_3 (List.mem_of_getElem? (i := 27) (by rfl))) (by decide +kernel)
set_option maxRecDepth 20000 in
theorem mw_3_59 : Cond.methodLink RL 21 yX10_feed ∈ pw_T := pw_in (tb_3 (List.mem_of_getElem? (i := 59) (by rfl))) (by decide +kernel)
set_option maxRecDepth 20000 in
theorem mw_3_63 : Cond.methodLink RX10 99 yX4_take ∈ pw_T := pw_in (tb_3 (List.mem_of_getElem? (i := 63) (by rfl))) (by decide +kernel)
set_option maxRecDepth 20000 in
theorem mw_3_67 : Cond.methodLink RL 26 yX10_text ∈ pw_T := pw_in (tb_3 (List.mem_of_getElem? (i := 67) (by rfl))) (by decide +kernel)
set_option maxRecDepth 20000 in
theorem mw_3_71 : Cond.methodLink RX10 103 yX4_read ∈ pw_T := pw_in (tb_3 (List.mem_of_getElem? (i := 71) (by rfl))) (by decide +kernel)
set_option maxRecDepth 20000 in
theorem mw_3_75 : Cond.methodLink RX4 32 yX7_split ∈ pw_T := pw_in (tb_3 (List.mem_of_getElem? (i := 75) (by rfl))) (by decide +kernel)
set_option maxRecDepth 20000 in
theorem mw_3_79 : Cond.methodLink RX7 48 yX7_isLetter ∈ pw_T := pw_in (tb_3 (List.mem_of_getElem? (i := 79) (by rfl))) (by decide +kernel)
set_option maxRecDepth 20000 in
theorem mw_3_82 : Cond.methodLink RX7 52 yX7_takeWord ∈ pw_T := pw_in (tb_3 (List.mem_of_getElem? (i := 82) (by rfl))) (by decide +kernel)
set_option maxRecDepth 20000 in
theorem mw_3_86 : Cond.methodLink RX7 69 yX7_wordKind ∈ pw_T := pw_in (tb_3 (List.mem_of_getElem? (i := 86) (by rfl))) (by decide +kernel)
set_option maxRecDepth 20000 in
theorem mw_3_90 : Cond.methodLink RX7 65 yX7_add ∈ pw_T := pw_in (tb_3 (List.mem_of_getElem? (i := 90) (by rfl))) (by decide +kernel)
set_option maxRecDepth 20000 in
theorem mw_3_94 : Cond.methodLink RX7 56 yX7_isDigit ∈ pw_T := pw_in (tb_3 (List.mem_of_getElem? (i := 94) (by rfl))) (by decide +kernel)
set_option maxRecDepth 20000 in
theorem mw_3_97 : Cond.methodLink RX7 59 yX7_takeNumber ∈ pw_T := pw_in (tb_3 (List.mem_of_getElem? (i := 97) (by rfl))) (by decide +kernel)
set_option maxRecDepth 20000 in
theorem mw_3_101 : Cond.constant RX7 73 (1000000) ∈ pw_T := pw_in (tb_3 (List.mem_of_getElem? (i := 101) (by rfl))) (by decide +kernel)
set_option maxRecDepth 20000 in
theorem mw_3_102 : Cond.methodLink RX7 74 yJ9_min_7cf53 ∈ pw_T := pw_in (tb_3 (List.mem_of_getElem? (i := 102) (by rfl))) (by decide +kernel)
set_option maxRecDepth 20000 in
theorem mw_3_105 : Cond.methodLink RX7 62 yX7_takeSign ∈ pw_T := pw_in (tb_3 (List.mem_of_getElem? (i := 105) (by rfl))) (by decide +kernel)
set_option maxRecDepth 20000 in
theorem mw_3_109 : Cond.methodLink RX7 80 yX7_signKind ∈ pw_T := pw_in (tb_3 (List.mem_of_getElem? (i := 109) (by rfl))) (by decide +kernel)
set_option maxRecDepth 20000 in
theorem mw_3_112 : Cond.methodLink RX4 46 yX8_clear ∈ pw_T := pw_in (tb_3 (List.mem_of_getElem? (i := 112) (by rfl))) (by decide +kernel)
set_option maxRecDepth 20000 in
theorem mw_3_116 : Cond.methodLink RX8 71 yJ7_fill_53178 ∈ pw_T := pw_in (tb_3 (List.mem_of_getElem? (i := 116) (by rfl))) (by decide +kernel)
set_option maxRecDepth 20000 in
theorem mw_3_119 : Cond.methodLink RX8 77 yX6_clear ∈ pw_T := pw_in (tb_3 (List.mem_of_getElem? (i := 119) (by rfl))) (by decide +kernel)
set_option maxRecDepth 20000 in
theorem mw_3_123 : Cond.methodLink RX6 35 yJ7_fill_53178 ∈ pw_T := pw_in (tb_3 (List.mem_of_getElem? (i := 123) (by rfl))) (by decide +kernel)
set_option maxRecDepth 20000 in
theorem mw_3_124 : Cond.methodLink RX4 51 yX4_kind ∈ pw_T := pw_in (tb_3 (List.mem_of_getElem? (i := 124) (by rfl))) (by decide +kernel)
set_option maxRecDepth 20000 in
theorem mw_3_128 : Cond.methodLink RX4 55 yX4_readClock ∈ pw_T := pw_in (tb_3 (List.mem_of_getElem? (i := 128) (by rfl))) (by decide +kernel)
set_option maxRecDepth 20000 in
theorem mw_3_132 : Cond.methodLink RX4 67 yX4_refuse ∈ pw_T := pw_in (tb_3 (List.mem_of_getElem? (i := 132) (by rfl))) (by decide +kernel)
set_option maxRecDepth 20000 in
theorem mw_3_136 : Cond.methodLink RX4 85 yX4_step ∈ pw_T := pw_in (tb_3 (List.mem_of_getElem? (i := 136) (by rfl))) (by decide +kernel)
set_option maxRecDepth 20000 in
theorem mw_3_140 : Cond.methodLink RX4 91 yX4_readNewName ∈ pw_T := pw_in (tb_3 (List.mem_of_getElem? (i := 140) (by rfl))) (by decide +kernel)
set_option maxRecDepth 20000 in
theorem mw_3_144 : Cond.methodLink RX4 143 yX8_find ∈ pw_T := pw_in (tb_3 (List.mem_of_getElem? (i := 144) (by rfl))) (by decide +kernel)
set_option maxRecDepth 20000 in
theorem mw_3_148 : Cond.constant RX4 98 (36000) ∈ pw_T := pw_in (tb_3 (List.mem_of_getElem? (i := 148) (by rfl))) (by decide +kernel)
set_option maxRecDepth 20000 in
theorem mw_3_149 : Cond.methodLink RX4 99 yX4_readSigned ∈ pw_T := pw_in (tb_3 (List.mem_of_getElem? (i := 149) (by rfl))) (by decide +kernel)
set_option maxRecDepth 20000 in
theorem mw_3_153 : Cond.methodLink RX4 128 yX4_readNumber ∈ pw_T := pw_in (tb_3 (List.mem_of_getElem? (i := 153) (by rfl))) (by decide +kernel)
set_option maxRecDepth 20000 in
theorem mw_3_157 : Cond.methodLink RX4 103 yX4_readRest ∈ pw_T := pw_in (tb_3 (List.mem_of_getElem? (i := 157) (by rfl))) (by decide +kernel)
set_option maxRecDepth 20000 in
theorem mw_3_161 : Cond.methodLink RX4 175 yX4_readEither ∈ pw_T := pw_in (tb_3 (List.mem_of_getElem? (i := 161) (by rfl))) (by decide +kernel)
set_option maxRecDepth 20000 in
theorem mw_3_165 : Cond.methodLink RX4 181 yX4_readBoth ∈ pw_T := pw_in (tb_3 (List.mem_of_getElem? (i := 165) (by rfl))) (by decide +kernel)
set_option maxRecDepth 20000 in
theorem mw_3_169 : Cond.methodLink RX4 190 yX4_readNot ∈ pw_T := pw_in (tb_3 (List.mem_of_getElem? (i := 169) (by rfl))) (by decide +kernel)
set_option maxRecDepth 20000 in
theorem mw_3_173 : Cond.methodLink RX4 184 yX4_takeKnot ∈ pw_T := pw_in (tb_3 (List.mem_of_getElem? (i := 173) (by rfl))) (by decide +kernel)
set_option maxRecDepth 20000 in
theorem mw_3_177 : Cond.methodLink RX4 193 yX4_readCompared ∈ pw_T := pw_in (tb_3 (List.mem_of_getElem? (i := 177) (by rfl))) (by decide +kernel)
set_option maxRecDepth 20000 in
theorem mw_3_181 : Cond.methodLink RX4 196 yX4_readSum ∈ pw_T := pw_in (tb_3 (List.mem_of_getElem? (i := 181) (by rfl))) (by decide +kernel)
set_option maxRecDepth 20000 in
theorem mw_3_185 : Cond.methodLink RX4 199 yX4_readProduct ∈ pw_T := pw_in (tb_3 (List.mem_of_getElem? (i := 185) (by rfl))) (by decide +kernel)
set_option maxRecDepth 20000 in
theorem mw_3_189 : Cond.methodLink RX4 202 yX4_readPart ∈ pw_T := pw_in (tb_3 (List.mem_of_getElem? (i := 189) (by rfl))) (by decide +kernel)
set_option maxRecDepth 20000 in
theorem mw_3_193 : Cond.constant RX4 205 (99999) ∈ pw_T := pw_in (tb_3 (List.mem_of_getElem? (i := 193) (by rfl))) (by decide +kernel)
set_option maxRecDepth 20000 in
theorem mw_3_194 : Cond.methodLink RX4 187 yX6_add ∈ pw_T := pw_in (tb_3 (List.mem_of_getElem? (i := 194) (by rfl))) (by decide +kernel)
set_option maxRecDepth 20000 in
theorem mw_3_198 : Cond.methodLink RX4 71 yX4_expect ∈ pw_T := pw_in (tb_3 (List.mem_of_getElem? (i := 198) (by rfl))) (by decide +kernel)
set_option maxRecDepth 20000 in
theorem mw_3_202 : Cond.methodLink RX4 58 yX4_readPerson ∈ pw_T := pw_in (tb_3 (List.mem_of_getElem? (i := 202) (by rfl))) (by decide +kernel)
set_option maxRecDepth 20000 in
theorem mw_3_206 : Cond.methodLink RX4 109 yX4_readCustom ∈ pw_T := pw_in (tb_3 (List.mem_of_getElem? (i := 206) (by rfl))) (by decide +kernel)
set_option maxRecDepth 20000 in
theorem mw_3_210 : Cond.methodLink RX4 61 yX4_readRound ∈ pw_T := pw_in (tb_3 (List.mem_of_getElem? (i := 210) (by rfl))) (by decide +kernel)
set_option maxRecDepth 20000 in
theorem mw_3_214 : Cond.methodLink RX4 118 yX4_readToldName ∈ pw_T := pw_in (tb_3 (List.mem_of_getElem? (i := 214) (by rfl))) (by decide +kernel)
set_option maxRecDepth 20000 in
theorem mw_3_218 : Cond.methodLink RX4 64 yX4_readGun ∈ pw_T := pw_in (tb_3 (List.mem_of_getElem? (i := 218) (by rfl))) (by decide +kernel)
set_option maxRecDepth 20000 in
theorem mw_3_222 : Cond.methodLink RX10 110 yX10_beginAnew ∈ pw_T := pw_in (tb_3 (List.mem_of_getElem? (i := 222) (by rfl))) (by decide +kernel)
set_option maxRecDepth 20000 in
theorem mw_3_226 : Cond.methodLink RX10 116 yX3_follow ∈ pw_T := pw_in (tb_3 (List.mem_of_getElem? (i := 226) (by rfl))) (by decide +kernel)
set_option maxRecDepth 20000 in
theorem mw_3_230 : Cond.methodLink RX3 41 arraycopyName ∈ pw_T := pw_in (tb_3 (List.mem_of_getElem? (i := 230) (by rfl))) (by decide +kernel)
set_option maxRecDepth 20000 in
theorem mw_3_233 : Cond.methodLink RX3 53 yX6_has ∈ pw_T := pw_in (tb_3 (List.mem_of_getElem? (i := 233) (by rfl))) (by decide +kernel)
set_option maxRecDepth 20000 in
theorem mw_3_237 : Cond.methodLink RX3 59 yX3_layDeeds ∈ pw_T := pw_in (tb_3 (List.mem_of_getElem? (i := 237) (by rfl))) (by decide +kernel)
set_option maxRecDepth 20000 in
theorem mw_4_1 : Cond.methodLink RX3 76 yX3_addDeed ∈ pw_T := pw_in (tb_4 (List.mem_of_getElem? (i := 1) (by rfl))) (by decide +kernel)
set_option maxRecDepth 20000 in
theorem mw_4_5 : Cond.methodLink RX3 92 yX3_isBehind ∈ pw_T := pw_in (tb_4 (List.mem_of_getElem? (i := 5) (by rfl))) (by decide +kernel)
set_option maxRecDepth 20000 in
theorem mw_4_9 : Cond.methodLink RX10 119 yX0_begin ∈ pw_T := pw_in (tb_4 (List.mem_of_getElem? (i := 9) (by rfl))) (by decide +kernel)
set_option maxRecDepth 20000 in
theorem mw_4_13 : Cond.methodLink RX0 62 arraycopyName ∈ pw_T := pw_in (tb_4 (List.mem_of_getElem? (i := 13) (by rfl))) (by decide +kernel)
set_option maxRecDepth 20000 in
theorem mw_4_14 : Cond.methodLink RX0 68 yJ7_fill_53178 ∈ pw_T := pw_in (tb_4 (List.mem_of_getElem? (i := 14) (by rfl))) (by decide +kernel)
set_option maxRecDepth 20000 in
theorem mw_4_15 : Cond.methodLink RX10 122 yX5_clear ∈ pw_T := pw_in (tb_4 (List.mem_of_getElem? (i := 15) (by rfl))) (by decide +kernel)
set_option maxRecDepth 20000 in
theorem mw_4_19 : Cond.methodLink RX10 125 yX9_forget ∈ pw_T := pw_in (tb_4 (List.mem_of_getElem? (i := 19) (by rfl))) (by decide +kernel)
set_option maxRecDepth 20000 in
theorem mw_4_23 : Cond.methodLink RX10 128 yX1_forget ∈ pw_T := pw_in (tb_4 (List.mem_of_getElem? (i := 23) (by rfl))) (by decide +kernel)
set_option maxRecDepth 20000 in
theorem mw_4_27 : Cond.methodLink RL 31 yX10_fault ∈ pw_T := pw_in (tb_4 (List.mem_of_getElem? (i := 27) (by rfl))) (by decide +kernel)
set_option maxRecDepth 20000 in
theorem mw_4_31 : Cond.methodLink RL 35 yX10_named ∈ pw_T := pw_in (tb_4 (List.mem_of_getElem? (i := 31) (by rfl))) (by decide +kernel)
set_option maxRecDepth 20000 in
theorem mw_4_35 : Cond.methodLink RX10 135 yX8_find ∈ pw_T := pw_in (tb_4 (List.mem_of_getElem? (i := 35) (by rfl))) (by decide +kernel)
set_option maxRecDepth 20000 in
theorem mw_4_36 : Cond.methodLink RL 45 yX10_clock ∈ pw_T := pw_in (tb_4 (List.mem_of_getElem? (i := 36) (by rfl))) (by decide +kernel)
set_option maxRecDepth 20000 in
theorem mw_4_40 : Cond.methodLink RX10 186 yX8_hasClock ∈ pw_T := pw_in (tb_4 (List.mem_of_getElem? (i := 40) (by rfl))) (by decide +kernel)
set_option maxRecDepth 20000 in
theorem mw_4_44 : Cond.constant RX10 189 (-2147483648) ∈ pw_T := pw_in (tb_4 (List.mem_of_getElem? (i := 44) (by rfl))) (by decide +kernel)
set_option maxRecDepth 20000 in
theorem mw_4_45 : Cond.methodLink RL 49 yX10_round ∈ pw_T := pw_in (tb_4 (List.mem_of_getElem? (i := 45) (by rfl))) (by decide +kernel)
set_option maxRecDepth 20000 in
theorem mw_4_49 : Cond.methodLink RL 53 yX10_hours ∈ pw_T := pw_in (tb_4 (List.mem_of_getElem? (i := 49) (by rfl))) (by decide +kernel)
set_option maxRecDepth 20000 in
theorem mw_4_53 : Cond.methodLink RX10 205 yX0_goOn ∈ pw_T := pw_in (tb_4 (List.mem_of_getElem? (i := 53) (by rfl))) (by decide +kernel)
set_option maxRecDepth 20000 in
theorem mw_4_57 : Cond.methodLink RX0 86 yX0_shoot ∈ pw_T := pw_in (tb_4 (List.mem_of_getElem? (i := 57) (by rfl))) (by decide +kernel)
set_option maxRecDepth 20000 in
theorem mw_4_61 : Cond.methodLink RX0 94 yX0_settle ∈ pw_T := pw_in (tb_4 (List.mem_of_getElem? (i := 61) (by rfl))) (by decide +kernel)
set_option maxRecDepth 20000 in
theorem mw_4_65 : Cond.methodLink RX0 155 yX0_noteWidest ∈ pw_T := pw_in (tb_4 (List.mem_of_getElem? (i := 65) (by rfl))) (by decide +kernel)
set_option maxRecDepth 20000 in
theorem mw_4_69 : Cond.methodLink RX0 159 yX0_offAt ∈ pw_T := pw_in (tb_4 (List.mem_of_getElem? (i := 69) (by rfl))) (by decide +kernel)
set_option maxRecDepth 20000 in
theorem mw_4_73 : Cond.methodLink RX0 145 yX0_bounded ∈ pw_T := pw_in (tb_4 (List.mem_of_getElem? (i := 73) (by rfl))) (by decide +kernel)
set_option maxRecDepth 20000 in
theorem mw_4_76 : Cond.constantLong RX0 165 (1000000000) ∈ pw_T := pw_in (tb_4 (List.mem_of_getElem? (i := 76) (by rfl))) (by decide +kernel)
set_option maxRecDepth 20000 in
theorem mw_4_77 : Cond.constant RX0 167 (1000000000) ∈ pw_T := pw_in (tb_4 (List.mem_of_getElem? (i := 77) (by rfl))) (by decide +kernel)
set_option maxRecDepth 20000 in
theorem mw_4_78 : Cond.constantLong RX0 168 (-1000000000) ∈ pw_T := pw_in (tb_4 (List.mem_of_getElem? (i := 78) (by rfl))) (by decide +kernel)
set_option maxRecDepth 20000 in
theorem mw_4_79 : Cond.constant RX0 170 (-1000000000) ∈ pw_T := pw_in (tb_4 (List.mem_of_getElem? (i := 79) (by rfl))) (by decide +kernel)
set_option maxRecDepth 20000 in
theorem mw_4_80 : Cond.methodLink RX0 90 yX0_meet ∈ pw_T := pw_in (tb_4 (List.mem_of_getElem? (i := 80) (by rfl))) (by decide +kernel)
set_option maxRecDepth 20000 in
theorem mw_4_84 : Cond.methodLink RX0 111 yX6_name ∈ pw_T := pw_in (tb_4 (List.mem_of_getElem? (i := 84) (by rfl))) (by decide +kernel)
set_option maxRecDepth 20000 in
theorem mw_4_88 : Cond.methodLink RX0 117 yX6_value ∈ pw_T := pw_in (tb_4 (List.mem_of_getElem? (i := 88) (by rfl))) (by decide +kernel)
set_option maxRecDepth 20000 in
theorem mw_4_92 : Cond.constantLong RX6 41 (-9223372036854775808) ∈ pw_T := pw_in (tb_4 (List.mem_of_getElem? (i := 92) (by rfl))) (by decide +kernel)
set_option maxRecDepth 20000 in
theorem mw_4_93 : Cond.methodLink RX6 43 yX6_joined ∈ pw_T := pw_in (tb_4 (List.mem_of_getElem? (i := 93) (by rfl))) (by decide +kernel)
set_option maxRecDepth 20000 in
theorem mw_4_96 : Cond.methodLink RX6 51 yJ9_abs_067f4 ∈ pw_T := pw_in (tb_4 (List.mem_of_getElem? (i := 96) (by rfl))) (by decide +kernel)
set_option maxRecDepth 20000 in
theorem mw_4_99 : Cond.constantLong RX6 47 (1000000000000) ∈ pw_T := pw_in (tb_4 (List.mem_of_getElem? (i := 99) (by rfl))) (by decide +kernel)
set_option maxRecDepth 20000 in
theorem mw_4_100 : Cond.constantLong RX6 49 (-1000000000000) ∈ pw_T := pw_in (tb_4 (List.mem_of_getElem? (i := 100) (by rfl))) (by decide +kernel)
set_option maxRecDepth 20000 in
theorem mw_4_101 : Cond.constantLong RX0 121 (-9223372036854775808) ∈ pw_T := pw_in (tb_4 (List.mem_of_getElem? (i := 101) (by rfl))) (by decide +kernel)
set_option maxRecDepth 20000 in
theorem mw_4_102 : Cond.methodLink RX0 123 yX0_act ∈ pw_T := pw_in (tb_4 (List.mem_of_getElem? (i := 102) (by rfl))) (by decide +kernel)
set_option maxRecDepth 20000 in
theorem mw_4_106 : Cond.methodLink RX0 129 yJ9_floorDiv_7cf53 ∈ pw_T := pw_in (tb_4 (List.mem_of_getElem? (i := 106) (by rfl))) (by decide +kernel)
set_option maxRecDepth 20000 in
theorem mw_4_109 : Cond.methodLink RX0 135 yX0_partOf ∈ pw_T := pw_in (tb_4 (List.mem_of_getElem? (i := 109) (by rfl))) (by decide +kernel)
set_option maxRecDepth 20000 in
theorem mw_4_113 : Cond.methodLink RX0 138 yX0_keepAhead ∈ pw_T := pw_in (tb_4 (List.mem_of_getElem? (i := 113) (by rfl))) (by decide +kernel)
set_option maxRecDepth 20000 in
theorem mw_4_117 : Cond.methodLink RX0 141 yX0_middleKept ∈ pw_T := pw_in (tb_4 (List.mem_of_getElem? (i := 117) (by rfl))) (by decide +kernel)
set_option maxRecDepth 20000 in
theorem mw_4_121 : Cond.methodLink RX10 208 yX2_write ∈ pw_T := pw_in (tb_4 (List.mem_of_getElem? (i := 121) (by rfl))) (by decide +kernel)
set_option maxRecDepth 20000 in
theorem mw_4_125 : Cond.methodLink RX2 34 yX8_things ∈ pw_T := pw_in (tb_4 (List.mem_of_getElem? (i := 125) (by rfl))) (by decide +kernel)
set_option maxRecDepth 20000 in
theorem mw_4_129 : Cond.constant RX2 40 (1000000000) ∈ pw_T := pw_in (tb_4 (List.mem_of_getElem? (i := 129) (by rfl))) (by decide +kernel)
set_option maxRecDepth 20000 in
theorem mw_4_130 : Cond.constant RX2 41 (-1000000000) ∈ pw_T := pw_in (tb_4 (List.mem_of_getElem? (i := 130) (by rfl))) (by decide +kernel)
set_option maxRecDepth 20000 in
theorem mw_4_131 : Cond.methodLink RX2 42 yX8_slotOf ∈ pw_T := pw_in (tb_4 (List.mem_of_getElem? (i := 131) (by rfl))) (by decide +kernel)
set_option maxRecDepth 20000 in
theorem mw_4_135 : Cond.methodLink RX8 80 yX8_things ∈ pw_T := pw_in (tb_4 (List.mem_of_getElem? (i := 135) (by rfl))) (by decide +kernel)
set_option maxRecDepth 20000 in
theorem mw_4_136 : Cond.methodLink RX2 46 yX0_offNow ∈ pw_T := pw_in (tb_4 (List.mem_of_getElem? (i := 136) (by rfl))) (by decide +kernel)
set_option maxRecDepth 20000 in
theorem mw_4_140 : Cond.methodLink RX2 49 yJ9_min_7cf53 ∈ pw_T := pw_in (tb_4 (List.mem_of_getElem? (i := 140) (by rfl))) (by decide +kernel)
set_option maxRecDepth 20000 in
theorem mw_4_141 : Cond.methodLink RX2 55 yJ9_max_7cf53 ∈ pw_T := pw_in (tb_4 (List.mem_of_getElem? (i := 141) (by rfl))) (by decide +kernel)
set_option maxRecDepth 20000 in
theorem mw_4_144 : Cond.methodLink RL 57 yX10_off ∈ pw_T := pw_in (tb_4 (List.mem_of_getElem? (i := 144) (by rfl))) (by decide +kernel)
set_option maxRecDepth 20000 in
theorem mw_4_148 : Cond.methodLink RX10 212 yX8_slotOf ∈ pw_T := pw_in (tb_4 (List.mem_of_getElem? (i := 148) (by rfl))) (by decide +kernel)
set_option maxRecDepth 20000 in
theorem mw_4_149 : Cond.methodLink RX10 216 yX0_offNow ∈ pw_T := pw_in (tb_4 (List.mem_of_getElem? (i := 149) (by rfl))) (by decide +kernel)
set_option maxRecDepth 20000 in
theorem mw_4_150 : Cond.methodLink RL 61 yX10_now ∈ pw_T := pw_in (tb_4 (List.mem_of_getElem? (i := 150) (by rfl))) (by decide +kernel)
set_option maxRecDepth 20000 in
theorem mw_4_154 : Cond.methodLink RX10 142 yX8_hasPerson ∈ pw_T := pw_in (tb_4 (List.mem_of_getElem? (i := 154) (by rfl))) (by decide +kernel)
set_option maxRecDepth 20000 in
theorem mw_4_158 : Cond.methodLink RL 65 yX10_was ∈ pw_T := pw_in (tb_4 (List.mem_of_getElem? (i := 158) (by rfl))) (by decide +kernel)
set_option maxRecDepth 20000 in
theorem mw_4_162 : Cond.methodLink RX10 228 yX10_wentBy ∈ pw_T := pw_in (tb_4 (List.mem_of_getElem? (i := 162) (by rfl))) (by decide +kernel)
set_option maxRecDepth 20000 in
theorem mw_4_166 : Cond.methodLink RL 69 yX10_spread ∈ pw_T := pw_in (tb_4 (List.mem_of_getElem? (i := 166) (by rfl))) (by decide +kernel)
set_option maxRecDepth 20000 in
theorem mw_4_170 : Cond.methodLink RX10 234 yX8_things ∈ pw_T := pw_in (tb_4 (List.mem_of_getElem? (i := 170) (by rfl))) (by decide +kernel)
set_option maxRecDepth 20000 in
theorem mw_4_171 : Cond.methodLink RL 73 yX10_pass ∈ pw_T := pw_in (tb_4 (List.mem_of_getElem? (i := 171) (by rfl))) (by decide +kernel)
set_option maxRecDepth 20000 in
theorem mw_4_175 : Cond.methodLink RX10 241 yX10_canPass ∈ pw_T := pw_in (tb_4 (List.mem_of_getElem? (i := 175) (by rfl))) (by decide +kernel)
set_option maxRecDepth 20000 in
theorem mw_4_179 : Cond.methodLink RX10 245 yX0_meet ∈ pw_T := pw_in (tb_4 (List.mem_of_getElem? (i := 179) (by rfl))) (by decide +kernel)
set_option maxRecDepth 20000 in
theorem mw_4_180 : Cond.methodLink RL 79 yX10_row ∈ pw_T := pw_in (tb_4 (List.mem_of_getElem? (i := 180) (by rfl))) (by decide +kernel)
set_option maxRecDepth 20000 in
theorem mw_4_184 : Cond.methodLink RX10 249 yX0_copy ∈ pw_T := pw_in (tb_4 (List.mem_of_getElem? (i := 184) (by rfl))) (by decide +kernel)
set_option maxRecDepth 20000 in
theorem mw_4_188 : Cond.constantLong RX10 252 (15) ∈ pw_T := pw_in (tb_4 (List.mem_of_getElem? (i := 188) (by rfl))) (by decide +kernel)
set_option maxRecDepth 20000 in
theorem mw_4_189 : Cond.methodLink RL 84 yX10_rule ∈ pw_T := pw_in (tb_4 (List.mem_of_getElem? (i := 189) (by rfl))) (by decide +kernel)
set_option maxRecDepth 20000 in
theorem mw_4_193 : Cond.methodLink RX10 176 yX6_has ∈ pw_T := pw_in (tb_4 (List.mem_of_getElem? (i := 193) (by rfl))) (by decide +kernel)
set_option maxRecDepth 20000 in
theorem mw_4_194 : Cond.constantLong RX10 254 (-9223372036854775808) ∈ pw_T := pw_in (tb_4 (List.mem_of_getElem? (i := 194) (by rfl))) (by decide +kernel)
set_option maxRecDepth 20000 in
theorem mw_4_195 : Cond.constant RX10 256 (-99999) ∈ pw_T := pw_in (tb_4 (List.mem_of_getElem? (i := 195) (by rfl))) (by decide +kernel)
set_option maxRecDepth 20000 in
theorem mw_4_196 : Cond.constant RX10 257 (99999) ∈ pw_T := pw_in (tb_4 (List.mem_of_getElem? (i := 196) (by rfl))) (by decide +kernel)
set_option maxRecDepth 20000 in
theorem mw_4_197 : Cond.methodLink RX10 258 yX10_isWithin ∈ pw_T := pw_in (tb_4 (List.mem_of_getElem? (i := 197) (by rfl))) (by decide +kernel)
set_option maxRecDepth 20000 in
theorem mw_4_200 : Cond.methodLink RX10 262 yX6_name ∈ pw_T := pw_in (tb_4 (List.mem_of_getElem? (i := 200) (by rfl))) (by decide +kernel)
set_option maxRecDepth 20000 in
theorem mw_4_201 : Cond.methodLink RX10 266 yX6_value ∈ pw_T := pw_in (tb_4 (List.mem_of_getElem? (i := 201) (by rfl))) (by decide +kernel)
set_option maxRecDepth 20000 in
theorem mw_4_202 : Cond.methodLink RL 89 yX10_moved ∈ pw_T := pw_in (tb_4 (List.mem_of_getElem? (i := 202) (by rfl))) (by decide +kernel)
set_option maxRecDepth 20000 in
theorem mw_4_206 : Cond.constant RX10 270 (-36000) ∈ pw_T := pw_in (tb_4 (List.mem_of_getElem? (i := 206) (by rfl))) (by decide +kernel)
set_option maxRecDepth 20000 in
theorem mw_4_207 : Cond.constant RX10 271 (36000) ∈ pw_T := pw_in (tb_4 (List.mem_of_getElem? (i := 207) (by rfl))) (by decide +kernel)
set_option maxRecDepth 20000 in
theorem mw_4_208 : Cond.methodLink RX10 272 yX0_shift ∈ pw_T := pw_in (tb_4 (List.mem_of_getElem? (i := 208) (by rfl))) (by decide +kernel)
set_option maxRecDepth 20000 in
theorem mw_4_212 : Cond.methodLink RL 94 yX10_ends ∈ pw_T := pw_in (tb_4 (List.mem_of_getElem? (i := 212) (by rfl))) (by decide +kernel)
set_option maxRecDepth 20000 in
theorem mw_4_216 : Cond.methodLink RX10 276 yX1_isOf ∈ pw_T := pw_in (tb_4 (List.mem_of_getElem? (i := 216) (by rfl))) (by decide +kernel)
set_option maxRecDepth 20000 in
theorem mw_4_220 : Cond.methodLink RX10 279 yX10_findEnds ∈ pw_T := pw_in (tb_4 (List.mem_of_getElem? (i := 220) (by rfl))) (by decide +kernel)
set_option maxRecDepth 20000 in
theorem mw_4_224 : Cond.methodLink RX10 288 yX1_start ∈ pw_T := pw_in (tb_4 (List.mem_of_getElem? (i := 224) (by rfl))) (by decide +kernel)
set_option maxRecDepth 20000 in
theorem mw_4_228 : Cond.constant RX1 36 (2147483647) ∈ pw_T := pw_in (tb_4 (List.mem_of_getElem? (i := 228) (by rfl))) (by decide +kernel)
set_option maxRecDepth 20000 in
theorem mw_4_229 : Cond.methodLink RX1 37 yJ7_fill_53178 ∈ pw_T := pw_in (tb_4 (List.mem_of_getElem? (i := 229) (by rfl))) (by decide +kernel)
set_option maxRecDepth 20000 in
theorem mw_4_230 : Cond.constant RX1 43 (-2147483648) ∈ pw_T := pw_in (tb_4 (List.mem_of_getElem? (i := 230) (by rfl))) (by decide +kernel)
set_option maxRecDepth 20000 in
theorem mw_4_231 : Cond.methodLink RX10 291 yX8_isRough ∈ pw_T := pw_in (tb_4 (List.mem_of_getElem? (i := 231) (by rfl))) (by decide +kernel)
set_option maxRecDepth 20000 in
theorem mw_4_235 : Cond.methodLink RX8 84 yX8_hasClock ∈ pw_T := pw_in (tb_4 (List.mem_of_getElem? (i := 235) (by rfl))) (by decide +kernel)
set_option maxRecDepth 20000 in
theorem mw_4_236 : Cond.methodLink RX8 88 yX8_hasPerson ∈ pw_T := pw_in (tb_4 (List.mem_of_getElem? (i := 236) (by rfl))) (by decide +kernel)
set_option maxRecDepth 20000 in
theorem mw_4_237 : Cond.methodLink RX10 294 yX1_note ∈ pw_T := pw_in (tb_4 (List.mem_of_getElem? (i := 237) (by rfl))) (by decide +kernel)
set_option maxRecDepth 20000 in
theorem mw_5_1 : Cond.methodLink RX1 56 yX8_things ∈ pw_T := pw_in (tb_5 (List.mem_of_getElem? (i := 1) (by rfl))) (by decide +kernel)
set_option maxRecDepth 20000 in
theorem mw_5_2 : Cond.methodLink RX1 62 yX8_slotOf ∈ pw_T := pw_in (tb_5 (List.mem_of_getElem? (i := 2) (by rfl))) (by decide +kernel)
set_option maxRecDepth 20000 in
theorem mw_5_3 : Cond.methodLink RX1 66 yX0_offNow ∈ pw_T := pw_in (tb_5 (List.mem_of_getElem? (i := 3) (by rfl))) (by decide +kernel)
set_option maxRecDepth 20000 in
theorem mw_5_4 : Cond.methodLink RL 98 yX10_reading ∈ pw_T := pw_in (tb_5 (List.mem_of_getElem? (i := 4) (by rfl))) (by decide +kernel)
set_option maxRecDepth 20000 in
theorem mw_5_8 : Cond.constant RX10 298 (-1000000) ∈ pw_T := pw_in (tb_5 (List.mem_of_getElem? (i := 8) (by rfl))) (by decide +kernel)
set_option maxRecDepth 20000 in
theorem mw_5_9 : Cond.constant RX10 299 (1000000) ∈ pw_T := pw_in (tb_5 (List.mem_of_getElem? (i := 9) (by rfl))) (by decide +kernel)
set_option maxRecDepth 20000 in
theorem mw_5_10 : Cond.methodLink RX10 303 yX5_add ∈ pw_T := pw_in (tb_5 (List.mem_of_getElem? (i := 10) (by rfl))) (by decide +kernel)
set_option maxRecDepth 20000 in
theorem mw_5_14 : Cond.methodLink RL 103 yX10_known ∈ pw_T := pw_in (tb_5 (List.mem_of_getElem? (i := 14) (by rfl))) (by decide +kernel)
set_option maxRecDepth 20000 in
theorem mw_5_18 : Cond.methodLink RL 108 yX10_judged ∈ pw_T := pw_in (tb_5 (List.mem_of_getElem? (i := 18) (by rfl))) (by decide +kernel)
set_option maxRecDepth 20000 in
theorem mw_5_22 : Cond.methodLink RX10 310 yX5_firstWrong ∈ pw_T := pw_in (tb_5 (List.mem_of_getElem? (i := 22) (by rfl))) (by decide +kernel)
set_option maxRecDepth 20000 in
theorem mw_5_26 : Cond.methodLink RX5 34 yX5_knownCount ∈ pw_T := pw_in (tb_5 (List.mem_of_getElem? (i := 26) (by rfl))) (by decide +kernel)
set_option maxRecDepth 20000 in
theorem mw_5_30 : Cond.methodLink RX5 38 yX0_goOn ∈ pw_T := pw_in (tb_5 (List.mem_of_getElem? (i := 30) (by rfl))) (by decide +kernel)
set_option maxRecDepth 20000 in
theorem mw_5_31 : Cond.methodLink RX5 44 yX5_isSo ∈ pw_T := pw_in (tb_5 (List.mem_of_getElem? (i := 31) (by rfl))) (by decide +kernel)
set_option maxRecDepth 20000 in
theorem mw_5_35 : Cond.methodLink RX5 48 yX0_offNow ∈ pw_T := pw_in (tb_5 (List.mem_of_getElem? (i := 35) (by rfl))) (by decide +kernel)
set_option maxRecDepth 20000 in
theorem mw_5_36 : Cond.methodLink RL 113 yX10_wrong ∈ pw_T := pw_in (tb_5 (List.mem_of_getElem? (i := 36) (by rfl))) (by decide +kernel)
set_option maxRecDepth 20000 in
theorem mw_5_40 : Cond.methodLink RX10 314 yX10_findWays ∈ pw_T := pw_in (tb_5 (List.mem_of_getElem? (i := 40) (by rfl))) (by decide +kernel)
set_option maxRecDepth 20000 in
theorem mw_5_44 : Cond.methodLink RX10 324 yX9_start ∈ pw_T := pw_in (tb_5 (List.mem_of_getElem? (i := 44) (by rfl))) (by decide +kernel)
set_option maxRecDepth 20000 in
theorem mw_5_48 : Cond.methodLink RX10 326 yX5_fit ∈ pw_T := pw_in (tb_5 (List.mem_of_getElem? (i := 48) (by rfl))) (by decide +kernel)
set_option maxRecDepth 20000 in
theorem mw_5_52 : Cond.methodLink RX10 330 yX9_add ∈ pw_T := pw_in (tb_5 (List.mem_of_getElem? (i := 52) (by rfl))) (by decide +kernel)
set_option maxRecDepth 20000 in
theorem mw_5_56 : Cond.methodLink RL 117 yX10_way ∈ pw_T := pw_in (tb_5 (List.mem_of_getElem? (i := 56) (by rfl))) (by decide +kernel)
set_option maxRecDepth 20000 in
theorem mw_5_60 : Cond.methodLink RL 121 yX10_tried ∈ pw_T := pw_in (tb_5 (List.mem_of_getElem? (i := 60) (by rfl))) (by decide +kernel)
set_option maxRecDepth 20000 in
theorem mw_5_64 : Cond.methodLink RX10 332 yX10_canTry ∈ pw_T := pw_in (tb_5 (List.mem_of_getElem? (i := 64) (by rfl))) (by decide +kernel)
set_option maxRecDepth 20000 in
theorem mw_5_68 : Cond.methodLink RX10 335 yX10_runOtherwise ∈ pw_T := pw_in (tb_5 (List.mem_of_getElem? (i := 68) (by rfl))) (by decide +kernel)
set_option maxRecDepth 20000 in
theorem mw_5_72 : Cond.methodLink RX10 340 yX3_change ∈ pw_T := pw_in (tb_5 (List.mem_of_getElem? (i := 72) (by rfl))) (by decide +kernel)
set_option maxRecDepth 20000 in
theorem mw_5_76 : Cond.methodLink RX3 96 yX3_dropRules ∈ pw_T := pw_in (tb_5 (List.mem_of_getElem? (i := 76) (by rfl))) (by decide +kernel)
set_option maxRecDepth 20000 in
theorem mw_5_80 : Cond.methodLink RX3 99 yJ7_fill_53178 ∈ pw_T := pw_in (tb_5 (List.mem_of_getElem? (i := 80) (by rfl))) (by decide +kernel)
set_option maxRecDepth 20000 in
theorem mw_5_81 : Cond.methodLink RX3 105 yX3_makeRight ∈ pw_T := pw_in (tb_5 (List.mem_of_getElem? (i := 81) (by rfl))) (by decide +kernel)
set_option maxRecDepth 20000 in
theorem mw_5_85 : Cond.methodLink RX3 109 yX3_setCustom ∈ pw_T := pw_in (tb_5 (List.mem_of_getElem? (i := 85) (by rfl))) (by decide +kernel)
set_option maxRecDepth 20000 in
theorem mw_5_89 : Cond.methodLink RX10 338 yX0_apart ∈ pw_T := pw_in (tb_5 (List.mem_of_getElem? (i := 89) (by rfl))) (by decide +kernel)
set_option maxRecDepth 20000 in
theorem mw_5_93 : Cond.methodLink RX0 171 yX8_things ∈ pw_T := pw_in (tb_5 (List.mem_of_getElem? (i := 93) (by rfl))) (by decide +kernel)
set_option maxRecDepth 20000 in
theorem mw_5_94 : Cond.methodLink RX0 175 yX8_slotOf ∈ pw_T := pw_in (tb_5 (List.mem_of_getElem? (i := 94) (by rfl))) (by decide +kernel)
set_option maxRecDepth 20000 in
theorem mw_5_95 : Cond.methodLink RX0 178 yX0_offNow ∈ pw_T := pw_in (tb_5 (List.mem_of_getElem? (i := 95) (by rfl))) (by decide +kernel)
set_option maxRecDepth 20000 in
theorem mw_5_96 : Cond.methodLink RX0 181 yJ9_min_7cf53 ∈ pw_T := pw_in (tb_5 (List.mem_of_getElem? (i := 96) (by rfl))) (by decide +kernel)
set_option maxRecDepth 20000 in
theorem mw_5_97 : Cond.methodLink RX0 184 yJ9_max_7cf53 ∈ pw_T := pw_in (tb_5 (List.mem_of_getElem? (i := 97) (by rfl))) (by decide +kernel)
set_option maxRecDepth 20000 in
theorem mw_5_98 : Cond.methodLink RL 125 yX10_other ∈ pw_T := pw_in (tb_5 (List.mem_of_getElem? (i := 98) (by rfl))) (by decide +kernel)
set_option maxRecDepth 20000 in
theorem mw_5_102 : Cond.methodLink RL 129 yX10_agree ∈ pw_T := pw_in (tb_5 (List.mem_of_getElem? (i := 102) (by rfl))) (by decide +kernel)
set_option maxRecDepth 20000 in
theorem mw_5_106 : Cond.constant RX10 343 (100000) ∈ pw_T := pw_in (tb_5 (List.mem_of_getElem? (i := 106) (by rfl))) (by decide +kernel)
set_option maxRecDepth 20000 in
theorem mw_5_107 : Cond.methodLink RL 133 yX10_often ∈ pw_T := pw_in (tb_5 (List.mem_of_getElem? (i := 107) (by rfl))) (by decide +kernel)
set_option maxRecDepth 20000 in
theorem mw_5_111 : Cond.methodLink RX10 344 yX10_isEnough ∈ pw_T := pw_in (tb_5 (List.mem_of_getElem? (i := 111) (by rfl))) (by decide +kernel)
set_option maxRecDepth 20000 in
theorem mw_5_115 : Cond.methodLink RX10 353 yX0_shoot ∈ pw_T := pw_in (tb_5 (List.mem_of_getElem? (i := 115) (by rfl))) (by decide +kernel)
set_option maxRecDepth 20000 in
theorem mw_5_116 : Cond.methodLink RX10 356 yX0_noteAll ∈ pw_T := pw_in (tb_5 (List.mem_of_getElem? (i := 116) (by rfl))) (by decide +kernel)
set_option maxRecDepth 20000 in
theorem mw_5_120 : Cond.methodLink RL 137 yX10_fewest ∈ pw_T := pw_in (tb_5 (List.mem_of_getElem? (i := 120) (by rfl))) (by decide +kernel)
set_option maxRecDepth 20000 in
theorem mw_5_124 : Cond.methodLink RX10 359 yJ6_bitCount_0f7a4 ∈ pw_T := pw_in (tb_5 (List.mem_of_getElem? (i := 124) (by rfl))) (by decide +kernel)
set_option maxRecDepth 20000 in
theorem mw_5_127 : Cond.constant RJ6 265 (1431655765) ∈ pw_T := pw_in (tb_5 (List.mem_of_getElem? (i := 127) (by rfl))) (by decide +kernel)
set_option maxRecDepth 20000 in
theorem mw_5_128 : Cond.constant RJ6 266 (858993459) ∈ pw_T := pw_in (tb_5 (List.mem_of_getElem? (i := 128) (by rfl))) (by decide +kernel)
set_option maxRecDepth 20000 in
theorem mw_5_129 : Cond.constant RJ6 267 (252645135) ∈ pw_T := pw_in (tb_5 (List.mem_of_getElem? (i := 129) (by rfl))) (by decide +kernel)
set_option maxRecDepth 20000 in
theorem mw_5_130 : Cond.methodLink RX10 362 yX10_holdAll ∈ pw_T := pw_in (tb_5 (List.mem_of_getElem? (i := 130) (by rfl))) (by decide +kernel)
set_option maxRecDepth 20000 in
theorem mw_5_134 : Cond.methodLink RX10 365 yX3_makeRight ∈ pw_T := pw_in (tb_5 (List.mem_of_getElem? (i := 134) (by rfl))) (by decide +kernel)
set_option maxRecDepth 20000 in
theorem mw_5_135 : Cond.methodLink RL 141 yX10_purpose ∈ pw_T := pw_in (tb_5 (List.mem_of_getElem? (i := 135) (by rfl))) (by decide +kernel)
set_option maxRecDepth 20000 in
theorem mw_5_139 : Cond.methodLink RX10 368 yX10_findPurpose ∈ pw_T := pw_in (tb_5 (List.mem_of_getElem? (i := 139) (by rfl))) (by decide +kernel)
set_option maxRecDepth 20000 in
theorem mw_5_143 : Cond.methodLink RL 146 yX10_waits ∈ pw_T := pw_in (tb_5 (List.mem_of_getElem? (i := 143) (by rfl))) (by decide +kernel)
set_option maxRecDepth 20000 in
theorem mw_5_147 : Cond.methodLink RL 150 yX10_keep ∈ pw_T := pw_in (tb_5 (List.mem_of_getElem? (i := 147) (by rfl))) (by decide +kernel)
set_option maxRecDepth 20000 in
theorem mw_5_151 : Cond.methodLink RL 154 yX10_back ∈ pw_T := pw_in (tb_5 (List.mem_of_getElem? (i := 151) (by rfl))) (by decide +kernel)
set_option maxRecDepth 20000 in
theorem mw_5_155 : Cond.methodLink RL 158 yX10_count ∈ pw_T := pw_in (tb_5 (List.mem_of_getElem? (i := 155) (by rfl))) (by decide +kernel)
set_option maxRecDepth 20000 in
theorem mw_5_159 : Cond.methodLink RX10 380 yX5_knownCount ∈ pw_T := pw_in (tb_5 (List.mem_of_getElem? (i := 159) (by rfl))) (by decide +kernel)
set_option maxRecDepth 20000 in
theorem mw_5_160 : Cond.methodLink RL 39 yL_look ∈ pw_T := pw_in (tb_5 (List.mem_of_getElem? (i := 160) (by rfl))) (by decide +kernel)
set_option maxRecDepth 20000 in
theorem mw_5_165 : Cond.methodLink RL 7 yX10_look ∈ pw_T := pw_in (tb_5 (List.mem_of_getElem? (i := 165) (by rfl))) (by decide +kernel)
set_option maxRecDepth 20000 in
theorem mw_6_11 : Cond.classLink RL 18 RX11 ∈ pw_T := pw_in (tb_6 (List.mem_of_getElem? (i := 11) (by rfl))) (by decide +kernel)
set_option maxRecDepth 20000 in
theorem mw_6_13 : Cond.methodLink RL 20 yX11_init ∈ pw_T := pw_in (tb_6 (List.mem_of_getElem? (i := 13) (by rfl))) (by decide +kernel)
set_option maxRecDepth 20000 in
theorem mw_6_16 : Cond.methodLink RX11 3 objectInit ∈ pw_T := pw_in (tb_6 (List.mem_of_getElem? (i := 16) (by rfl))) (by decide +kernel)
set_option maxRecDepth 20000 in
theorem mw_6_17 : Cond.fieldLink RX11 143 "PassedClocksModel" "thrown" "I" ∈ pw_T := pw_in (tb_6 (List.mem_of_getElem? (i := 17) (by rfl))) (by decide +kernel)
set_option maxRecDepth 20000 in
theorem mw_6_18 : Cond.fieldLink RX11 9 "PassedClocksModel" "tape" "[I" ∈ pw_T := pw_in (tb_6 (List.mem_of_getElem? (i := 18) (by rfl))) (by decide +kernel)
set_option maxRecDepth 20000 in
theorem mw_6_19 : Cond.fieldLink RX11 146 "PassedClocksModel" "taped" "I" ∈ pw_T := pw_in (tb_6 (List.mem_of_getElem? (i := 19) (by rfl))) (by decide +kernel)
set_option maxRecDepth 20000 in
theorem mw_6_20 : Cond.fieldLink RX11 15 "PassedClocksModel" "number" "[I" ∈ pw_T := pw_in (tb_6 (List.mem_of_getElem? (i := 20) (by rfl))) (by decide +kernel)
set_option maxRecDepth 20000 in
theorem mw_6_21 : Cond.fieldLink RX11 18 "PassedClocksModel" "clockName" "[I" ∈ pw_T := pw_in (tb_6 (List.mem_of_getElem? (i := 21) (by rfl))) (by decide +kernel)
set_option maxRecDepth 20000 in
theorem mw_6_22 : Cond.fieldLink RX11 21 "PassedClocksModel" "clockOff" "[I" ∈ pw_T := pw_in (tb_6 (List.mem_of_getElem? (i := 22) (by rfl))) (by decide +kernel)
set_option maxRecDepth 20000 in
theorem mw_6_23 : Cond.fieldLink RX11 24 "PassedClocksModel" "clockGain" "[I" ∈ pw_T := pw_in (tb_6 (List.mem_of_getElem? (i := 23) (by rfl))) (by decide +kernel)
set_option maxRecDepth 20000 in
theorem mw_6_24 : Cond.fieldLink RX11 27 "PassedClocksModel" "clockRough" "[I" ∈ pw_T := pw_in (tb_6 (List.mem_of_getElem? (i := 24) (by rfl))) (by decide +kernel)
set_option maxRecDepth 20000 in
theorem mw_6_25 : Cond.fieldLink RX11 30 "PassedClocksModel" "personName" "[I" ∈ pw_T := pw_in (tb_6 (List.mem_of_getElem? (i := 25) (by rfl))) (by decide +kernel)
set_option maxRecDepth 20000 in
theorem mw_6_26 : Cond.fieldLink RX11 33 "PassedClocksModel" "personOff" "[I" ∈ pw_T := pw_in (tb_6 (List.mem_of_getElem? (i := 26) (by rfl))) (by decide +kernel)
set_option maxRecDepth 20000 in
theorem mw_6_27 : Cond.fieldLink RX11 36 "PassedClocksModel" "personGain" "[I" ∈ pw_T := pw_in (tb_6 (List.mem_of_getElem? (i := 27) (by rfl))) (by decide +kernel)
set_option maxRecDepth 20000 in
theorem mw_6_28 : Cond.fieldLink RX11 39 "PassedClocksModel" "personRough" "[I" ∈ pw_T := pw_in (tb_6 (List.mem_of_getElem? (i := 28) (by rfl))) (by decide +kernel)
set_option maxRecDepth 20000 in
theorem mw_6_29 : Cond.fieldLink RX11 42 "PassedClocksModel" "custom" "[I" ∈ pw_T := pw_in (tb_6 (List.mem_of_getElem? (i := 29) (by rfl))) (by decide +kernel)
set_option maxRecDepth 20000 in
theorem mw_6_30 : Cond.fieldLink RX11 45 "PassedClocksModel" "customA" "[I" ∈ pw_T := pw_in (tb_6 (List.mem_of_getElem? (i := 30) (by rfl))) (by decide +kernel)
set_option maxRecDepth 20000 in
theorem mw_6_31 : Cond.fieldLink RX11 48 "PassedClocksModel" "customB" "[I" ∈ pw_T := pw_in (tb_6 (List.mem_of_getElem? (i := 31) (by rfl))) (by decide +kernel)
set_option maxRecDepth 20000 in
theorem mw_6_32 : Cond.fieldLink RX11 51 "PassedClocksModel" "ruleFrom" "[I" ∈ pw_T := pw_in (tb_6 (List.mem_of_getElem? (i := 32) (by rfl))) (by decide +kernel)
set_option maxRecDepth 20000 in
theorem mw_6_33 : Cond.fieldLink RX11 54 "PassedClocksModel" "ruleTo" "[I" ∈ pw_T := pw_in (tb_6 (List.mem_of_getElem? (i := 33) (by rfl))) (by decide +kernel)
set_option maxRecDepth 20000 in
theorem mw_6_34 : Cond.fieldLink RX11 57 "PassedClocksModel" "roundOf" "[I" ∈ pw_T := pw_in (tb_6 (List.mem_of_getElem? (i := 34) (by rfl))) (by decide +kernel)
set_option maxRecDepth 20000 in
theorem mw_6_35 : Cond.fieldLink RX11 60 "PassedClocksModel" "roundAt" "[I" ∈ pw_T := pw_in (tb_6 (List.mem_of_getElem? (i := 35) (by rfl))) (by decide +kernel)
set_option maxRecDepth 20000 in
theorem mw_6_36 : Cond.fieldLink RX11 63 "PassedClocksModel" "roundHour" "[I" ∈ pw_T := pw_in (tb_6 (List.mem_of_getElem? (i := 36) (by rfl))) (by decide +kernel)
set_option maxRecDepth 20000 in
theorem mw_6_37 : Cond.fieldLink RX11 66 "PassedClocksModel" "gunAt" "[I" ∈ pw_T := pw_in (tb_6 (List.mem_of_getElem? (i := 37) (by rfl))) (by decide +kernel)
set_option maxRecDepth 20000 in
theorem mw_6_38 : Cond.fieldLink RX11 69 "PassedClocksModel" "gunHour" "[I" ∈ pw_T := pw_in (tb_6 (List.mem_of_getElem? (i := 38) (by rfl))) (by decide +kernel)
set_option maxRecDepth 20000 in
theorem mw_6_39 : Cond.fieldLink RX11 72 "PassedClocksModel" "knotSort" "[I" ∈ pw_T := pw_in (tb_6 (List.mem_of_getElem? (i := 39) (by rfl))) (by decide +kernel)
set_option maxRecDepth 20000 in
theorem mw_6_40 : Cond.fieldLink RX11 75 "PassedClocksModel" "knotValue" "[I" ∈ pw_T := pw_in (tb_6 (List.mem_of_getElem? (i := 40) (by rfl))) (by decide +kernel)
set_option maxRecDepth 20000 in
theorem mw_6_41 : Cond.fieldLink RX11 245 "PassedClocksModel" "lines" "I" ∈ pw_T := pw_in (tb_6 (List.mem_of_getElem? (i := 41) (by rfl))) (by decide +kernel)
set_option maxRecDepth 20000 in
theorem mw_6_42 : Cond.fieldLink RX11 152 "PassedClocksModel" "size" "I" ∈ pw_T := pw_in (tb_6 (List.mem_of_getElem? (i := 42) (by rfl))) (by decide +kernel)
set_option maxRecDepth 20000 in
theorem mw_6_43 : Cond.fieldLink RX11 149 "PassedClocksModel" "at" "I" ∈ pw_T := pw_in (tb_6 (List.mem_of_getElem? (i := 43) (by rfl))) (by decide +kernel)
set_option maxRecDepth 20000 in
theorem mw_6_44 : Cond.fieldLink RX11 159 "PassedClocksModel" "place" "I" ∈ pw_T := pw_in (tb_6 (List.mem_of_getElem? (i := 44) (by rfl))) (by decide +kernel)
set_option maxRecDepth 20000 in
theorem mw_6_45 : Cond.fieldLink RX11 162 "PassedClocksModel" "sort" "I" ∈ pw_T := pw_in (tb_6 (List.mem_of_getElem? (i := 45) (by rfl))) (by decide +kernel)
set_option maxRecDepth 20000 in
theorem mw_6_46 : Cond.fieldLink RX11 172 "PassedClocksModel" "value" "I" ∈ pw_T := pw_in (tb_6 (List.mem_of_getElem? (i := 46) (by rfl))) (by decide +kernel)
set_option maxRecDepth 20000 in
theorem mw_6_47 : Cond.fieldLink RX11 197 "PassedClocksModel" "fault" "I" ∈ pw_T := pw_in (tb_6 (List.mem_of_getElem? (i := 47) (by rfl))) (by decide +kernel)
set_option maxRecDepth 20000 in
theorem mw_6_48 : Cond.fieldLink RX11 200 "PassedClocksModel" "faultPlace" "I" ∈ pw_T := pw_in (tb_6 (List.mem_of_getElem? (i := 48) (by rfl))) (by decide +kernel)
set_option maxRecDepth 20000 in
theorem mw_6_49 : Cond.fieldLink RX11 288 "PassedClocksModel" "lastFault" "I" ∈ pw_T := pw_in (tb_6 (List.mem_of_getElem? (i := 49) (by rfl))) (by decide +kernel)
set_option maxRecDepth 20000 in
theorem mw_6_50 : Cond.fieldLink RX11 78 "PassedClocksModel" "lastPlace" "I" ∈ pw_T := pw_in (tb_6 (List.mem_of_getElem? (i := 50) (by rfl))) (by decide +kernel)
set_option maxRecDepth 20000 in
theorem mw_6_51 : Cond.fieldLink RX11 282 "PassedClocksModel" "open" "I" ∈ pw_T := pw_in (tb_6 (List.mem_of_getElem? (i := 51) (by rfl))) (by decide +kernel)
set_option maxRecDepth 20000 in
theorem mw_6_52 : Cond.fieldLink RX11 257 "PassedClocksModel" "counted" "I" ∈ pw_T := pw_in (tb_6 (List.mem_of_getElem? (i := 52) (by rfl))) (by decide +kernel)
set_option maxRecDepth 20000 in
theorem mw_6_53 : Cond.fieldLink RX11 324 "PassedClocksModel" "tryWhat" "I" ∈ pw_T := pw_in (tb_6 (List.mem_of_getElem? (i := 53) (by rfl))) (by decide +kernel)
set_option maxRecDepth 20000 in
theorem mw_6_54 : Cond.fieldLink RX11 327 "PassedClocksModel" "tryAt" "I" ∈ pw_T := pw_in (tb_6 (List.mem_of_getElem? (i := 54) (by rfl))) (by decide +kernel)
set_option maxRecDepth 20000 in
theorem mw_6_55 : Cond.fieldLink RX11 330 "PassedClocksModel" "rightSet" "I" ∈ pw_T := pw_in (tb_6 (List.mem_of_getElem? (i := 55) (by rfl))) (by decide +kernel)
set_option maxRecDepth 20000 in
theorem mw_6_56 : Cond.fieldLink RX11 333 "PassedClocksModel" "movedThing" "I" ∈ pw_T := pw_in (tb_6 (List.mem_of_getElem? (i := 56) (by rfl))) (by decide +kernel)
set_option maxRecDepth 20000 in
theorem mw_6_57 : Cond.fieldLink RX11 336 "PassedClocksModel" "movedBy" "I" ∈ pw_T := pw_in (tb_6 (List.mem_of_getElem? (i := 57) (by rfl))) (by decide +kernel)
set_option maxRecDepth 20000 in
theorem mw_6_58 : Cond.fieldLink RX11 339 "PassedClocksModel" "oftenClock" "I" ∈ pw_T := pw_in (tb_6 (List.mem_of_getElem? (i := 58) (by rfl))) (by decide +kernel)
set_option maxRecDepth 20000 in
theorem mw_6_59 : Cond.fieldLink RX11 342 "PassedClocksModel" "oftenBy" "I" ∈ pw_T := pw_in (tb_6 (List.mem_of_getElem? (i := 59) (by rfl))) (by decide +kernel)
set_option maxRecDepth 20000 in
theorem mw_6_60 : Cond.fieldLink RX11 345 "PassedClocksModel" "purposePerson" "I" ∈ pw_T := pw_in (tb_6 (List.mem_of_getElem? (i := 60) (by rfl))) (by decide +kernel)
set_option maxRecDepth 20000 in
theorem mw_6_61 : Cond.fieldLink RX11 348 "PassedClocksModel" "purposeClock" "I" ∈ pw_T := pw_in (tb_6 (List.mem_of_getElem? (i := 61) (by rfl))) (by decide +kernel)
set_option maxRecDepth 20000 in
theorem mw_6_62 : Cond.fieldLink RX11 351 "PassedClocksModel" "purposeHour" "I" ∈ pw_T := pw_in (tb_6 (List.mem_of_getElem? (i := 62) (by rfl))) (by decide +kernel)
set_option maxRecDepth 20000 in
theorem mw_6_63 : Cond.fieldLink RX11 82 "PassedClocksModel" "start" "[I" ∈ pw_T := pw_in (tb_6 (List.mem_of_getElem? (i := 63) (by rfl))) (by decide +kernel)
set_option maxRecDepth 20000 in
theorem mw_6_64 : Cond.fieldLink RX11 85 "PassedClocksModel" "off" "[I" ∈ pw_T := pw_in (tb_6 (List.mem_of_getElem? (i := 64) (by rfl))) (by decide +kernel)
set_option maxRecDepth 20000 in
theorem mw_6_65 : Cond.fieldLink RX11 88 "PassedClocksModel" "last" "[I" ∈ pw_T := pw_in (tb_6 (List.mem_of_getElem? (i := 65) (by rfl))) (by decide +kernel)
set_option maxRecDepth 20000 in
theorem mw_6_66 : Cond.fieldLink RX11 91 "PassedClocksModel" "passed" "[I" ∈ pw_T := pw_in (tb_6 (List.mem_of_getElem? (i := 66) (by rfl))) (by decide +kernel)
set_option maxRecDepth 20000 in
theorem mw_6_67 : Cond.fieldLink RX11 94 "PassedClocksModel" "kept" "[I" ∈ pw_T := pw_in (tb_6 (List.mem_of_getElem? (i := 67) (by rfl))) (by decide +kernel)
set_option maxRecDepth 20000 in
theorem mw_6_68 : Cond.fieldLink RX11 97 "PassedClocksModel" "keptMany" "[I" ∈ pw_T := pw_in (tb_6 (List.mem_of_getElem? (i := 68) (by rfl))) (by decide +kernel)
set_option maxRecDepth 20000 in
theorem mw_6_69 : Cond.fieldLink RX11 308 "PassedClocksModel" "next" "I" ∈ pw_T := pw_in (tb_6 (List.mem_of_getElem? (i := 69) (by rfl))) (by decide +kernel)
set_option maxRecDepth 20000 in
theorem mw_6_70 : Cond.fieldLink RX11 311 "PassedClocksModel" "passings" "I" ∈ pw_T := pw_in (tb_6 (List.mem_of_getElem? (i := 70) (by rfl))) (by decide +kernel)
set_option maxRecDepth 20000 in
theorem mw_6_71 : Cond.fieldLink RX11 100 "PassedClocksModel" "history" "[I" ∈ pw_T := pw_in (tb_6 (List.mem_of_getElem? (i := 71) (by rfl))) (by decide +kernel)
set_option maxRecDepth 20000 in
theorem mw_6_72 : Cond.fieldLink RX11 103 "PassedClocksModel" "names" "[J" ∈ pw_T := pw_in (tb_6 (List.mem_of_getElem? (i := 72) (by rfl))) (by decide +kernel)
set_option maxRecDepth 20000 in
theorem mw_6_73 : Cond.fieldLink RX11 107 "PassedClocksModel" "worked" "[J" ∈ pw_T := pw_in (tb_6 (List.mem_of_getElem? (i := 73) (by rfl))) (by decide +kernel)
set_option maxRecDepth 20000 in
theorem mw_6_74 : Cond.fieldLink RX11 399 "PassedClocksModel" "workedMany" "I" ∈ pw_T := pw_in (tb_6 (List.mem_of_getElem? (i := 74) (by rfl))) (by decide +kernel)
set_option maxRecDepth 20000 in
theorem mw_6_75 : Cond.fieldLink RX11 295 "PassedClocksModel" "readings" "I" ∈ pw_T := pw_in (tb_6 (List.mem_of_getElem? (i := 75) (by rfl))) (by decide +kernel)
set_option maxRecDepth 20000 in
theorem mw_6_76 : Cond.fieldLink RX11 110 "PassedClocksModel" "knownBy" "I" ∈ pw_T := pw_in (tb_6 (List.mem_of_getElem? (i := 76) (by rfl))) (by decide +kernel)
set_option maxRecDepth 20000 in
theorem mw_6_77 : Cond.fieldLink RX11 113 "PassedClocksModel" "readThing" "[I" ∈ pw_T := pw_in (tb_6 (List.mem_of_getElem? (i := 77) (by rfl))) (by decide +kernel)
set_option maxRecDepth 20000 in
theorem mw_6_78 : Cond.fieldLink RX11 116 "PassedClocksModel" "readHour" "[I" ∈ pw_T := pw_in (tb_6 (List.mem_of_getElem? (i := 78) (by rfl))) (by decide +kernel)
set_option maxRecDepth 20000 in
theorem mw_6_79 : Cond.fieldLink RX11 119 "PassedClocksModel" "readLow" "[I" ∈ pw_T := pw_in (tb_6 (List.mem_of_getElem? (i := 79) (by rfl))) (by decide +kernel)
set_option maxRecDepth 20000 in
theorem mw_6_80 : Cond.fieldLink RX11 122 "PassedClocksModel" "readHigh" "[I" ∈ pw_T := pw_in (tb_6 (List.mem_of_getElem? (i := 80) (by rfl))) (by decide +kernel)
set_option maxRecDepth 20000 in
theorem mw_6_81 : Cond.fieldLink RX11 298 "PassedClocksModel" "hasImage" "Z" ∈ pw_T := pw_in (tb_6 (List.mem_of_getElem? (i := 81) (by rfl))) (by decide +kernel)
set_option maxRecDepth 20000 in
theorem mw_6_82 : Cond.fieldLink RX11 505 "PassedClocksModel" "imageNext" "I" ∈ pw_T := pw_in (tb_6 (List.mem_of_getElem? (i := 82) (by rfl))) (by decide +kernel)
set_option maxRecDepth 20000 in
theorem mw_6_83 : Cond.fieldLink RX11 508 "PassedClocksModel" "imagePassings" "I" ∈ pw_T := pw_in (tb_6 (List.mem_of_getElem? (i := 83) (by rfl))) (by decide +kernel)
set_option maxRecDepth 20000 in
theorem mw_6_84 : Cond.fieldLink RX11 125 "PassedClocksModel" "imageOff" "[I" ∈ pw_T := pw_in (tb_6 (List.mem_of_getElem? (i := 84) (by rfl))) (by decide +kernel)
set_option maxRecDepth 20000 in
theorem mw_6_85 : Cond.fieldLink RX11 128 "PassedClocksModel" "imageLast" "[I" ∈ pw_T := pw_in (tb_6 (List.mem_of_getElem? (i := 85) (by rfl))) (by decide +kernel)
set_option maxRecDepth 20000 in
theorem mw_6_86 : Cond.fieldLink RX11 131 "PassedClocksModel" "imagePassed" "[I" ∈ pw_T := pw_in (tb_6 (List.mem_of_getElem? (i := 86) (by rfl))) (by decide +kernel)
set_option maxRecDepth 20000 in
theorem mw_6_87 : Cond.fieldLink RX11 134 "PassedClocksModel" "imageKept" "[I" ∈ pw_T := pw_in (tb_6 (List.mem_of_getElem? (i := 87) (by rfl))) (by decide +kernel)
set_option maxRecDepth 20000 in
theorem mw_6_88 : Cond.fieldLink RX11 137 "PassedClocksModel" "imageMany" "[I" ∈ pw_T := pw_in (tb_6 (List.mem_of_getElem? (i := 88) (by rfl))) (by decide +kernel)
set_option maxRecDepth 20000 in
theorem mw_6_89 : Cond.fieldLink RX11 140 "PassedClocksModel" "imageHistory" "[I" ∈ pw_T := pw_in (tb_6 (List.mem_of_getElem? (i := 89) (by rfl))) (by decide +kernel)
set_option maxRecDepth 20000 in
theorem mw_6_237 : Cond.methodLink RL 25 yX11_feed ∈ pw_T := pw_in (tb_6 (List.mem_of_getElem? (i := 237) (by rfl))) (by decide +kernel)
set_option maxRecDepth 20000 in
theorem mw_7_1 : Cond.methodLink RL 30 yX11_text ∈ pw_T := pw_in (tb_7 (List.mem_of_getElem? (i := 1) (by rfl))) (by decide +kernel)
set_option maxRecDepth 20000 in
theorem mw_7_5 : Cond.methodLink RX11 203 yX11_token ∈ pw_T := pw_in (tb_7 (List.mem_of_getElem? (i := 5) (by rfl))) (by decide +kernel)
set_option maxRecDepth 20000 in
theorem mw_7_9 : Cond.methodLink RX11 155 yX11_here ∈ pw_T := pw_in (tb_7 (List.mem_of_getElem? (i := 9) (by rfl))) (by decide +kernel)
set_option maxRecDepth 20000 in
theorem mw_7_13 : Cond.methodLink RX11 165 yX11_isSmall ∈ pw_T := pw_in (tb_7 (List.mem_of_getElem? (i := 13) (by rfl))) (by decide +kernel)
set_option maxRecDepth 20000 in
theorem mw_7_16 : Cond.methodLink RX11 169 yX11_word ∈ pw_T := pw_in (tb_7 (List.mem_of_getElem? (i := 16) (by rfl))) (by decide +kernel)
set_option maxRecDepth 20000 in
theorem mw_7_21 : Cond.methodLink RX11 188 yJ0_length_8abf5 ∈ pw_T := pw_in (tb_7 (List.mem_of_getElem? (i := 21) (by rfl))) (by decide +kernel)
set_option maxRecDepth 20000 in
theorem mw_7_22 : Cond.methodLink RX11 193 yJ0_charAt_5068e ∈ pw_T := pw_in (tb_7 (List.mem_of_getElem? (i := 22) (by rfl))) (by decide +kernel)
set_option maxRecDepth 20000 in
theorem mw_7_23 : Cond.methodLink RX11 175 yX11_name ∈ pw_T := pw_in (tb_7 (List.mem_of_getElem? (i := 23) (by rfl))) (by decide +kernel)
set_option maxRecDepth 20000 in
theorem mw_7_27 : Cond.methodLink RX11 178 yX11_isDigit ∈ pw_T := pw_in (tb_7 (List.mem_of_getElem? (i := 27) (by rfl))) (by decide +kernel)
set_option maxRecDepth 20000 in
theorem mw_7_30 : Cond.constant RX11 181 (99999) ∈ pw_T := pw_in (tb_7 (List.mem_of_getElem? (i := 30) (by rfl))) (by decide +kernel)
set_option maxRecDepth 20000 in
theorem mw_7_31 : Cond.methodLink RX11 182 yX11_sign ∈ pw_T := pw_in (tb_7 (List.mem_of_getElem? (i := 31) (by rfl))) (by decide +kernel)
set_option maxRecDepth 20000 in
theorem mw_7_35 : Cond.methodLink RX11 285 yX11_line ∈ pw_T := pw_in (tb_7 (List.mem_of_getElem? (i := 35) (by rfl))) (by decide +kernel)
set_option maxRecDepth 20000 in
theorem mw_7_39 : Cond.methodLink RX11 206 yX11_wrong0 ∈ pw_T := pw_in (tb_7 (List.mem_of_getElem? (i := 39) (by rfl))) (by decide +kernel)
set_option maxRecDepth 20000 in
theorem mw_7_43 : Cond.methodLink RX11 220 yX11_fresher ∈ pw_T := pw_in (tb_7 (List.mem_of_getElem? (i := 43) (by rfl))) (by decide +kernel)
set_option maxRecDepth 20000 in
theorem mw_7_47 : Cond.methodLink RX11 224 yX11_fresh ∈ pw_T := pw_in (tb_7 (List.mem_of_getElem? (i := 47) (by rfl))) (by decide +kernel)
set_option maxRecDepth 20000 in
theorem mw_7_51 : Cond.methodLink RX11 216 yX11_found ∈ pw_T := pw_in (tb_7 (List.mem_of_getElem? (i := 51) (by rfl))) (by decide +kernel)
set_option maxRecDepth 20000 in
theorem mw_7_54 : Cond.constant RX11 228 (36000) ∈ pw_T := pw_in (tb_7 (List.mem_of_getElem? (i := 54) (by rfl))) (by decide +kernel)
set_option maxRecDepth 20000 in
theorem mw_7_55 : Cond.methodLink RX11 229 yX11_signed ∈ pw_T := pw_in (tb_7 (List.mem_of_getElem? (i := 55) (by rfl))) (by decide +kernel)
set_option maxRecDepth 20000 in
theorem mw_7_59 : Cond.methodLink RX11 209 yX11_isSign ∈ pw_T := pw_in (tb_7 (List.mem_of_getElem? (i := 59) (by rfl))) (by decide +kernel)
set_option maxRecDepth 20000 in
theorem mw_7_63 : Cond.methodLink RX11 212 yX11_numeral ∈ pw_T := pw_in (tb_7 (List.mem_of_getElem? (i := 63) (by rfl))) (by decide +kernel)
set_option maxRecDepth 20000 in
theorem mw_7_67 : Cond.methodLink RX11 232 yX11_more ∈ pw_T := pw_in (tb_7 (List.mem_of_getElem? (i := 67) (by rfl))) (by decide +kernel)
set_option maxRecDepth 20000 in
theorem mw_7_71 : Cond.methodLink RX11 248 yX11_isWord ∈ pw_T := pw_in (tb_7 (List.mem_of_getElem? (i := 71) (by rfl))) (by decide +kernel)
set_option maxRecDepth 20000 in
theorem mw_7_75 : Cond.methodLink RX11 251 yX11_goOn ∈ pw_T := pw_in (tb_7 (List.mem_of_getElem? (i := 75) (by rfl))) (by decide +kernel)
set_option maxRecDepth 20000 in
theorem mw_7_79 : Cond.methodLink RX11 254 yX11_expression ∈ pw_T := pw_in (tb_7 (List.mem_of_getElem? (i := 79) (by rfl))) (by decide +kernel)
set_option maxRecDepth 20000 in
theorem mw_7_83 : Cond.methodLink RX11 260 yX11_conjunction ∈ pw_T := pw_in (tb_7 (List.mem_of_getElem? (i := 83) (by rfl))) (by decide +kernel)
set_option maxRecDepth 20000 in
theorem mw_7_87 : Cond.methodLink RX11 270 yX11_negation ∈ pw_T := pw_in (tb_7 (List.mem_of_getElem? (i := 87) (by rfl))) (by decide +kernel)
set_option maxRecDepth 20000 in
theorem mw_7_91 : Cond.methodLink RX11 263 yX11_knot ∈ pw_T := pw_in (tb_7 (List.mem_of_getElem? (i := 91) (by rfl))) (by decide +kernel)
set_option maxRecDepth 20000 in
theorem mw_7_95 : Cond.methodLink RX11 266 yX11_puts ∈ pw_T := pw_in (tb_7 (List.mem_of_getElem? (i := 95) (by rfl))) (by decide +kernel)
set_option maxRecDepth 20000 in
theorem mw_7_99 : Cond.methodLink RX11 242 yX11_oneMore ∈ pw_T := pw_in (tb_7 (List.mem_of_getElem? (i := 99) (by rfl))) (by decide +kernel)
set_option maxRecDepth 20000 in
theorem mw_7_103 : Cond.methodLink RX11 273 yX11_sum ∈ pw_T := pw_in (tb_7 (List.mem_of_getElem? (i := 103) (by rfl))) (by decide +kernel)
set_option maxRecDepth 20000 in
theorem mw_7_107 : Cond.methodLink RX11 276 yX11_product ∈ pw_T := pw_in (tb_7 (List.mem_of_getElem? (i := 107) (by rfl))) (by decide +kernel)
set_option maxRecDepth 20000 in
theorem mw_7_111 : Cond.methodLink RX11 279 yX11_primary ∈ pw_T := pw_in (tb_7 (List.mem_of_getElem? (i := 111) (by rfl))) (by decide +kernel)
set_option maxRecDepth 20000 in
theorem mw_7_115 : Cond.methodLink RX11 236 yX11_personLine ∈ pw_T := pw_in (tb_7 (List.mem_of_getElem? (i := 115) (by rfl))) (by decide +kernel)
set_option maxRecDepth 20000 in
theorem mw_7_119 : Cond.methodLink RX11 239 yX11_ahead ∈ pw_T := pw_in (tb_7 (List.mem_of_getElem? (i := 119) (by rfl))) (by decide +kernel)
set_option maxRecDepth 20000 in
theorem mw_7_123 : Cond.methodLink RX11 291 yX11_half ∈ pw_T := pw_in (tb_7 (List.mem_of_getElem? (i := 123) (by rfl))) (by decide +kernel)
set_option maxRecDepth 20000 in
theorem mw_7_126 : Cond.methodLink RX11 302 yX11_plain ∈ pw_T := pw_in (tb_7 (List.mem_of_getElem? (i := 126) (by rfl))) (by decide +kernel)
set_option maxRecDepth 20000 in
theorem mw_7_130 : Cond.methodLink RX11 354 yX11_starts ∈ pw_T := pw_in (tb_7 (List.mem_of_getElem? (i := 130) (by rfl))) (by decide +kernel)
set_option maxRecDepth 20000 in
theorem mw_7_134 : Cond.methodLink RX11 314 yX11_things ∈ pw_T := pw_in (tb_7 (List.mem_of_getElem? (i := 134) (by rfl))) (by decide +kernel)
set_option maxRecDepth 20000 in
theorem mw_7_138 : Cond.methodLink RX11 305 yX11_begins ∈ pw_T := pw_in (tb_7 (List.mem_of_getElem? (i := 138) (by rfl))) (by decide +kernel)
set_option maxRecDepth 20000 in
theorem mw_7_142 : Cond.methodLink RX11 357 yX11_isRight ∈ pw_T := pw_in (tb_7 (List.mem_of_getElem? (i := 142) (by rfl))) (by decide +kernel)
set_option maxRecDepth 20000 in
theorem mw_7_146 : Cond.methodLink RL 34 yX11_fault ∈ pw_T := pw_in (tb_7 (List.mem_of_getElem? (i := 146) (by rfl))) (by decide +kernel)
set_option maxRecDepth 20000 in
theorem mw_7_150 : Cond.methodLink RL 38 yX11_named ∈ pw_T := pw_in (tb_7 (List.mem_of_getElem? (i := 150) (by rfl))) (by decide +kernel)
set_option maxRecDepth 20000 in
theorem mw_7_154 : Cond.methodLink RL 44 yX11_look ∈ pw_T := pw_in (tb_7 (List.mem_of_getElem? (i := 154) (by rfl))) (by decide +kernel)
set_option maxRecDepth 20000 in
theorem mw_7_158 : Cond.methodLink RX11 317 yX11_isPerson ∈ pw_T := pw_in (tb_7 (List.mem_of_getElem? (i := 158) (by rfl))) (by decide +kernel)
set_option maxRecDepth 20000 in
theorem mw_7_162 : Cond.methodLink RL 48 yX11_clock ∈ pw_T := pw_in (tb_7 (List.mem_of_getElem? (i := 162) (by rfl))) (by decide +kernel)
set_option maxRecDepth 20000 in
theorem mw_7_166 : Cond.methodLink RX11 320 yX11_isClock ∈ pw_T := pw_in (tb_7 (List.mem_of_getElem? (i := 166) (by rfl))) (by decide +kernel)
set_option maxRecDepth 20000 in
theorem mw_7_170 : Cond.constant RX11 323 (-2147483648) ∈ pw_T := pw_in (tb_7 (List.mem_of_getElem? (i := 170) (by rfl))) (by decide +kernel)
set_option maxRecDepth 20000 in
theorem mw_7_171 : Cond.methodLink RL 52 yX11_round ∈ pw_T := pw_in (tb_7 (List.mem_of_getElem? (i := 171) (by rfl))) (by decide +kernel)
set_option maxRecDepth 20000 in
theorem mw_7_175 : Cond.methodLink RL 88 yX11_rule ∈ pw_T := pw_in (tb_7 (List.mem_of_getElem? (i := 175) (by rfl))) (by decide +kernel)
set_option maxRecDepth 20000 in
theorem mw_7_179 : Cond.constant RX11 423 (-99999) ∈ pw_T := pw_in (tb_7 (List.mem_of_getElem? (i := 179) (by rfl))) (by decide +kernel)
set_option maxRecDepth 20000 in
theorem mw_7_180 : Cond.constantLong RX11 426 (-9223372036854775808) ∈ pw_T := pw_in (tb_7 (List.mem_of_getElem? (i := 180) (by rfl))) (by decide +kernel)
set_option maxRecDepth 20000 in
theorem mw_7_181 : Cond.methodLink RX11 420 yX11_ruled ∈ pw_T := pw_in (tb_7 (List.mem_of_getElem? (i := 181) (by rfl))) (by decide +kernel)
set_option maxRecDepth 20000 in
theorem mw_7_185 : Cond.methodLink RX11 414 yX11_works ∈ pw_T := pw_in (tb_7 (List.mem_of_getElem? (i := 185) (by rfl))) (by decide +kernel)
set_option maxRecDepth 20000 in
theorem mw_7_189 : Cond.methodLink RX11 402 yX11_is ∈ pw_T := pw_in (tb_7 (List.mem_of_getElem? (i := 189) (by rfl))) (by decide +kernel)
set_option maxRecDepth 20000 in
theorem mw_7_192 : Cond.methodLink RX11 406 yJ9_abs_067f4 ∈ pw_T := pw_in (tb_7 (List.mem_of_getElem? (i := 192) (by rfl))) (by decide +kernel)
set_option maxRecDepth 20000 in
theorem mw_7_193 : Cond.constantLong RX11 410 (1000000000000) ∈ pw_T := pw_in (tb_7 (List.mem_of_getElem? (i := 193) (by rfl))) (by decide +kernel)
set_option maxRecDepth 20000 in
theorem mw_7_194 : Cond.constantLong RX11 412 (-1000000000000) ∈ pw_T := pw_in (tb_7 (List.mem_of_getElem? (i := 194) (by rfl))) (by decide +kernel)
set_option maxRecDepth 20000 in
theorem mw_7_195 : Cond.methodLink RL 56 yX11_hours ∈ pw_T := pw_in (tb_7 (List.mem_of_getElem? (i := 195) (by rfl))) (by decide +kernel)
set_option maxRecDepth 20000 in
theorem mw_7_199 : Cond.methodLink RX11 439 yX11_gains ∈ pw_T := pw_in (tb_7 (List.mem_of_getElem? (i := 199) (by rfl))) (by decide +kernel)
set_option maxRecDepth 20000 in
theorem mw_7_203 : Cond.methodLink RX11 373 yX11_gainOf ∈ pw_T := pw_in (tb_7 (List.mem_of_getElem? (i := 203) (by rfl))) (by decide +kernel)
set_option maxRecDepth 20000 in
theorem mw_7_207 : Cond.methodLink RX11 376 yX11_bound ∈ pw_T := pw_in (tb_7 (List.mem_of_getElem? (i := 207) (by rfl))) (by decide +kernel)
set_option maxRecDepth 20000 in
theorem mw_7_210 : Cond.constantLong RX11 360 (-1000000000) ∈ pw_T := pw_in (tb_7 (List.mem_of_getElem? (i := 210) (by rfl))) (by decide +kernel)
set_option maxRecDepth 20000 in
theorem mw_7_211 : Cond.constantLong RX11 362 (1000000000) ∈ pw_T := pw_in (tb_7 (List.mem_of_getElem? (i := 211) (by rfl))) (by decide +kernel)
set_option maxRecDepth 20000 in
theorem mw_7_212 : Cond.methodLink RX11 364 yJ9_min_f86c9 ∈ pw_T := pw_in (tb_7 (List.mem_of_getElem? (i := 212) (by rfl))) (by decide +kernel)
set_option maxRecDepth 20000 in
theorem mw_7_215 : Cond.methodLink RX11 370 yJ9_max_f86c9 ∈ pw_T := pw_in (tb_7 (List.mem_of_getElem? (i := 215) (by rfl))) (by decide +kernel)
set_option maxRecDepth 20000 in
theorem mw_7_218 : Cond.methodLink RX11 442 yX11_happens ∈ pw_T := pw_in (tb_7 (List.mem_of_getElem? (i := 218) (by rfl))) (by decide +kernel)
set_option maxRecDepth 20000 in
theorem mw_7_222 : Cond.methodLink RX11 428 yX11_isGun ∈ pw_T := pw_in (tb_7 (List.mem_of_getElem? (i := 222) (by rfl))) (by decide +kernel)
set_option maxRecDepth 20000 in
theorem mw_7_226 : Cond.methodLink RX11 432 yX11_passes ∈ pw_T := pw_in (tb_7 (List.mem_of_getElem? (i := 226) (by rfl))) (by decide +kernel)
set_option maxRecDepth 20000 in
theorem mw_7_230 : Cond.methodLink RX11 380 yX11_does ∈ pw_T := pw_in (tb_7 (List.mem_of_getElem? (i := 230) (by rfl))) (by decide +kernel)
set_option maxRecDepth 20000 in
theorem mw_7_234 : Cond.methodLink RX11 417 yX11_hasRule ∈ pw_T := pw_in (tb_7 (List.mem_of_getElem? (i := 234) (by rfl))) (by decide +kernel)
set_option maxRecDepth 20000 in
theorem mw_7_238 : Cond.methodLink RX11 384 yX11_customOf ∈ pw_T := pw_in (tb_7 (List.mem_of_getElem? (i := 238) (by rfl))) (by decide +kernel)
set_option maxRecDepth 20000 in
theorem mw_8_2 : Cond.constantLong RX11 387 (2) ∈ pw_T := pw_in (tb_8 (List.mem_of_getElem? (i := 2) (by rfl))) (by decide +kernel)
set_option maxRecDepth 20000 in
theorem mw_8_3 : Cond.methodLink RX11 389 yJ9_floorDiv_f86c9 ∈ pw_T := pw_in (tb_8 (List.mem_of_getElem? (i := 3) (by rfl))) (by decide +kernel)
set_option maxRecDepth 20000 in
theorem mw_8_6 : Cond.methodLink RX11 392 yX11_keeps ∈ pw_T := pw_in (tb_8 (List.mem_of_getElem? (i := 6) (by rfl))) (by decide +kernel)
set_option maxRecDepth 20000 in
theorem mw_8_10 : Cond.methodLink RX11 396 yX11_middleOf ∈ pw_T := pw_in (tb_8 (List.mem_of_getElem? (i := 10) (by rfl))) (by decide +kernel)
set_option maxRecDepth 20000 in
theorem mw_8_14 : Cond.methodLink RX11 452 yX11_writes ∈ pw_T := pw_in (tb_8 (List.mem_of_getElem? (i := 14) (by rfl))) (by decide +kernel)
set_option maxRecDepth 20000 in
theorem mw_8_18 : Cond.methodLink RL 60 yX11_off ∈ pw_T := pw_in (tb_8 (List.mem_of_getElem? (i := 18) (by rfl))) (by decide +kernel)
set_option maxRecDepth 20000 in
theorem mw_8_22 : Cond.methodLink RX11 455 yX11_isThing ∈ pw_T := pw_in (tb_8 (List.mem_of_getElem? (i := 22) (by rfl))) (by decide +kernel)
set_option maxRecDepth 20000 in
theorem mw_8_26 : Cond.methodLink RL 64 yX11_now ∈ pw_T := pw_in (tb_8 (List.mem_of_getElem? (i := 26) (by rfl))) (by decide +kernel)
set_option maxRecDepth 20000 in
theorem mw_8_30 : Cond.methodLink RL 68 yX11_was ∈ pw_T := pw_in (tb_8 (List.mem_of_getElem? (i := 30) (by rfl))) (by decide +kernel)
set_option maxRecDepth 20000 in
theorem mw_8_34 : Cond.methodLink RX11 458 yX11_isPast ∈ pw_T := pw_in (tb_8 (List.mem_of_getElem? (i := 34) (by rfl))) (by decide +kernel)
set_option maxRecDepth 20000 in
theorem mw_8_38 : Cond.methodLink RL 72 yX11_spread ∈ pw_T := pw_in (tb_8 (List.mem_of_getElem? (i := 38) (by rfl))) (by decide +kernel)
set_option maxRecDepth 20000 in
theorem mw_8_42 : Cond.methodLink RX11 461 yX11_spreadOf ∈ pw_T := pw_in (tb_8 (List.mem_of_getElem? (i := 42) (by rfl))) (by decide +kernel)
set_option maxRecDepth 20000 in
theorem mw_8_46 : Cond.methodLink RX11 448 yJ9_min_7cf53 ∈ pw_T := pw_in (tb_8 (List.mem_of_getElem? (i := 46) (by rfl))) (by decide +kernel)
set_option maxRecDepth 20000 in
theorem mw_8_47 : Cond.methodLink RX11 450 yJ9_max_7cf53 ∈ pw_T := pw_in (tb_8 (List.mem_of_getElem? (i := 47) (by rfl))) (by decide +kernel)
set_option maxRecDepth 20000 in
theorem mw_8_48 : Cond.methodLink RL 76 yX11_pass ∈ pw_T := pw_in (tb_8 (List.mem_of_getElem? (i := 48) (by rfl))) (by decide +kernel)
set_option maxRecDepth 20000 in
theorem mw_8_52 : Cond.methodLink RL 83 yX11_row ∈ pw_T := pw_in (tb_8 (List.mem_of_getElem? (i := 52) (by rfl))) (by decide +kernel)
set_option maxRecDepth 20000 in
theorem mw_8_56 : Cond.methodLink RX11 465 yX11_told ∈ pw_T := pw_in (tb_8 (List.mem_of_getElem? (i := 56) (by rfl))) (by decide +kernel)
set_option maxRecDepth 20000 in
theorem mw_8_59 : Cond.constantLong RX11 472 (255) ∈ pw_T := pw_in (tb_8 (List.mem_of_getElem? (i := 59) (by rfl))) (by decide +kernel)
set_option maxRecDepth 20000 in
theorem mw_8_60 : Cond.methodLink RX11 469 yX11_copies ∈ pw_T := pw_in (tb_8 (List.mem_of_getElem? (i := 60) (by rfl))) (by decide +kernel)
set_option maxRecDepth 20000 in
theorem mw_8_64 : Cond.methodLink RL 93 yX11_moved ∈ pw_T := pw_in (tb_8 (List.mem_of_getElem? (i := 64) (by rfl))) (by decide +kernel)
set_option maxRecDepth 20000 in
theorem mw_8_68 : Cond.methodLink RX11 475 yX11_isMove ∈ pw_T := pw_in (tb_8 (List.mem_of_getElem? (i := 68) (by rfl))) (by decide +kernel)
set_option maxRecDepth 20000 in
theorem mw_8_71 : Cond.constant RX11 474 (-36000) ∈ pw_T := pw_in (tb_8 (List.mem_of_getElem? (i := 71) (by rfl))) (by decide +kernel)
set_option maxRecDepth 20000 in
theorem mw_8_72 : Cond.methodLink RX11 478 yX11_runsNow ∈ pw_T := pw_in (tb_8 (List.mem_of_getElem? (i := 72) (by rfl))) (by decide +kernel)
set_option maxRecDepth 20000 in
theorem mw_8_76 : Cond.methodLink RX11 445 yX11_runs ∈ pw_T := pw_in (tb_8 (List.mem_of_getElem? (i := 76) (by rfl))) (by decide +kernel)
set_option maxRecDepth 20000 in
theorem mw_8_80 : Cond.methodLink RX11 436 yX11_isBusy ∈ pw_T := pw_in (tb_8 (List.mem_of_getElem? (i := 80) (by rfl))) (by decide +kernel)
set_option maxRecDepth 20000 in
theorem mw_8_84 : Cond.methodLink RL 97 yX11_ends ∈ pw_T := pw_in (tb_8 (List.mem_of_getElem? (i := 84) (by rfl))) (by decide +kernel)
set_option maxRecDepth 20000 in
theorem mw_8_88 : Cond.methodLink RX11 481 yX11_roughOf ∈ pw_T := pw_in (tb_8 (List.mem_of_getElem? (i := 88) (by rfl))) (by decide +kernel)
set_option maxRecDepth 20000 in
theorem mw_8_92 : Cond.methodLink RL 102 yX11_reading ∈ pw_T := pw_in (tb_8 (List.mem_of_getElem? (i := 92) (by rfl))) (by decide +kernel)
set_option maxRecDepth 20000 in
theorem mw_8_96 : Cond.constant RX11 484 (-1000000) ∈ pw_T := pw_in (tb_8 (List.mem_of_getElem? (i := 96) (by rfl))) (by decide +kernel)
set_option maxRecDepth 20000 in
theorem mw_8_97 : Cond.constant RX11 485 (1000000) ∈ pw_T := pw_in (tb_8 (List.mem_of_getElem? (i := 97) (by rfl))) (by decide +kernel)
set_option maxRecDepth 20000 in
theorem mw_8_98 : Cond.methodLink RL 107 yX11_known ∈ pw_T := pw_in (tb_8 (List.mem_of_getElem? (i := 98) (by rfl))) (by decide +kernel)
set_option maxRecDepth 20000 in
theorem mw_8_102 : Cond.methodLink RL 112 yX11_judged ∈ pw_T := pw_in (tb_8 (List.mem_of_getElem? (i := 102) (by rfl))) (by decide +kernel)
set_option maxRecDepth 20000 in
theorem mw_8_106 : Cond.methodLink RX11 489 yX11_firstWrong ∈ pw_T := pw_in (tb_8 (List.mem_of_getElem? (i := 106) (by rfl))) (by decide +kernel)
set_option maxRecDepth 20000 in
theorem mw_8_110 : Cond.methodLink RX11 486 yX11_knownMany ∈ pw_T := pw_in (tb_8 (List.mem_of_getElem? (i := 110) (by rfl))) (by decide +kernel)
set_option maxRecDepth 20000 in
theorem mw_8_114 : Cond.methodLink RL 116 yX11_wrong ∈ pw_T := pw_in (tb_8 (List.mem_of_getElem? (i := 114) (by rfl))) (by decide +kernel)
set_option maxRecDepth 20000 in
theorem mw_8_118 : Cond.methodLink RL 120 yX11_way ∈ pw_T := pw_in (tb_8 (List.mem_of_getElem? (i := 118) (by rfl))) (by decide +kernel)
set_option maxRecDepth 20000 in
theorem mw_8_122 : Cond.methodLink RL 124 yX11_tried ∈ pw_T := pw_in (tb_8 (List.mem_of_getElem? (i := 122) (by rfl))) (by decide +kernel)
set_option maxRecDepth 20000 in
theorem mw_8_126 : Cond.methodLink RX11 492 yX11_tries ∈ pw_T := pw_in (tb_8 (List.mem_of_getElem? (i := 126) (by rfl))) (by decide +kernel)
set_option maxRecDepth 20000 in
theorem mw_8_130 : Cond.methodLink RL 128 yX11_other ∈ pw_T := pw_in (tb_8 (List.mem_of_getElem? (i := 130) (by rfl))) (by decide +kernel)
set_option maxRecDepth 20000 in
theorem mw_8_134 : Cond.methodLink RL 132 yX11_agree ∈ pw_T := pw_in (tb_8 (List.mem_of_getElem? (i := 134) (by rfl))) (by decide +kernel)
set_option maxRecDepth 20000 in
theorem mw_8_138 : Cond.methodLink RX11 496 yX11_isBound ∈ pw_T := pw_in (tb_8 (List.mem_of_getElem? (i := 138) (by rfl))) (by decide +kernel)
set_option maxRecDepth 20000 in
theorem mw_8_141 : Cond.constant RX11 495 (100000) ∈ pw_T := pw_in (tb_8 (List.mem_of_getElem? (i := 141) (by rfl))) (by decide +kernel)
set_option maxRecDepth 20000 in
theorem mw_8_142 : Cond.methodLink RL 136 yX11_often ∈ pw_T := pw_in (tb_8 (List.mem_of_getElem? (i := 142) (by rfl))) (by decide +kernel)
set_option maxRecDepth 20000 in
theorem mw_8_146 : Cond.methodLink RX11 499 yX11_isNear ∈ pw_T := pw_in (tb_8 (List.mem_of_getElem? (i := 146) (by rfl))) (by decide +kernel)
set_option maxRecDepth 20000 in
theorem mw_8_150 : Cond.methodLink RL 140 yX11_fewest ∈ pw_T := pw_in (tb_8 (List.mem_of_getElem? (i := 150) (by rfl))) (by decide +kernel)
set_option maxRecDepth 20000 in
theorem mw_8_154 : Cond.methodLink RX11 502 yX11_bitsOf ∈ pw_T := pw_in (tb_8 (List.mem_of_getElem? (i := 154) (by rfl))) (by decide +kernel)
set_option maxRecDepth 20000 in
theorem mw_8_157 : Cond.methodLink RL 145 yX11_purpose ∈ pw_T := pw_in (tb_8 (List.mem_of_getElem? (i := 157) (by rfl))) (by decide +kernel)
set_option maxRecDepth 20000 in
theorem mw_8_161 : Cond.methodLink RL 149 yX11_waits ∈ pw_T := pw_in (tb_8 (List.mem_of_getElem? (i := 161) (by rfl))) (by decide +kernel)
set_option maxRecDepth 20000 in
theorem mw_8_165 : Cond.methodLink RL 153 yX11_keep ∈ pw_T := pw_in (tb_8 (List.mem_of_getElem? (i := 165) (by rfl))) (by decide +kernel)
set_option maxRecDepth 20000 in
theorem mw_8_169 : Cond.methodLink RL 157 yX11_back ∈ pw_T := pw_in (tb_8 (List.mem_of_getElem? (i := 169) (by rfl))) (by decide +kernel)
set_option maxRecDepth 20000 in
theorem mw_8_173 : Cond.methodLink RL 161 yX11_count ∈ pw_T := pw_in (tb_8 (List.mem_of_getElem? (i := 173) (by rfl))) (by decide +kernel)
set_option maxRecDepth 20000 in
theorem mw_8_177 : Cond.constantLong RL 77 (4294967295) ∈ pw_T := pw_in (tb_8 (List.mem_of_getElem? (i := 177) (by rfl))) (by decide +kernel)
set_option maxRecDepth 20000 in
theorem mw_8_195 : Cond.fieldLink RJ0 9 "java/lang/String" "value" "[B" ∈ pw_T := pw_in (tb_8 (List.mem_of_getElem? (i := 195) (by rfl))) (by decide +kernel)
set_option maxRecDepth 20000 in
theorem mw_8_196 : Cond.fieldLink RJ0 15 "java/lang/String" "coder" "B" ∈ pw_T := pw_in (tb_8 (List.mem_of_getElem? (i := 196) (by rfl))) (by decide +kernel)
set_option maxRecDepth 20000 in
theorem mw_1_0 : Cond.initialized RL ∈ pw_T := pw_in (tb_1 (List.mem_of_getElem? (i := 0) (by rfl))) (by decide +kernel)
set_option maxRecDepth 20000 in
theorem mw_1_1 : Cond.initialized RX10 ∈ pw_T := pw_in (tb_1 (List.mem_of_getElem? (i := 1) (by rfl))) (by decide +kernel)
set_option maxRecDepth 20000 in
theorem mw_1_2 : Cond.initialized RX4 ∈ pw_T := pw_in (tb_1 (List.mem_of_getElem? (i := 2) (by rfl))) (by decide +kernel)
set_option maxRecDepth 20000 in
theorem mw_1_3 : Cond.initialized RX7 ∈ pw_T := pw_in (tb_1 (List.mem_of_getElem? (i := 3) (by rfl))) (by decide +kernel)
set_option maxRecDepth 20000 in
theorem mw_1_4 : Cond.initialized RJ0 ∈ pw_T := pw_in (tb_1 (List.mem_of_getElem? (i := 4) (by rfl))) (by decide +kernel)
set_option maxRecDepth 20000 in
theorem mw_1_5 : Cond.initialized RJ1 ∈ pw_T := pw_in (tb_1 (List.mem_of_getElem? (i := 5) (by rfl))) (by decide +kernel)
set_option maxRecDepth 20000 in
theorem mw_1_6 : Cond.initialized RJ3 ∈ pw_T := pw_in (tb_1 (List.mem_of_getElem? (i := 6) (by rfl))) (by decide +kernel)
set_option maxRecDepth 20000 in
theorem mw_1_7 : Cond.initialized RJ2 ∈ pw_T := pw_in (tb_1 (List.mem_of_getElem? (i := 7) (by rfl))) (by decide +kernel)
set_option maxRecDepth 20000 in
theorem mw_1_8 : Cond.initialized RX8 ∈ pw_T := pw_in (tb_1 (List.mem_of_getElem? (i := 8) (by rfl))) (by decide +kernel)
set_option maxRecDepth 20000 in
theorem mw_1_9 : Cond.initialized RX6 ∈ pw_T := pw_in (tb_1 (List.mem_of_getElem? (i := 9) (by rfl))) (by decide +kernel)
set_option maxRecDepth 20000 in
theorem mw_1_10 : Cond.initialized RX3 ∈ pw_T := pw_in (tb_1 (List.mem_of_getElem? (i := 10) (by rfl))) (by decide +kernel)
set_option maxRecDepth 20000 in
theorem mw_1_11 : Cond.initialized RX0 ∈ pw_T := pw_in (tb_1 (List.mem_of_getElem? (i := 11) (by rfl))) (by decide +kernel)
set_option maxRecDepth 20000 in
theorem mw_1_12 : Cond.initialized RX2 ∈ pw_T := pw_in (tb_1 (List.mem_of_getElem? (i := 12) (by rfl))) (by decide +kernel)
set_option maxRecDepth 20000 in
theorem mw_1_13 : Cond.initialized RX5 ∈ pw_T := pw_in (tb_1 (List.mem_of_getElem? (i := 13) (by rfl))) (by decide +kernel)
set_option maxRecDepth 20000 in
theorem mw_1_14 : Cond.initialized RX9 ∈ pw_T := pw_in (tb_1 (List.mem_of_getElem? (i := 14) (by rfl))) (by decide +kernel)
set_option maxRecDepth 20000 in
theorem mw_1_15 : Cond.initialized RX1 ∈ pw_T := pw_in (tb_1 (List.mem_of_getElem? (i := 15) (by rfl))) (by decide +kernel)
set_option maxRecDepth 20000 in
theorem mw_1_16 : Cond.initialized RX11 ∈ pw_T := pw_in (tb_1 (List.mem_of_getElem? (i := 16) (by rfl))) (by decide +kernel)
set_option maxRecDepth 20000 in
theorem mw_1_17 : Cond.initialized RJ9 ∈ pw_T := pw_in (tb_1 (List.mem_of_getElem? (i := 17) (by rfl))) (by decide +kernel)
set_option maxRecDepth 20000 in
theorem mw_1_18 : Cond.initialized RJ7 ∈ pw_T := pw_in (tb_1 (List.mem_of_getElem? (i := 18) (by rfl))) (by decide +kernel)
set_option maxRecDepth 20000 in
theorem mw_1_19 : Cond.initialized RJ10 ∈ pw_T := pw_in (tb_1 (List.mem_of_getElem? (i := 19) (by rfl))) (by decide +kernel)
set_option maxRecDepth 20000 in
theorem mw_1_20 : Cond.initialized "java/lang/Throwable" ∈ pw_T := pw_in (tb_1 (List.mem_of_getElem? (i := 20) (by rfl))) (by decide +kernel)
set_option maxRecDepth 20000 in
theorem mw_1_21 : Cond.initialized "java/lang/Exception" ∈ pw_T := pw_in (tb_1 (List.mem_of_getElem? (i := 21) (by rfl))) (by decide +kernel)
set_option maxRecDepth 20000 in
theorem mw_1_22 : Cond.initialized "java/lang/RuntimeException" ∈ pw_T := pw_in (tb_1 (List.mem_of_getElem? (i := 22) (by rfl))) (by decide +kernel)
set_option maxRecDepth 20000 in
theorem mw_1_23 : Cond.initialized "java/lang/IndexOutOfBoundsException" ∈ pw_T := pw_in (tb_1 (List.mem_of_getElem? (i := 23) (by rfl))) (by decide +kernel)
set_option maxRecDepth 20000 in
theorem mw_1_24 : Cond.initialized "java/util/NoSuchElementException" ∈ pw_T := pw_in (tb_1 (List.mem_of_getElem? (i := 24) (by rfl))) (by decide +kernel)
set_option maxRecDepth 20000 in
theorem mw_1_25 : Cond.initialized RJ6 ∈ pw_T := pw_in (tb_1 (List.mem_of_getElem? (i := 25) (by rfl))) (by decide +kernel)
set_option maxRecDepth 20000 in
theorem mw_1_27 : Cond.instantiable RX10 15 ∈ pw_T := pw_in (tb_1 (List.mem_of_getElem? (i := 27) (by rfl))) (by decide +kernel)
set_option maxRecDepth 20000 in
theorem mw_1_29 : Cond.instanceMethod yX10_init ∈ pw_T := pw_in (tb_1 (List.mem_of_getElem? (i := 29) (by rfl))) (by decide +kernel)
set_option maxRecDepth 20000 in
theorem mw_1_30 : Cond.code yX10_init cX10_init 1 none ∈ pw_T := pw_in (tb_1 (List.mem_of_getElem? (i := 30) (by rfl))) (by decide +kernel)
set_option maxRecDepth 20000 in
theorem mw_1_32 : Cond.instanceMethod objectInit ∈ pw_T := pw_in (tb_1 (List.mem_of_getElem? (i := 32) (by rfl))) (by decide +kernel)
set_option maxRecDepth 20000 in
theorem mw_1_33 : Cond.code objectInit ⟨#[0xb1]⟩ 1 none ∈ pw_T := pw_in (tb_1 (List.mem_of_getElem? (i := 33) (by rfl))) (by decide +kernel)
set_option maxRecDepth 20000 in
theorem mw_1_35 : Cond.instantiable RX4 8 ∈ pw_T := pw_in (tb_1 (List.mem_of_getElem? (i := 35) (by rfl))) (by decide +kernel)
set_option maxRecDepth 20000 in
theorem mw_1_37 : Cond.instanceMethod yX4_init ∈ pw_T := pw_in (tb_1 (List.mem_of_getElem? (i := 37) (by rfl))) (by decide +kernel)
set_option maxRecDepth 20000 in
theorem mw_1_38 : Cond.code yX4_init cX4_init 1 none ∈ pw_T := pw_in (tb_1 (List.mem_of_getElem? (i := 38) (by rfl))) (by decide +kernel)
set_option maxRecDepth 20000 in
theorem mw_1_41 : Cond.instantiable RX7 5 ∈ pw_T := pw_in (tb_1 (List.mem_of_getElem? (i := 41) (by rfl))) (by decide +kernel)
set_option maxRecDepth 20000 in
theorem mw_1_43 : Cond.instanceMethod yX7_init ∈ pw_T := pw_in (tb_1 (List.mem_of_getElem? (i := 43) (by rfl))) (by decide +kernel)
set_option maxRecDepth 20000 in
theorem mw_1_44 : Cond.code yX7_init cX7_init 4 none ∈ pw_T := pw_in (tb_1 (List.mem_of_getElem? (i := 44) (by rfl))) (by decide +kernel)
set_option maxRecDepth 20000 in
theorem mw_1_48 : Cond.instanceMethod yJ0_length_8abf5 ∈ pw_T := pw_in (tb_1 (List.mem_of_getElem? (i := 48) (by rfl))) (by decide +kernel)
set_option maxRecDepth 20000 in
theorem mw_1_49 : Cond.selects RJ0 yJ0_length_8abf5 yJ0_length_8abf5 ∈ pw_T := pw_in (tb_1 (List.mem_of_getElem? (i := 49) (by rfl))) (by decide +kernel)
set_option maxRecDepth 20000 in
theorem mw_1_50 : Cond.code yJ0_length_8abf5 cJ0_length_8abf5 1 (some .int) ∈ pw_T := pw_in (tb_1 (List.mem_of_getElem? (i := 50) (by rfl))) (by decide +kernel)
set_option maxRecDepth 20000 in
theorem mw_1_52 : Cond.instanceMethod yJ0_coder_7d493 ∈ pw_T := pw_in (tb_1 (List.mem_of_getElem? (i := 52) (by rfl))) (by decide +kernel)
set_option maxRecDepth 20000 in
theorem mw_1_53 : Cond.selects RJ0 yJ0_coder_7d493 yJ0_coder_7d493 ∈ pw_T := pw_in (tb_1 (List.mem_of_getElem? (i := 53) (by rfl))) (by decide +kernel)
set_option maxRecDepth 20000 in
theorem mw_1_54 : Cond.code yJ0_coder_7d493 cJ0_coder_7d493 1 (some .byte) ∈ pw_T := pw_in (tb_1 (List.mem_of_getElem? (i := 54) (by rfl))) (by decide +kernel)
set_option maxRecDepth 20000 in
theorem mw_1_58 : Cond.instanceMethod yJ0_charAt_5068e ∈ pw_T := pw_in (tb_1 (List.mem_of_getElem? (i := 58) (by rfl))) (by decide +kernel)
set_option maxRecDepth 20000 in
theorem mw_1_59 : Cond.selects RJ0 yJ0_charAt_5068e yJ0_charAt_5068e ∈ pw_T := pw_in (tb_1 (List.mem_of_getElem? (i := 59) (by rfl))) (by decide +kernel)
set_option maxRecDepth 20000 in
theorem mw_1_60 : Cond.code yJ0_charAt_5068e cJ0_charAt_5068e 2 (some .char) ∈ pw_T := pw_in (tb_1 (List.mem_of_getElem? (i := 60) (by rfl))) (by decide +kernel)
set_option maxRecDepth 20000 in
theorem mw_1_62 : Cond.instanceMethod yJ0_isLatin1_aae02 ∈ pw_T := pw_in (tb_1 (List.mem_of_getElem? (i := 62) (by rfl))) (by decide +kernel)
set_option maxRecDepth 20000 in
theorem mw_1_63 : Cond.selects RJ0 yJ0_isLatin1_aae02 yJ0_isLatin1_aae02 ∈ pw_T := pw_in (tb_1 (List.mem_of_getElem? (i := 63) (by rfl))) (by decide +kernel)
set_option maxRecDepth 20000 in
theorem mw_1_64 : Cond.code yJ0_isLatin1_aae02 cJ0_isLatin1_aae02 1 (some .boolean) ∈ pw_T := pw_in (tb_1 (List.mem_of_getElem? (i := 64) (by rfl))) (by decide +kernel)
set_option maxRecDepth 20000 in
theorem mw_1_66 : Cond.static yJ1_charAt_3b067 ∈ pw_T := pw_in (tb_1 (List.mem_of_getElem? (i := 66) (by rfl))) (by decide +kernel)
set_option maxRecDepth 20000 in
theorem mw_1_67 : Cond.code yJ1_charAt_3b067 cJ1_charAt_3b067 2 (some .char) ∈ pw_T := pw_in (tb_1 (List.mem_of_getElem? (i := 67) (by rfl))) (by decide +kernel)
set_option maxRecDepth 20000 in
theorem mw_1_69 : Cond.static yJ0_checkIndex_df160 ∈ pw_T := pw_in (tb_1 (List.mem_of_getElem? (i := 69) (by rfl))) (by decide +kernel)
set_option maxRecDepth 20000 in
theorem mw_1_70 : Cond.code yJ0_checkIndex_df160 cJ0_checkIndex_df160 2 none ∈ pw_T := pw_in (tb_1 (List.mem_of_getElem? (i := 70) (by rfl))) (by decide +kernel)
set_option maxRecDepth 20000 in
theorem mw_1_74 : Cond.static yJ3_checkIndex_8e157 ∈ pw_T := pw_in (tb_1 (List.mem_of_getElem? (i := 74) (by rfl))) (by decide +kernel)
set_option maxRecDepth 20000 in
theorem mw_1_75 : Cond.code yJ3_checkIndex_8e157 cJ3_checkIndex_8e157 3 (some .int) ∈ pw_T := pw_in (tb_1 (List.mem_of_getElem? (i := 75) (by rfl))) (by decide +kernel)
set_option maxRecDepth 20000 in
theorem mw_1_77 : Cond.static yJ2_charAt_3b067 ∈ pw_T := pw_in (tb_1 (List.mem_of_getElem? (i := 77) (by rfl))) (by decide +kernel)
set_option maxRecDepth 20000 in
theorem mw_1_78 : Cond.code yJ2_charAt_3b067 cJ2_charAt_3b067 2 (some .char) ∈ pw_T := pw_in (tb_1 (List.mem_of_getElem? (i := 78) (by rfl))) (by decide +kernel)
set_option maxRecDepth 20000 in
theorem mw_1_80 : Cond.static yJ2_checkIndex_2214a ∈ pw_T := pw_in (tb_1 (List.mem_of_getElem? (i := 80) (by rfl))) (by decide +kernel)
set_option maxRecDepth 20000 in
theorem mw_1_81 : Cond.code yJ2_checkIndex_2214a cJ2_checkIndex_2214a 2 none ∈ pw_T := pw_in (tb_1 (List.mem_of_getElem? (i := 81) (by rfl))) (by decide +kernel)
set_option maxRecDepth 20000 in
theorem mw_1_83 : Cond.static yJ2_length_9d52b ∈ pw_T := pw_in (tb_1 (List.mem_of_getElem? (i := 83) (by rfl))) (by decide +kernel)
set_option maxRecDepth 20000 in
theorem mw_1_84 : Cond.code yJ2_length_9d52b cJ2_length_9d52b 1 (some .int) ∈ pw_T := pw_in (tb_1 (List.mem_of_getElem? (i := 84) (by rfl))) (by decide +kernel)
set_option maxRecDepth 20000 in
theorem mw_1_87 : Cond.static yJ2_getChar_3b067 ∈ pw_T := pw_in (tb_1 (List.mem_of_getElem? (i := 87) (by rfl))) (by decide +kernel)
set_option maxRecDepth 20000 in
theorem mw_1_88 : Cond.code yJ2_getChar_3b067 cJ2_getChar_3b067 2 (some .char) ∈ pw_T := pw_in (tb_1 (List.mem_of_getElem? (i := 88) (by rfl))) (by decide +kernel)
set_option maxRecDepth 20000 in
theorem mw_1_96 : Cond.static yX7_spelled ∈ pw_T := pw_in (tb_1 (List.mem_of_getElem? (i := 96) (by rfl))) (by decide +kernel)
set_option maxRecDepth 20000 in
theorem mw_1_97 : Cond.code yX7_spelled cX7_spelled 5 (some .int) ∈ pw_T := pw_in (tb_1 (List.mem_of_getElem? (i := 97) (by rfl))) (by decide +kernel)
set_option maxRecDepth 20000 in
theorem mw_1_99 : Cond.static yX7_withLetter ∈ pw_T := pw_in (tb_1 (List.mem_of_getElem? (i := 99) (by rfl))) (by decide +kernel)
set_option maxRecDepth 20000 in
theorem mw_1_100 : Cond.code yX7_withLetter cX7_withLetter 3 (some .int) ∈ pw_T := pw_in (tb_1 (List.mem_of_getElem? (i := 100) (by rfl))) (by decide +kernel)
set_option maxRecDepth 20000 in
theorem mw_1_121 : Cond.arrayClass .byte ∈ pw_T := pw_in (tb_1 (List.mem_of_getElem? (i := 121) (by rfl))) (by decide +kernel)
set_option maxRecDepth 20000 in
theorem mw_1_122 : Cond.arrayClass .int ∈ pw_T := pw_in (tb_1 (List.mem_of_getElem? (i := 122) (by rfl))) (by decide +kernel)
set_option maxRecDepth 20000 in
theorem mw_1_152 : Cond.instantiable RX8 18 ∈ pw_T := pw_in (tb_1 (List.mem_of_getElem? (i := 152) (by rfl))) (by decide +kernel)
set_option maxRecDepth 20000 in
theorem mw_1_154 : Cond.instanceMethod yX8_init ∈ pw_T := pw_in (tb_1 (List.mem_of_getElem? (i := 154) (by rfl))) (by decide +kernel)
set_option maxRecDepth 20000 in
theorem mw_1_155 : Cond.code yX8_init cX8_init 1 none ∈ pw_T := pw_in (tb_1 (List.mem_of_getElem? (i := 155) (by rfl))) (by decide +kernel)
set_option maxRecDepth 20000 in
theorem mw_1_158 : Cond.instantiable RX6 7 ∈ pw_T := pw_in (tb_1 (List.mem_of_getElem? (i := 158) (by rfl))) (by decide +kernel)
set_option maxRecDepth 20000 in
theorem mw_1_160 : Cond.instanceMethod yX6_init ∈ pw_T := pw_in (tb_1 (List.mem_of_getElem? (i := 160) (by rfl))) (by decide +kernel)
set_option maxRecDepth 20000 in
theorem mw_1_161 : Cond.code yX6_init cX6_init 1 none ∈ pw_T := pw_in (tb_1 (List.mem_of_getElem? (i := 161) (by rfl))) (by decide +kernel)
set_option maxRecDepth 20000 in
theorem mw_1_189 : Cond.arrayClass .long ∈ pw_T := pw_in (tb_1 (List.mem_of_getElem? (i := 189) (by rfl))) (by decide +kernel)
set_option maxRecDepth 20000 in
theorem mw_2_53 : Cond.instantiable RX3 9 ∈ pw_T := pw_in (tb_2 (List.mem_of_getElem? (i := 53) (by rfl))) (by decide +kernel)
set_option maxRecDepth 20000 in
theorem mw_2_55 : Cond.instanceMethod yX3_init ∈ pw_T := pw_in (tb_2 (List.mem_of_getElem? (i := 55) (by rfl))) (by decide +kernel)
set_option maxRecDepth 20000 in
theorem mw_2_56 : Cond.code yX3_init cX3_init 2 none ∈ pw_T := pw_in (tb_2 (List.mem_of_getElem? (i := 56) (by rfl))) (by decide +kernel)
set_option maxRecDepth 20000 in
theorem mw_2_97 : Cond.arrayClass .boolean ∈ pw_T := pw_in (tb_2 (List.mem_of_getElem? (i := 97) (by rfl))) (by decide +kernel)
set_option maxRecDepth 20000 in
theorem mw_2_99 : Cond.instantiable RX0 14 ∈ pw_T := pw_in (tb_2 (List.mem_of_getElem? (i := 99) (by rfl))) (by decide +kernel)
set_option maxRecDepth 20000 in
theorem mw_2_101 : Cond.instanceMethod yX0_init ∈ pw_T := pw_in (tb_2 (List.mem_of_getElem? (i := 101) (by rfl))) (by decide +kernel)
set_option maxRecDepth 20000 in
theorem mw_2_102 : Cond.code yX0_init cX0_init 2 none ∈ pw_T := pw_in (tb_2 (List.mem_of_getElem? (i := 102) (by rfl))) (by decide +kernel)
set_option maxRecDepth 20000 in
theorem mw_2_158 : Cond.instantiable RX2 2 ∈ pw_T := pw_in (tb_2 (List.mem_of_getElem? (i := 158) (by rfl))) (by decide +kernel)
set_option maxRecDepth 20000 in
theorem mw_2_160 : Cond.instanceMethod yX2_init ∈ pw_T := pw_in (tb_2 (List.mem_of_getElem? (i := 160) (by rfl))) (by decide +kernel)
set_option maxRecDepth 20000 in
theorem mw_2_161 : Cond.code yX2_init cX2_init 1 none ∈ pw_T := pw_in (tb_2 (List.mem_of_getElem? (i := 161) (by rfl))) (by decide +kernel)
set_option maxRecDepth 20000 in
theorem mw_2_173 : Cond.instantiable RX5 7 ∈ pw_T := pw_in (tb_2 (List.mem_of_getElem? (i := 173) (by rfl))) (by decide +kernel)
set_option maxRecDepth 20000 in
theorem mw_2_175 : Cond.instanceMethod yX5_init ∈ pw_T := pw_in (tb_2 (List.mem_of_getElem? (i := 175) (by rfl))) (by decide +kernel)
set_option maxRecDepth 20000 in
theorem mw_2_176 : Cond.code yX5_init cX5_init 1 none ∈ pw_T := pw_in (tb_2 (List.mem_of_getElem? (i := 176) (by rfl))) (by decide +kernel)
set_option maxRecDepth 20000 in
theorem mw_2_203 : Cond.instantiable RX9 3 ∈ pw_T := pw_in (tb_2 (List.mem_of_getElem? (i := 203) (by rfl))) (by decide +kernel)
set_option maxRecDepth 20000 in
theorem mw_2_205 : Cond.instanceMethod yX9_init ∈ pw_T := pw_in (tb_2 (List.mem_of_getElem? (i := 205) (by rfl))) (by decide +kernel)
set_option maxRecDepth 20000 in
theorem mw_2_206 : Cond.code yX9_init cX9_init 1 none ∈ pw_T := pw_in (tb_2 (List.mem_of_getElem? (i := 206) (by rfl))) (by decide +kernel)
set_option maxRecDepth 20000 in
theorem mw_2_222 : Cond.instantiable RX1 7 ∈ pw_T := pw_in (tb_2 (List.mem_of_getElem? (i := 222) (by rfl))) (by decide +kernel)
set_option maxRecDepth 20000 in
theorem mw_2_224 : Cond.instanceMethod yX1_init ∈ pw_T := pw_in (tb_2 (List.mem_of_getElem? (i := 224) (by rfl))) (by decide +kernel)
set_option maxRecDepth 20000 in
theorem mw_2_225 : Cond.code yX1_init cX1_init 1 none ∈ pw_T := pw_in (tb_2 (List.mem_of_getElem? (i := 225) (by rfl))) (by decide +kernel)
set_option maxRecDepth 20000 in
theorem mw_3_60 : Cond.instanceMethod yX10_feed ∈ pw_T := pw_in (tb_3 (List.mem_of_getElem? (i := 60) (by rfl))) (by decide +kernel)
set_option maxRecDepth 20000 in
theorem mw_3_61 : Cond.selects RX10 yX10_feed yX10_feed ∈ pw_T := pw_in (tb_3 (List.mem_of_getElem? (i := 61) (by rfl))) (by decide +kernel)
set_option maxRecDepth 20000 in
theorem mw_3_62 : Cond.code yX10_feed cX10_feed 6 (some .int) ∈ pw_T := pw_in (tb_3 (List.mem_of_getElem? (i := 62) (by rfl))) (by decide +kernel)
set_option maxRecDepth 20000 in
theorem mw_3_64 : Cond.instanceMethod yX4_take ∈ pw_T := pw_in (tb_3 (List.mem_of_getElem? (i := 64) (by rfl))) (by decide +kernel)
set_option maxRecDepth 20000 in
theorem mw_3_65 : Cond.selects RX4 yX4_take yX4_take ∈ pw_T := pw_in (tb_3 (List.mem_of_getElem? (i := 65) (by rfl))) (by decide +kernel)
set_option maxRecDepth 20000 in
theorem mw_3_66 : Cond.code yX4_take cX4_take 3 none ∈ pw_T := pw_in (tb_3 (List.mem_of_getElem? (i := 66) (by rfl))) (by decide +kernel)
set_option maxRecDepth 20000 in
theorem mw_3_68 : Cond.instanceMethod yX10_text ∈ pw_T := pw_in (tb_3 (List.mem_of_getElem? (i := 68) (by rfl))) (by decide +kernel)
set_option maxRecDepth 20000 in
theorem mw_3_69 : Cond.selects RX10 yX10_text yX10_text ∈ pw_T := pw_in (tb_3 (List.mem_of_getElem? (i := 69) (by rfl))) (by decide +kernel)
set_option maxRecDepth 20000 in
theorem mw_3_70 : Cond.code yX10_text cX10_text 3 (some .int) ∈ pw_T := pw_in (tb_3 (List.mem_of_getElem? (i := 70) (by rfl))) (by decide +kernel)
set_option maxRecDepth 20000 in
theorem mw_3_72 : Cond.instanceMethod yX4_read ∈ pw_T := pw_in (tb_3 (List.mem_of_getElem? (i := 72) (by rfl))) (by decide +kernel)
set_option maxRecDepth 20000 in
theorem mw_3_73 : Cond.selects RX4 yX4_read yX4_read ∈ pw_T := pw_in (tb_3 (List.mem_of_getElem? (i := 73) (by rfl))) (by decide +kernel)
set_option maxRecDepth 20000 in
theorem mw_3_74 : Cond.code yX4_read cX4_read 4 none ∈ pw_T := pw_in (tb_3 (List.mem_of_getElem? (i := 74) (by rfl))) (by decide +kernel)
set_option maxRecDepth 20000 in
theorem mw_3_76 : Cond.instanceMethod yX7_split ∈ pw_T := pw_in (tb_3 (List.mem_of_getElem? (i := 76) (by rfl))) (by decide +kernel)
set_option maxRecDepth 20000 in
theorem mw_3_77 : Cond.selects RX7 yX7_split yX7_split ∈ pw_T := pw_in (tb_3 (List.mem_of_getElem? (i := 77) (by rfl))) (by decide +kernel)
set_option maxRecDepth 20000 in
theorem mw_3_78 : Cond.code yX7_split cX7_split 6 none ∈ pw_T := pw_in (tb_3 (List.mem_of_getElem? (i := 78) (by rfl))) (by decide +kernel)
set_option maxRecDepth 20000 in
theorem mw_3_80 : Cond.static yX7_isLetter ∈ pw_T := pw_in (tb_3 (List.mem_of_getElem? (i := 80) (by rfl))) (by decide +kernel)
set_option maxRecDepth 20000 in
theorem mw_3_81 : Cond.code yX7_isLetter cX7_isLetter 1 (some .boolean) ∈ pw_T := pw_in (tb_3 (List.mem_of_getElem? (i := 81) (by rfl))) (by decide +kernel)
set_option maxRecDepth 20000 in
theorem mw_3_84 : Cond.instanceMethod yX7_takeWord ∈ pw_T := pw_in (tb_3 (List.mem_of_getElem? (i := 84) (by rfl))) (by decide +kernel)
set_option maxRecDepth 20000 in
theorem mw_3_85 : Cond.code yX7_takeWord cX7_takeWord 6 (some .int) ∈ pw_T := pw_in (tb_3 (List.mem_of_getElem? (i := 85) (by rfl))) (by decide +kernel)
set_option maxRecDepth 20000 in
theorem mw_3_88 : Cond.instanceMethod yX7_wordKind ∈ pw_T := pw_in (tb_3 (List.mem_of_getElem? (i := 88) (by rfl))) (by decide +kernel)
set_option maxRecDepth 20000 in
theorem mw_3_89 : Cond.code yX7_wordKind cX7_wordKind 3 (some .int) ∈ pw_T := pw_in (tb_3 (List.mem_of_getElem? (i := 89) (by rfl))) (by decide +kernel)
set_option maxRecDepth 20000 in
theorem mw_3_92 : Cond.instanceMethod yX7_add ∈ pw_T := pw_in (tb_3 (List.mem_of_getElem? (i := 92) (by rfl))) (by decide +kernel)
set_option maxRecDepth 20000 in
theorem mw_3_93 : Cond.code yX7_add cX7_add 4 none ∈ pw_T := pw_in (tb_3 (List.mem_of_getElem? (i := 93) (by rfl))) (by decide +kernel)
set_option maxRecDepth 20000 in
theorem mw_3_95 : Cond.static yX7_isDigit ∈ pw_T := pw_in (tb_3 (List.mem_of_getElem? (i := 95) (by rfl))) (by decide +kernel)
set_option maxRecDepth 20000 in
theorem mw_3_96 : Cond.code yX7_isDigit cX7_isDigit 1 (some .boolean) ∈ pw_T := pw_in (tb_3 (List.mem_of_getElem? (i := 96) (by rfl))) (by decide +kernel)
set_option maxRecDepth 20000 in
theorem mw_3_99 : Cond.instanceMethod yX7_takeNumber ∈ pw_T := pw_in (tb_3 (List.mem_of_getElem? (i := 99) (by rfl))) (by decide +kernel)
set_option maxRecDepth 20000 in
theorem mw_3_100 : Cond.code yX7_takeNumber cX7_takeNumber 6 (some .int) ∈ pw_T := pw_in (tb_3 (List.mem_of_getElem? (i := 100) (by rfl))) (by decide +kernel)
set_option maxRecDepth 20000 in
theorem mw_3_103 : Cond.static yJ9_min_7cf53 ∈ pw_T := pw_in (tb_3 (List.mem_of_getElem? (i := 103) (by rfl))) (by decide +kernel)
set_option maxRecDepth 20000 in
theorem mw_3_104 : Cond.code yJ9_min_7cf53 cJ9_min_7cf53 2 (some .int) ∈ pw_T := pw_in (tb_3 (List.mem_of_getElem? (i := 104) (by rfl))) (by decide +kernel)
set_option maxRecDepth 20000 in
theorem mw_3_107 : Cond.instanceMethod yX7_takeSign ∈ pw_T := pw_in (tb_3 (List.mem_of_getElem? (i := 107) (by rfl))) (by decide +kernel)
set_option maxRecDepth 20000 in
theorem mw_3_108 : Cond.code yX7_takeSign cX7_takeSign 8 (some .int) ∈ pw_T := pw_in (tb_3 (List.mem_of_getElem? (i := 108) (by rfl))) (by decide +kernel)
set_option maxRecDepth 20000 in
theorem mw_3_110 : Cond.static yX7_signKind ∈ pw_T := pw_in (tb_3 (List.mem_of_getElem? (i := 110) (by rfl))) (by decide +kernel)
set_option maxRecDepth 20000 in
theorem mw_3_111 : Cond.code yX7_signKind cX7_signKind 1 (some .int) ∈ pw_T := pw_in (tb_3 (List.mem_of_getElem? (i := 111) (by rfl))) (by decide +kernel)
set_option maxRecDepth 20000 in
theorem mw_3_113 : Cond.instanceMethod yX8_clear ∈ pw_T := pw_in (tb_3 (List.mem_of_getElem? (i := 113) (by rfl))) (by decide +kernel)
set_option maxRecDepth 20000 in
theorem mw_3_114 : Cond.selects RX8 yX8_clear yX8_clear ∈ pw_T := pw_in (tb_3 (List.mem_of_getElem? (i := 114) (by rfl))) (by decide +kernel)
set_option maxRecDepth 20000 in
theorem mw_3_115 : Cond.code yX8_clear cX8_clear 1 none ∈ pw_T := pw_in (tb_3 (List.mem_of_getElem? (i := 115) (by rfl))) (by decide +kernel)
set_option maxRecDepth 20000 in
theorem mw_3_117 : Cond.static yJ7_fill_53178 ∈ pw_T := pw_in (tb_3 (List.mem_of_getElem? (i := 117) (by rfl))) (by decide +kernel)
set_option maxRecDepth 20000 in
theorem mw_3_118 : Cond.code yJ7_fill_53178 cJ7_fill_53178 4 none ∈ pw_T := pw_in (tb_3 (List.mem_of_getElem? (i := 118) (by rfl))) (by decide +kernel)
set_option maxRecDepth 20000 in
theorem mw_3_120 : Cond.instanceMethod yX6_clear ∈ pw_T := pw_in (tb_3 (List.mem_of_getElem? (i := 120) (by rfl))) (by decide +kernel)
set_option maxRecDepth 20000 in
theorem mw_3_121 : Cond.selects RX6 yX6_clear yX6_clear ∈ pw_T := pw_in (tb_3 (List.mem_of_getElem? (i := 121) (by rfl))) (by decide +kernel)
set_option maxRecDepth 20000 in
theorem mw_3_122 : Cond.code yX6_clear cX6_clear 1 none ∈ pw_T := pw_in (tb_3 (List.mem_of_getElem? (i := 122) (by rfl))) (by decide +kernel)
set_option maxRecDepth 20000 in
theorem mw_3_126 : Cond.instanceMethod yX4_kind ∈ pw_T := pw_in (tb_3 (List.mem_of_getElem? (i := 126) (by rfl))) (by decide +kernel)
set_option maxRecDepth 20000 in
theorem mw_3_127 : Cond.code yX4_kind cX4_kind 1 (some .int) ∈ pw_T := pw_in (tb_3 (List.mem_of_getElem? (i := 127) (by rfl))) (by decide +kernel)
set_option maxRecDepth 20000 in
theorem mw_3_130 : Cond.instanceMethod yX4_readClock ∈ pw_T := pw_in (tb_3 (List.mem_of_getElem? (i := 130) (by rfl))) (by decide +kernel)
set_option maxRecDepth 20000 in
theorem mw_3_131 : Cond.code yX4_readClock cX4_readClock 2 none ∈ pw_T := pw_in (tb_3 (List.mem_of_getElem? (i := 131) (by rfl))) (by decide +kernel)
set_option maxRecDepth 20000 in
theorem mw_3_134 : Cond.instanceMethod yX4_refuse ∈ pw_T := pw_in (tb_3 (List.mem_of_getElem? (i := 134) (by rfl))) (by decide +kernel)
set_option maxRecDepth 20000 in
theorem mw_3_135 : Cond.code yX4_refuse cX4_refuse 2 none ∈ pw_T := pw_in (tb_3 (List.mem_of_getElem? (i := 135) (by rfl))) (by decide +kernel)
set_option maxRecDepth 20000 in
theorem mw_3_138 : Cond.instanceMethod yX4_step ∈ pw_T := pw_in (tb_3 (List.mem_of_getElem? (i := 138) (by rfl))) (by decide +kernel)
set_option maxRecDepth 20000 in
theorem mw_3_139 : Cond.code yX4_step cX4_step 1 none ∈ pw_T := pw_in (tb_3 (List.mem_of_getElem? (i := 139) (by rfl))) (by decide +kernel)
set_option maxRecDepth 20000 in
theorem mw_3_142 : Cond.instanceMethod yX4_readNewName ∈ pw_T := pw_in (tb_3 (List.mem_of_getElem? (i := 142) (by rfl))) (by decide +kernel)
set_option maxRecDepth 20000 in
theorem mw_3_143 : Cond.code yX4_readNewName cX4_readNewName 4 none ∈ pw_T := pw_in (tb_3 (List.mem_of_getElem? (i := 143) (by rfl))) (by decide +kernel)
set_option maxRecDepth 20000 in
theorem mw_3_145 : Cond.instanceMethod yX8_find ∈ pw_T := pw_in (tb_3 (List.mem_of_getElem? (i := 145) (by rfl))) (by decide +kernel)
set_option maxRecDepth 20000 in
theorem mw_3_146 : Cond.selects RX8 yX8_find yX8_find ∈ pw_T := pw_in (tb_3 (List.mem_of_getElem? (i := 146) (by rfl))) (by decide +kernel)
set_option maxRecDepth 20000 in
theorem mw_3_147 : Cond.code yX8_find cX8_find 5 (some .int) ∈ pw_T := pw_in (tb_3 (List.mem_of_getElem? (i := 147) (by rfl))) (by decide +kernel)
set_option maxRecDepth 20000 in
theorem mw_3_151 : Cond.instanceMethod yX4_readSigned ∈ pw_T := pw_in (tb_3 (List.mem_of_getElem? (i := 151) (by rfl))) (by decide +kernel)
set_option maxRecDepth 20000 in
theorem mw_3_152 : Cond.code yX4_readSigned cX4_readSigned 2 (some .int) ∈ pw_T := pw_in (tb_3 (List.mem_of_getElem? (i := 152) (by rfl))) (by decide +kernel)
set_option maxRecDepth 20000 in
theorem mw_3_155 : Cond.instanceMethod yX4_readNumber ∈ pw_T := pw_in (tb_3 (List.mem_of_getElem? (i := 155) (by rfl))) (by decide +kernel)
set_option maxRecDepth 20000 in
theorem mw_3_156 : Cond.code yX4_readNumber cX4_readNumber 4 (some .int) ∈ pw_T := pw_in (tb_3 (List.mem_of_getElem? (i := 156) (by rfl))) (by decide +kernel)
set_option maxRecDepth 20000 in
theorem mw_3_159 : Cond.instanceMethod yX4_readRest ∈ pw_T := pw_in (tb_3 (List.mem_of_getElem? (i := 159) (by rfl))) (by decide +kernel)
set_option maxRecDepth 20000 in
theorem mw_3_160 : Cond.code yX4_readRest cX4_readRest 8 none ∈ pw_T := pw_in (tb_3 (List.mem_of_getElem? (i := 160) (by rfl))) (by decide +kernel)
set_option maxRecDepth 20000 in
theorem mw_3_163 : Cond.instanceMethod yX4_readEither ∈ pw_T := pw_in (tb_3 (List.mem_of_getElem? (i := 163) (by rfl))) (by decide +kernel)
set_option maxRecDepth 20000 in
theorem mw_3_164 : Cond.code yX4_readEither cX4_readEither 3 none ∈ pw_T := pw_in (tb_3 (List.mem_of_getElem? (i := 164) (by rfl))) (by decide +kernel)
set_option maxRecDepth 20000 in
theorem mw_3_167 : Cond.instanceMethod yX4_readBoth ∈ pw_T := pw_in (tb_3 (List.mem_of_getElem? (i := 167) (by rfl))) (by decide +kernel)
set_option maxRecDepth 20000 in
theorem mw_3_168 : Cond.code yX4_readBoth cX4_readBoth 3 none ∈ pw_T := pw_in (tb_3 (List.mem_of_getElem? (i := 168) (by rfl))) (by decide +kernel)
set_option maxRecDepth 20000 in
theorem mw_3_171 : Cond.instanceMethod yX4_readNot ∈ pw_T := pw_in (tb_3 (List.mem_of_getElem? (i := 171) (by rfl))) (by decide +kernel)
set_option maxRecDepth 20000 in
theorem mw_3_172 : Cond.code yX4_readNot cX4_readNot 4 none ∈ pw_T := pw_in (tb_3 (List.mem_of_getElem? (i := 172) (by rfl))) (by decide +kernel)
set_option maxRecDepth 20000 in
theorem mw_3_175 : Cond.instanceMethod yX4_takeKnot ∈ pw_T := pw_in (tb_3 (List.mem_of_getElem? (i := 175) (by rfl))) (by decide +kernel)
set_option maxRecDepth 20000 in
theorem mw_3_176 : Cond.code yX4_takeKnot cX4_takeKnot 1 none ∈ pw_T := pw_in (tb_3 (List.mem_of_getElem? (i := 176) (by rfl))) (by decide +kernel)
set_option maxRecDepth 20000 in
theorem mw_3_179 : Cond.instanceMethod yX4_readCompared ∈ pw_T := pw_in (tb_3 (List.mem_of_getElem? (i := 179) (by rfl))) (by decide +kernel)
set_option maxRecDepth 20000 in
theorem mw_3_180 : Cond.code yX4_readCompared cX4_readCompared 3 none ∈ pw_T := pw_in (tb_3 (List.mem_of_getElem? (i := 180) (by rfl))) (by decide +kernel)
set_option maxRecDepth 20000 in
theorem mw_3_183 : Cond.instanceMethod yX4_readSum ∈ pw_T := pw_in (tb_3 (List.mem_of_getElem? (i := 183) (by rfl))) (by decide +kernel)
set_option maxRecDepth 20000 in
theorem mw_3_184 : Cond.code yX4_readSum cX4_readSum 4 none ∈ pw_T := pw_in (tb_3 (List.mem_of_getElem? (i := 184) (by rfl))) (by decide +kernel)
set_option maxRecDepth 20000 in
theorem mw_3_187 : Cond.instanceMethod yX4_readProduct ∈ pw_T := pw_in (tb_3 (List.mem_of_getElem? (i := 187) (by rfl))) (by decide +kernel)
set_option maxRecDepth 20000 in
theorem mw_3_188 : Cond.code yX4_readProduct cX4_readProduct 4 none ∈ pw_T := pw_in (tb_3 (List.mem_of_getElem? (i := 188) (by rfl))) (by decide +kernel)
set_option maxRecDepth 20000 in
theorem mw_3_191 : Cond.instanceMethod yX4_readPart ∈ pw_T := pw_in (tb_3 (List.mem_of_getElem? (i := 191) (by rfl))) (by decide +kernel)
set_option maxRecDepth 20000 in
theorem mw_3_192 : Cond.code yX4_readPart cX4_readPart 3 none ∈ pw_T := pw_in (tb_3 (List.mem_of_getElem? (i := 192) (by rfl))) (by decide +kernel)
set_option maxRecDepth 20000 in
theorem mw_3_195 : Cond.instanceMethod yX6_add ∈ pw_T := pw_in (tb_3 (List.mem_of_getElem? (i := 195) (by rfl))) (by decide +kernel)
set_option maxRecDepth 20000 in
theorem mw_3_196 : Cond.selects RX6 yX6_add yX6_add ∈ pw_T := pw_in (tb_3 (List.mem_of_getElem? (i := 196) (by rfl))) (by decide +kernel)
set_option maxRecDepth 20000 in
theorem mw_3_197 : Cond.code yX6_add cX6_add 3 none ∈ pw_T := pw_in (tb_3 (List.mem_of_getElem? (i := 197) (by rfl))) (by decide +kernel)
set_option maxRecDepth 20000 in
theorem mw_3_200 : Cond.instanceMethod yX4_expect ∈ pw_T := pw_in (tb_3 (List.mem_of_getElem? (i := 200) (by rfl))) (by decide +kernel)
set_option maxRecDepth 20000 in
theorem mw_3_201 : Cond.code yX4_expect cX4_expect 2 none ∈ pw_T := pw_in (tb_3 (List.mem_of_getElem? (i := 201) (by rfl))) (by decide +kernel)
set_option maxRecDepth 20000 in
theorem mw_3_204 : Cond.instanceMethod yX4_readPerson ∈ pw_T := pw_in (tb_3 (List.mem_of_getElem? (i := 204) (by rfl))) (by decide +kernel)
set_option maxRecDepth 20000 in
theorem mw_3_205 : Cond.code yX4_readPerson cX4_readPerson 2 none ∈ pw_T := pw_in (tb_3 (List.mem_of_getElem? (i := 205) (by rfl))) (by decide +kernel)
set_option maxRecDepth 20000 in
theorem mw_3_208 : Cond.instanceMethod yX4_readCustom ∈ pw_T := pw_in (tb_3 (List.mem_of_getElem? (i := 208) (by rfl))) (by decide +kernel)
set_option maxRecDepth 20000 in
theorem mw_3_209 : Cond.code yX4_readCustom cX4_readCustom 3 none ∈ pw_T := pw_in (tb_3 (List.mem_of_getElem? (i := 209) (by rfl))) (by decide +kernel)
set_option maxRecDepth 20000 in
theorem mw_3_212 : Cond.instanceMethod yX4_readRound ∈ pw_T := pw_in (tb_3 (List.mem_of_getElem? (i := 212) (by rfl))) (by decide +kernel)
set_option maxRecDepth 20000 in
theorem mw_3_213 : Cond.code yX4_readRound cX4_readRound 2 none ∈ pw_T := pw_in (tb_3 (List.mem_of_getElem? (i := 213) (by rfl))) (by decide +kernel)
set_option maxRecDepth 20000 in
theorem mw_3_216 : Cond.instanceMethod yX4_readToldName ∈ pw_T := pw_in (tb_3 (List.mem_of_getElem? (i := 216) (by rfl))) (by decide +kernel)
set_option maxRecDepth 20000 in
theorem mw_3_217 : Cond.code yX4_readToldName cX4_readToldName 4 (some .int) ∈ pw_T := pw_in (tb_3 (List.mem_of_getElem? (i := 217) (by rfl))) (by decide +kernel)
set_option maxRecDepth 20000 in
theorem mw_3_220 : Cond.instanceMethod yX4_readGun ∈ pw_T := pw_in (tb_3 (List.mem_of_getElem? (i := 220) (by rfl))) (by decide +kernel)
set_option maxRecDepth 20000 in
theorem mw_3_221 : Cond.code yX4_readGun cX4_readGun 2 none ∈ pw_T := pw_in (tb_3 (List.mem_of_getElem? (i := 221) (by rfl))) (by decide +kernel)
set_option maxRecDepth 20000 in
theorem mw_3_224 : Cond.instanceMethod yX10_beginAnew ∈ pw_T := pw_in (tb_3 (List.mem_of_getElem? (i := 224) (by rfl))) (by decide +kernel)
set_option maxRecDepth 20000 in
theorem mw_3_225 : Cond.code yX10_beginAnew cX10_beginAnew 1 none ∈ pw_T := pw_in (tb_3 (List.mem_of_getElem? (i := 225) (by rfl))) (by decide +kernel)
set_option maxRecDepth 20000 in
theorem mw_3_227 : Cond.instanceMethod yX3_follow ∈ pw_T := pw_in (tb_3 (List.mem_of_getElem? (i := 227) (by rfl))) (by decide +kernel)
set_option maxRecDepth 20000 in
theorem mw_3_228 : Cond.selects RX3 yX3_follow yX3_follow ∈ pw_T := pw_in (tb_3 (List.mem_of_getElem? (i := 228) (by rfl))) (by decide +kernel)
set_option maxRecDepth 20000 in
theorem mw_3_229 : Cond.code yX3_follow cX3_follow 3 none ∈ pw_T := pw_in (tb_3 (List.mem_of_getElem? (i := 229) (by rfl))) (by decide +kernel)
set_option maxRecDepth 20000 in
theorem mw_3_231 : Cond.static arraycopyName ∈ pw_T := pw_in (tb_3 (List.mem_of_getElem? (i := 231) (by rfl))) (by decide +kernel)
set_option maxRecDepth 20000 in
theorem mw_3_232 : Cond.native arraycopyName ∈ pw_T := pw_in (tb_3 (List.mem_of_getElem? (i := 232) (by rfl))) (by decide +kernel)
set_option maxRecDepth 20000 in
theorem mw_3_234 : Cond.instanceMethod yX6_has ∈ pw_T := pw_in (tb_3 (List.mem_of_getElem? (i := 234) (by rfl))) (by decide +kernel)
set_option maxRecDepth 20000 in
theorem mw_3_235 : Cond.selects RX6 yX6_has yX6_has ∈ pw_T := pw_in (tb_3 (List.mem_of_getElem? (i := 235) (by rfl))) (by decide +kernel)
set_option maxRecDepth 20000 in
theorem mw_3_236 : Cond.code yX6_has cX6_has 2 (some .boolean) ∈ pw_T := pw_in (tb_3 (List.mem_of_getElem? (i := 236) (by rfl))) (by decide +kernel)
set_option maxRecDepth 20000 in
theorem mw_3_239 : Cond.instanceMethod yX3_layDeeds ∈ pw_T := pw_in (tb_3 (List.mem_of_getElem? (i := 239) (by rfl))) (by decide +kernel)
set_option maxRecDepth 20000 in
theorem mw_4_0 : Cond.code yX3_layDeeds cX3_layDeeds 4 none ∈ pw_T := pw_in (tb_4 (List.mem_of_getElem? (i := 0) (by rfl))) (by decide +kernel)
set_option maxRecDepth 20000 in
theorem mw_4_3 : Cond.instanceMethod yX3_addDeed ∈ pw_T := pw_in (tb_4 (List.mem_of_getElem? (i := 3) (by rfl))) (by decide +kernel)
set_option maxRecDepth 20000 in
theorem mw_4_4 : Cond.code yX3_addDeed cX3_addDeed 5 none ∈ pw_T := pw_in (tb_4 (List.mem_of_getElem? (i := 4) (by rfl))) (by decide +kernel)
set_option maxRecDepth 20000 in
theorem mw_4_7 : Cond.instanceMethod yX3_isBehind ∈ pw_T := pw_in (tb_4 (List.mem_of_getElem? (i := 7) (by rfl))) (by decide +kernel)
set_option maxRecDepth 20000 in
theorem mw_4_8 : Cond.code yX3_isBehind cX3_isBehind 4 (some .boolean) ∈ pw_T := pw_in (tb_4 (List.mem_of_getElem? (i := 8) (by rfl))) (by decide +kernel)
set_option maxRecDepth 20000 in
theorem mw_4_10 : Cond.instanceMethod yX0_begin ∈ pw_T := pw_in (tb_4 (List.mem_of_getElem? (i := 10) (by rfl))) (by decide +kernel)
set_option maxRecDepth 20000 in
theorem mw_4_11 : Cond.selects RX0 yX0_begin yX0_begin ∈ pw_T := pw_in (tb_4 (List.mem_of_getElem? (i := 11) (by rfl))) (by decide +kernel)
set_option maxRecDepth 20000 in
theorem mw_4_12 : Cond.code yX0_begin cX0_begin 2 none ∈ pw_T := pw_in (tb_4 (List.mem_of_getElem? (i := 12) (by rfl))) (by decide +kernel)
set_option maxRecDepth 20000 in
theorem mw_4_16 : Cond.instanceMethod yX5_clear ∈ pw_T := pw_in (tb_4 (List.mem_of_getElem? (i := 16) (by rfl))) (by decide +kernel)
set_option maxRecDepth 20000 in
theorem mw_4_17 : Cond.selects RX5 yX5_clear yX5_clear ∈ pw_T := pw_in (tb_4 (List.mem_of_getElem? (i := 17) (by rfl))) (by decide +kernel)
set_option maxRecDepth 20000 in
theorem mw_4_18 : Cond.code yX5_clear cX5_clear 1 none ∈ pw_T := pw_in (tb_4 (List.mem_of_getElem? (i := 18) (by rfl))) (by decide +kernel)
set_option maxRecDepth 20000 in
theorem mw_4_20 : Cond.instanceMethod yX9_forget ∈ pw_T := pw_in (tb_4 (List.mem_of_getElem? (i := 20) (by rfl))) (by decide +kernel)
set_option maxRecDepth 20000 in
theorem mw_4_21 : Cond.selects RX9 yX9_forget yX9_forget ∈ pw_T := pw_in (tb_4 (List.mem_of_getElem? (i := 21) (by rfl))) (by decide +kernel)
set_option maxRecDepth 20000 in
theorem mw_4_22 : Cond.code yX9_forget cX9_forget 1 none ∈ pw_T := pw_in (tb_4 (List.mem_of_getElem? (i := 22) (by rfl))) (by decide +kernel)
set_option maxRecDepth 20000 in
theorem mw_4_24 : Cond.instanceMethod yX1_forget ∈ pw_T := pw_in (tb_4 (List.mem_of_getElem? (i := 24) (by rfl))) (by decide +kernel)
set_option maxRecDepth 20000 in
theorem mw_4_25 : Cond.selects RX1 yX1_forget yX1_forget ∈ pw_T := pw_in (tb_4 (List.mem_of_getElem? (i := 25) (by rfl))) (by decide +kernel)
set_option maxRecDepth 20000 in
theorem mw_4_26 : Cond.code yX1_forget cX1_forget 1 none ∈ pw_T := pw_in (tb_4 (List.mem_of_getElem? (i := 26) (by rfl))) (by decide +kernel)
set_option maxRecDepth 20000 in
theorem mw_4_28 : Cond.instanceMethod yX10_fault ∈ pw_T := pw_in (tb_4 (List.mem_of_getElem? (i := 28) (by rfl))) (by decide +kernel)
set_option maxRecDepth 20000 in
theorem mw_4_29 : Cond.selects RX10 yX10_fault yX10_fault ∈ pw_T := pw_in (tb_4 (List.mem_of_getElem? (i := 29) (by rfl))) (by decide +kernel)
set_option maxRecDepth 20000 in
theorem mw_4_30 : Cond.code yX10_fault cX10_fault 2 (some .int) ∈ pw_T := pw_in (tb_4 (List.mem_of_getElem? (i := 30) (by rfl))) (by decide +kernel)
set_option maxRecDepth 20000 in
theorem mw_4_32 : Cond.instanceMethod yX10_named ∈ pw_T := pw_in (tb_4 (List.mem_of_getElem? (i := 32) (by rfl))) (by decide +kernel)
set_option maxRecDepth 20000 in
theorem mw_4_33 : Cond.selects RX10 yX10_named yX10_named ∈ pw_T := pw_in (tb_4 (List.mem_of_getElem? (i := 33) (by rfl))) (by decide +kernel)
set_option maxRecDepth 20000 in
theorem mw_4_34 : Cond.code yX10_named cX10_named 3 (some .int) ∈ pw_T := pw_in (tb_4 (List.mem_of_getElem? (i := 34) (by rfl))) (by decide +kernel)
set_option maxRecDepth 20000 in
theorem mw_4_37 : Cond.instanceMethod yX10_clock ∈ pw_T := pw_in (tb_4 (List.mem_of_getElem? (i := 37) (by rfl))) (by decide +kernel)
set_option maxRecDepth 20000 in
theorem mw_4_38 : Cond.selects RX10 yX10_clock yX10_clock ∈ pw_T := pw_in (tb_4 (List.mem_of_getElem? (i := 38) (by rfl))) (by decide +kernel)
set_option maxRecDepth 20000 in
theorem mw_4_39 : Cond.code yX10_clock cX10_clock 3 (some .int) ∈ pw_T := pw_in (tb_4 (List.mem_of_getElem? (i := 39) (by rfl))) (by decide +kernel)
set_option maxRecDepth 20000 in
theorem mw_4_41 : Cond.instanceMethod yX8_hasClock ∈ pw_T := pw_in (tb_4 (List.mem_of_getElem? (i := 41) (by rfl))) (by decide +kernel)
set_option maxRecDepth 20000 in
theorem mw_4_42 : Cond.selects RX8 yX8_hasClock yX8_hasClock ∈ pw_T := pw_in (tb_4 (List.mem_of_getElem? (i := 42) (by rfl))) (by decide +kernel)
set_option maxRecDepth 20000 in
theorem mw_4_43 : Cond.code yX8_hasClock cX8_hasClock 2 (some .boolean) ∈ pw_T := pw_in (tb_4 (List.mem_of_getElem? (i := 43) (by rfl))) (by decide +kernel)
set_option maxRecDepth 20000 in
theorem mw_4_46 : Cond.instanceMethod yX10_round ∈ pw_T := pw_in (tb_4 (List.mem_of_getElem? (i := 46) (by rfl))) (by decide +kernel)
set_option maxRecDepth 20000 in
theorem mw_4_47 : Cond.selects RX10 yX10_round yX10_round ∈ pw_T := pw_in (tb_4 (List.mem_of_getElem? (i := 47) (by rfl))) (by decide +kernel)
set_option maxRecDepth 20000 in
theorem mw_4_48 : Cond.code yX10_round cX10_round 3 (some .int) ∈ pw_T := pw_in (tb_4 (List.mem_of_getElem? (i := 48) (by rfl))) (by decide +kernel)
set_option maxRecDepth 20000 in
theorem mw_4_50 : Cond.instanceMethod yX10_hours ∈ pw_T := pw_in (tb_4 (List.mem_of_getElem? (i := 50) (by rfl))) (by decide +kernel)
set_option maxRecDepth 20000 in
theorem mw_4_51 : Cond.selects RX10 yX10_hours yX10_hours ∈ pw_T := pw_in (tb_4 (List.mem_of_getElem? (i := 51) (by rfl))) (by decide +kernel)
set_option maxRecDepth 20000 in
theorem mw_4_52 : Cond.code yX10_hours cX10_hours 3 (some .int) ∈ pw_T := pw_in (tb_4 (List.mem_of_getElem? (i := 52) (by rfl))) (by decide +kernel)
set_option maxRecDepth 20000 in
theorem mw_4_54 : Cond.instanceMethod yX0_goOn ∈ pw_T := pw_in (tb_4 (List.mem_of_getElem? (i := 54) (by rfl))) (by decide +kernel)
set_option maxRecDepth 20000 in
theorem mw_4_55 : Cond.selects RX0 yX0_goOn yX0_goOn ∈ pw_T := pw_in (tb_4 (List.mem_of_getElem? (i := 55) (by rfl))) (by decide +kernel)
set_option maxRecDepth 20000 in
theorem mw_4_56 : Cond.code yX0_goOn cX0_goOn 4 none ∈ pw_T := pw_in (tb_4 (List.mem_of_getElem? (i := 56) (by rfl))) (by decide +kernel)
set_option maxRecDepth 20000 in
theorem mw_4_58 : Cond.instanceMethod yX0_shoot ∈ pw_T := pw_in (tb_4 (List.mem_of_getElem? (i := 58) (by rfl))) (by decide +kernel)
set_option maxRecDepth 20000 in
theorem mw_4_59 : Cond.selects RX0 yX0_shoot yX0_shoot ∈ pw_T := pw_in (tb_4 (List.mem_of_getElem? (i := 59) (by rfl))) (by decide +kernel)
set_option maxRecDepth 20000 in
theorem mw_4_60 : Cond.code yX0_shoot cX0_shoot 3 none ∈ pw_T := pw_in (tb_4 (List.mem_of_getElem? (i := 60) (by rfl))) (by decide +kernel)
set_option maxRecDepth 20000 in
theorem mw_4_63 : Cond.instanceMethod yX0_settle ∈ pw_T := pw_in (tb_4 (List.mem_of_getElem? (i := 63) (by rfl))) (by decide +kernel)
set_option maxRecDepth 20000 in
theorem mw_4_64 : Cond.code yX0_settle cX0_settle 3 none ∈ pw_T := pw_in (tb_4 (List.mem_of_getElem? (i := 64) (by rfl))) (by decide +kernel)
set_option maxRecDepth 20000 in
theorem mw_4_67 : Cond.instanceMethod yX0_noteWidest ∈ pw_T := pw_in (tb_4 (List.mem_of_getElem? (i := 67) (by rfl))) (by decide +kernel)
set_option maxRecDepth 20000 in
theorem mw_4_68 : Cond.code yX0_noteWidest cX0_noteWidest 3 none ∈ pw_T := pw_in (tb_4 (List.mem_of_getElem? (i := 68) (by rfl))) (by decide +kernel)
set_option maxRecDepth 20000 in
theorem mw_4_71 : Cond.instanceMethod yX0_offAt ∈ pw_T := pw_in (tb_4 (List.mem_of_getElem? (i := 71) (by rfl))) (by decide +kernel)
set_option maxRecDepth 20000 in
theorem mw_4_72 : Cond.code yX0_offAt cX0_offAt 3 (some .int) ∈ pw_T := pw_in (tb_4 (List.mem_of_getElem? (i := 72) (by rfl))) (by decide +kernel)
set_option maxRecDepth 20000 in
theorem mw_4_74 : Cond.static yX0_bounded ∈ pw_T := pw_in (tb_4 (List.mem_of_getElem? (i := 74) (by rfl))) (by decide +kernel)
set_option maxRecDepth 20000 in
theorem mw_4_75 : Cond.code yX0_bounded cX0_bounded 2 (some .int) ∈ pw_T := pw_in (tb_4 (List.mem_of_getElem? (i := 75) (by rfl))) (by decide +kernel)
set_option maxRecDepth 20000 in
theorem mw_4_81 : Cond.instanceMethod yX0_meet ∈ pw_T := pw_in (tb_4 (List.mem_of_getElem? (i := 81) (by rfl))) (by decide +kernel)
set_option maxRecDepth 20000 in
theorem mw_4_82 : Cond.selects RX0 yX0_meet yX0_meet ∈ pw_T := pw_in (tb_4 (List.mem_of_getElem? (i := 82) (by rfl))) (by decide +kernel)
set_option maxRecDepth 20000 in
theorem mw_4_83 : Cond.code yX0_meet cX0_meet 8 none ∈ pw_T := pw_in (tb_4 (List.mem_of_getElem? (i := 83) (by rfl))) (by decide +kernel)
set_option maxRecDepth 20000 in
theorem mw_4_85 : Cond.instanceMethod yX6_name ∈ pw_T := pw_in (tb_4 (List.mem_of_getElem? (i := 85) (by rfl))) (by decide +kernel)
set_option maxRecDepth 20000 in
theorem mw_4_86 : Cond.selects RX6 yX6_name yX6_name ∈ pw_T := pw_in (tb_4 (List.mem_of_getElem? (i := 86) (by rfl))) (by decide +kernel)
set_option maxRecDepth 20000 in
theorem mw_4_87 : Cond.code yX6_name cX6_name 5 none ∈ pw_T := pw_in (tb_4 (List.mem_of_getElem? (i := 87) (by rfl))) (by decide +kernel)
set_option maxRecDepth 20000 in
theorem mw_4_89 : Cond.instanceMethod yX6_value ∈ pw_T := pw_in (tb_4 (List.mem_of_getElem? (i := 89) (by rfl))) (by decide +kernel)
set_option maxRecDepth 20000 in
theorem mw_4_90 : Cond.selects RX6 yX6_value yX6_value ∈ pw_T := pw_in (tb_4 (List.mem_of_getElem? (i := 90) (by rfl))) (by decide +kernel)
set_option maxRecDepth 20000 in
theorem mw_4_91 : Cond.code yX6_value cX6_value 8 (some .long) ∈ pw_T := pw_in (tb_4 (List.mem_of_getElem? (i := 91) (by rfl))) (by decide +kernel)
set_option maxRecDepth 20000 in
theorem mw_4_94 : Cond.static yX6_joined ∈ pw_T := pw_in (tb_4 (List.mem_of_getElem? (i := 94) (by rfl))) (by decide +kernel)
set_option maxRecDepth 20000 in
theorem mw_4_95 : Cond.code yX6_joined cX6_joined 5 (some .long) ∈ pw_T := pw_in (tb_4 (List.mem_of_getElem? (i := 95) (by rfl))) (by decide +kernel)
set_option maxRecDepth 20000 in
theorem mw_4_97 : Cond.static yJ9_abs_067f4 ∈ pw_T := pw_in (tb_4 (List.mem_of_getElem? (i := 97) (by rfl))) (by decide +kernel)
set_option maxRecDepth 20000 in
theorem mw_4_98 : Cond.code yJ9_abs_067f4 cJ9_abs_067f4 2 (some .long) ∈ pw_T := pw_in (tb_4 (List.mem_of_getElem? (i := 98) (by rfl))) (by decide +kernel)
set_option maxRecDepth 20000 in
theorem mw_4_104 : Cond.instanceMethod yX0_act ∈ pw_T := pw_in (tb_4 (List.mem_of_getElem? (i := 104) (by rfl))) (by decide +kernel)
set_option maxRecDepth 20000 in
theorem mw_4_105 : Cond.code yX0_act cX0_act 5 none ∈ pw_T := pw_in (tb_4 (List.mem_of_getElem? (i := 105) (by rfl))) (by decide +kernel)
set_option maxRecDepth 20000 in
theorem mw_4_107 : Cond.static yJ9_floorDiv_7cf53 ∈ pw_T := pw_in (tb_4 (List.mem_of_getElem? (i := 107) (by rfl))) (by decide +kernel)
set_option maxRecDepth 20000 in
theorem mw_4_108 : Cond.code yJ9_floorDiv_7cf53 cJ9_floorDiv_7cf53 3 (some .int) ∈ pw_T := pw_in (tb_4 (List.mem_of_getElem? (i := 108) (by rfl))) (by decide +kernel)
set_option maxRecDepth 20000 in
theorem mw_4_111 : Cond.instanceMethod yX0_partOf ∈ pw_T := pw_in (tb_4 (List.mem_of_getElem? (i := 111) (by rfl))) (by decide +kernel)
set_option maxRecDepth 20000 in
theorem mw_4_112 : Cond.code yX0_partOf cX0_partOf 4 (some .int) ∈ pw_T := pw_in (tb_4 (List.mem_of_getElem? (i := 112) (by rfl))) (by decide +kernel)
set_option maxRecDepth 20000 in
theorem mw_4_115 : Cond.instanceMethod yX0_keepAhead ∈ pw_T := pw_in (tb_4 (List.mem_of_getElem? (i := 115) (by rfl))) (by decide +kernel)
set_option maxRecDepth 20000 in
theorem mw_4_116 : Cond.code yX0_keepAhead cX0_keepAhead 5 none ∈ pw_T := pw_in (tb_4 (List.mem_of_getElem? (i := 116) (by rfl))) (by decide +kernel)
set_option maxRecDepth 20000 in
theorem mw_4_119 : Cond.instanceMethod yX0_middleKept ∈ pw_T := pw_in (tb_4 (List.mem_of_getElem? (i := 119) (by rfl))) (by decide +kernel)
set_option maxRecDepth 20000 in
theorem mw_4_120 : Cond.code yX0_middleKept cX0_middleKept 6 (some .int) ∈ pw_T := pw_in (tb_4 (List.mem_of_getElem? (i := 120) (by rfl))) (by decide +kernel)
set_option maxRecDepth 20000 in
theorem mw_4_122 : Cond.instanceMethod yX2_write ∈ pw_T := pw_in (tb_4 (List.mem_of_getElem? (i := 122) (by rfl))) (by decide +kernel)
set_option maxRecDepth 20000 in
theorem mw_4_123 : Cond.selects RX2 yX2_write yX2_write ∈ pw_T := pw_in (tb_4 (List.mem_of_getElem? (i := 123) (by rfl))) (by decide +kernel)
set_option maxRecDepth 20000 in
theorem mw_4_124 : Cond.code yX2_write cX2_write 10 none ∈ pw_T := pw_in (tb_4 (List.mem_of_getElem? (i := 124) (by rfl))) (by decide +kernel)
set_option maxRecDepth 20000 in
theorem mw_4_126 : Cond.instanceMethod yX8_things ∈ pw_T := pw_in (tb_4 (List.mem_of_getElem? (i := 126) (by rfl))) (by decide +kernel)
set_option maxRecDepth 20000 in
theorem mw_4_127 : Cond.selects RX8 yX8_things yX8_things ∈ pw_T := pw_in (tb_4 (List.mem_of_getElem? (i := 127) (by rfl))) (by decide +kernel)
set_option maxRecDepth 20000 in
theorem mw_4_128 : Cond.code yX8_things cX8_things 1 (some .int) ∈ pw_T := pw_in (tb_4 (List.mem_of_getElem? (i := 128) (by rfl))) (by decide +kernel)
set_option maxRecDepth 20000 in
theorem mw_4_132 : Cond.instanceMethod yX8_slotOf ∈ pw_T := pw_in (tb_4 (List.mem_of_getElem? (i := 132) (by rfl))) (by decide +kernel)
set_option maxRecDepth 20000 in
theorem mw_4_133 : Cond.selects RX8 yX8_slotOf yX8_slotOf ∈ pw_T := pw_in (tb_4 (List.mem_of_getElem? (i := 133) (by rfl))) (by decide +kernel)
set_option maxRecDepth 20000 in
theorem mw_4_134 : Cond.code yX8_slotOf cX8_slotOf 2 (some .int) ∈ pw_T := pw_in (tb_4 (List.mem_of_getElem? (i := 134) (by rfl))) (by decide +kernel)
set_option maxRecDepth 20000 in
theorem mw_4_137 : Cond.instanceMethod yX0_offNow ∈ pw_T := pw_in (tb_4 (List.mem_of_getElem? (i := 137) (by rfl))) (by decide +kernel)
set_option maxRecDepth 20000 in
theorem mw_4_138 : Cond.selects RX0 yX0_offNow yX0_offNow ∈ pw_T := pw_in (tb_4 (List.mem_of_getElem? (i := 138) (by rfl))) (by decide +kernel)
set_option maxRecDepth 20000 in
theorem mw_4_139 : Cond.code yX0_offNow cX0_offNow 2 (some .int) ∈ pw_T := pw_in (tb_4 (List.mem_of_getElem? (i := 139) (by rfl))) (by decide +kernel)
set_option maxRecDepth 20000 in
theorem mw_4_142 : Cond.static yJ9_max_7cf53 ∈ pw_T := pw_in (tb_4 (List.mem_of_getElem? (i := 142) (by rfl))) (by decide +kernel)
set_option maxRecDepth 20000 in
theorem mw_4_143 : Cond.code yJ9_max_7cf53 cJ9_max_7cf53 2 (some .int) ∈ pw_T := pw_in (tb_4 (List.mem_of_getElem? (i := 143) (by rfl))) (by decide +kernel)
set_option maxRecDepth 20000 in
theorem mw_4_145 : Cond.instanceMethod yX10_off ∈ pw_T := pw_in (tb_4 (List.mem_of_getElem? (i := 145) (by rfl))) (by decide +kernel)
set_option maxRecDepth 20000 in
theorem mw_4_146 : Cond.selects RX10 yX10_off yX10_off ∈ pw_T := pw_in (tb_4 (List.mem_of_getElem? (i := 146) (by rfl))) (by decide +kernel)
set_option maxRecDepth 20000 in
theorem mw_4_147 : Cond.code yX10_off cX10_off 3 (some .int) ∈ pw_T := pw_in (tb_4 (List.mem_of_getElem? (i := 147) (by rfl))) (by decide +kernel)
set_option maxRecDepth 20000 in
theorem mw_4_151 : Cond.instanceMethod yX10_now ∈ pw_T := pw_in (tb_4 (List.mem_of_getElem? (i := 151) (by rfl))) (by decide +kernel)
set_option maxRecDepth 20000 in
theorem mw_4_152 : Cond.selects RX10 yX10_now yX10_now ∈ pw_T := pw_in (tb_4 (List.mem_of_getElem? (i := 152) (by rfl))) (by decide +kernel)
set_option maxRecDepth 20000 in
theorem mw_4_153 : Cond.code yX10_now cX10_now 3 (some .int) ∈ pw_T := pw_in (tb_4 (List.mem_of_getElem? (i := 153) (by rfl))) (by decide +kernel)
set_option maxRecDepth 20000 in
theorem mw_4_155 : Cond.instanceMethod yX8_hasPerson ∈ pw_T := pw_in (tb_4 (List.mem_of_getElem? (i := 155) (by rfl))) (by decide +kernel)
set_option maxRecDepth 20000 in
theorem mw_4_156 : Cond.selects RX8 yX8_hasPerson yX8_hasPerson ∈ pw_T := pw_in (tb_4 (List.mem_of_getElem? (i := 156) (by rfl))) (by decide +kernel)
set_option maxRecDepth 20000 in
theorem mw_4_157 : Cond.code yX8_hasPerson cX8_hasPerson 2 (some .boolean) ∈ pw_T := pw_in (tb_4 (List.mem_of_getElem? (i := 157) (by rfl))) (by decide +kernel)
set_option maxRecDepth 20000 in
theorem mw_4_159 : Cond.instanceMethod yX10_was ∈ pw_T := pw_in (tb_4 (List.mem_of_getElem? (i := 159) (by rfl))) (by decide +kernel)
set_option maxRecDepth 20000 in
theorem mw_4_160 : Cond.selects RX10 yX10_was yX10_was ∈ pw_T := pw_in (tb_4 (List.mem_of_getElem? (i := 160) (by rfl))) (by decide +kernel)
set_option maxRecDepth 20000 in
theorem mw_4_161 : Cond.code yX10_was cX10_was 4 (some .int) ∈ pw_T := pw_in (tb_4 (List.mem_of_getElem? (i := 161) (by rfl))) (by decide +kernel)
set_option maxRecDepth 20000 in
theorem mw_4_164 : Cond.instanceMethod yX10_wentBy ∈ pw_T := pw_in (tb_4 (List.mem_of_getElem? (i := 164) (by rfl))) (by decide +kernel)
set_option maxRecDepth 20000 in
theorem mw_4_165 : Cond.code yX10_wentBy cX10_wentBy 2 (some .boolean) ∈ pw_T := pw_in (tb_4 (List.mem_of_getElem? (i := 165) (by rfl))) (by decide +kernel)
set_option maxRecDepth 20000 in
theorem mw_4_167 : Cond.instanceMethod yX10_spread ∈ pw_T := pw_in (tb_4 (List.mem_of_getElem? (i := 167) (by rfl))) (by decide +kernel)
set_option maxRecDepth 20000 in
theorem mw_4_168 : Cond.selects RX10 yX10_spread yX10_spread ∈ pw_T := pw_in (tb_4 (List.mem_of_getElem? (i := 168) (by rfl))) (by decide +kernel)
set_option maxRecDepth 20000 in
theorem mw_4_169 : Cond.code yX10_spread cX10_spread 2 (some .int) ∈ pw_T := pw_in (tb_4 (List.mem_of_getElem? (i := 169) (by rfl))) (by decide +kernel)
set_option maxRecDepth 20000 in
theorem mw_4_172 : Cond.instanceMethod yX10_pass ∈ pw_T := pw_in (tb_4 (List.mem_of_getElem? (i := 172) (by rfl))) (by decide +kernel)
set_option maxRecDepth 20000 in
theorem mw_4_173 : Cond.selects RX10 yX10_pass yX10_pass ∈ pw_T := pw_in (tb_4 (List.mem_of_getElem? (i := 173) (by rfl))) (by decide +kernel)
set_option maxRecDepth 20000 in
theorem mw_4_174 : Cond.code yX10_pass cX10_pass 3 (some .int) ∈ pw_T := pw_in (tb_4 (List.mem_of_getElem? (i := 174) (by rfl))) (by decide +kernel)
set_option maxRecDepth 20000 in
theorem mw_4_177 : Cond.instanceMethod yX10_canPass ∈ pw_T := pw_in (tb_4 (List.mem_of_getElem? (i := 177) (by rfl))) (by decide +kernel)
set_option maxRecDepth 20000 in
theorem mw_4_178 : Cond.code yX10_canPass cX10_canPass 3 (some .boolean) ∈ pw_T := pw_in (tb_4 (List.mem_of_getElem? (i := 178) (by rfl))) (by decide +kernel)
set_option maxRecDepth 20000 in
theorem mw_4_181 : Cond.instanceMethod yX10_row ∈ pw_T := pw_in (tb_4 (List.mem_of_getElem? (i := 181) (by rfl))) (by decide +kernel)
set_option maxRecDepth 20000 in
theorem mw_4_182 : Cond.selects RX10 yX10_row yX10_row ∈ pw_T := pw_in (tb_4 (List.mem_of_getElem? (i := 182) (by rfl))) (by decide +kernel)
set_option maxRecDepth 20000 in
theorem mw_4_183 : Cond.code yX10_row cX10_row 13 (some .int) ∈ pw_T := pw_in (tb_4 (List.mem_of_getElem? (i := 183) (by rfl))) (by decide +kernel)
set_option maxRecDepth 20000 in
theorem mw_4_185 : Cond.instanceMethod yX0_copy ∈ pw_T := pw_in (tb_4 (List.mem_of_getElem? (i := 185) (by rfl))) (by decide +kernel)
set_option maxRecDepth 20000 in
theorem mw_4_186 : Cond.selects RX0 yX0_copy yX0_copy ∈ pw_T := pw_in (tb_4 (List.mem_of_getElem? (i := 186) (by rfl))) (by decide +kernel)
set_option maxRecDepth 20000 in
theorem mw_4_187 : Cond.code yX0_copy cX0_copy 2 none ∈ pw_T := pw_in (tb_4 (List.mem_of_getElem? (i := 187) (by rfl))) (by decide +kernel)
set_option maxRecDepth 20000 in
theorem mw_4_190 : Cond.instanceMethod yX10_rule ∈ pw_T := pw_in (tb_4 (List.mem_of_getElem? (i := 190) (by rfl))) (by decide +kernel)
set_option maxRecDepth 20000 in
theorem mw_4_191 : Cond.selects RX10 yX10_rule yX10_rule ∈ pw_T := pw_in (tb_4 (List.mem_of_getElem? (i := 191) (by rfl))) (by decide +kernel)
set_option maxRecDepth 20000 in
theorem mw_4_192 : Cond.code yX10_rule cX10_rule 7 (some .long) ∈ pw_T := pw_in (tb_4 (List.mem_of_getElem? (i := 192) (by rfl))) (by decide +kernel)
set_option maxRecDepth 20000 in
theorem mw_4_198 : Cond.static yX10_isWithin ∈ pw_T := pw_in (tb_4 (List.mem_of_getElem? (i := 198) (by rfl))) (by decide +kernel)
set_option maxRecDepth 20000 in
theorem mw_4_199 : Cond.code yX10_isWithin cX10_isWithin 3 (some .boolean) ∈ pw_T := pw_in (tb_4 (List.mem_of_getElem? (i := 199) (by rfl))) (by decide +kernel)
set_option maxRecDepth 20000 in
theorem mw_4_203 : Cond.instanceMethod yX10_moved ∈ pw_T := pw_in (tb_4 (List.mem_of_getElem? (i := 203) (by rfl))) (by decide +kernel)
set_option maxRecDepth 20000 in
theorem mw_4_204 : Cond.selects RX10 yX10_moved yX10_moved ∈ pw_T := pw_in (tb_4 (List.mem_of_getElem? (i := 204) (by rfl))) (by decide +kernel)
set_option maxRecDepth 20000 in
theorem mw_4_205 : Cond.code yX10_moved cX10_moved 6 (some .int) ∈ pw_T := pw_in (tb_4 (List.mem_of_getElem? (i := 205) (by rfl))) (by decide +kernel)
set_option maxRecDepth 20000 in
theorem mw_4_209 : Cond.instanceMethod yX0_shift ∈ pw_T := pw_in (tb_4 (List.mem_of_getElem? (i := 209) (by rfl))) (by decide +kernel)
set_option maxRecDepth 20000 in
theorem mw_4_210 : Cond.selects RX0 yX0_shift yX0_shift ∈ pw_T := pw_in (tb_4 (List.mem_of_getElem? (i := 210) (by rfl))) (by decide +kernel)
set_option maxRecDepth 20000 in
theorem mw_4_211 : Cond.code yX0_shift cX0_shift 3 none ∈ pw_T := pw_in (tb_4 (List.mem_of_getElem? (i := 211) (by rfl))) (by decide +kernel)
set_option maxRecDepth 20000 in
theorem mw_4_213 : Cond.instanceMethod yX10_ends ∈ pw_T := pw_in (tb_4 (List.mem_of_getElem? (i := 213) (by rfl))) (by decide +kernel)
set_option maxRecDepth 20000 in
theorem mw_4_214 : Cond.selects RX10 yX10_ends yX10_ends ∈ pw_T := pw_in (tb_4 (List.mem_of_getElem? (i := 214) (by rfl))) (by decide +kernel)
set_option maxRecDepth 20000 in
theorem mw_4_215 : Cond.code yX10_ends cX10_ends 4 (some .int) ∈ pw_T := pw_in (tb_4 (List.mem_of_getElem? (i := 215) (by rfl))) (by decide +kernel)
set_option maxRecDepth 20000 in
theorem mw_4_217 : Cond.instanceMethod yX1_isOf ∈ pw_T := pw_in (tb_4 (List.mem_of_getElem? (i := 217) (by rfl))) (by decide +kernel)
set_option maxRecDepth 20000 in
theorem mw_4_218 : Cond.selects RX1 yX1_isOf yX1_isOf ∈ pw_T := pw_in (tb_4 (List.mem_of_getElem? (i := 218) (by rfl))) (by decide +kernel)
set_option maxRecDepth 20000 in
theorem mw_4_219 : Cond.code yX1_isOf cX1_isOf 4 (some .boolean) ∈ pw_T := pw_in (tb_4 (List.mem_of_getElem? (i := 219) (by rfl))) (by decide +kernel)
set_option maxRecDepth 20000 in
theorem mw_4_222 : Cond.instanceMethod yX10_findEnds ∈ pw_T := pw_in (tb_4 (List.mem_of_getElem? (i := 222) (by rfl))) (by decide +kernel)
set_option maxRecDepth 20000 in
theorem mw_4_223 : Cond.code yX10_findEnds cX10_findEnds 5 none ∈ pw_T := pw_in (tb_4 (List.mem_of_getElem? (i := 223) (by rfl))) (by decide +kernel)
set_option maxRecDepth 20000 in
theorem mw_4_225 : Cond.instanceMethod yX1_start ∈ pw_T := pw_in (tb_4 (List.mem_of_getElem? (i := 225) (by rfl))) (by decide +kernel)
set_option maxRecDepth 20000 in
theorem mw_4_226 : Cond.selects RX1 yX1_start yX1_start ∈ pw_T := pw_in (tb_4 (List.mem_of_getElem? (i := 226) (by rfl))) (by decide +kernel)
set_option maxRecDepth 20000 in
theorem mw_4_227 : Cond.code yX1_start cX1_start 4 none ∈ pw_T := pw_in (tb_4 (List.mem_of_getElem? (i := 227) (by rfl))) (by decide +kernel)
set_option maxRecDepth 20000 in
theorem mw_4_232 : Cond.instanceMethod yX8_isRough ∈ pw_T := pw_in (tb_4 (List.mem_of_getElem? (i := 232) (by rfl))) (by decide +kernel)
set_option maxRecDepth 20000 in
theorem mw_4_233 : Cond.selects RX8 yX8_isRough yX8_isRough ∈ pw_T := pw_in (tb_4 (List.mem_of_getElem? (i := 233) (by rfl))) (by decide +kernel)
set_option maxRecDepth 20000 in
theorem mw_4_234 : Cond.code yX8_isRough cX8_isRough 3 (some .boolean) ∈ pw_T := pw_in (tb_4 (List.mem_of_getElem? (i := 234) (by rfl))) (by decide +kernel)
set_option maxRecDepth 20000 in
theorem mw_4_238 : Cond.instanceMethod yX1_note ∈ pw_T := pw_in (tb_4 (List.mem_of_getElem? (i := 238) (by rfl))) (by decide +kernel)
set_option maxRecDepth 20000 in
theorem mw_4_239 : Cond.selects RX1 yX1_note yX1_note ∈ pw_T := pw_in (tb_4 (List.mem_of_getElem? (i := 239) (by rfl))) (by decide +kernel)
set_option maxRecDepth 20000 in
theorem mw_5_0 : Cond.code yX1_note cX1_note 7 none ∈ pw_T := pw_in (tb_5 (List.mem_of_getElem? (i := 0) (by rfl))) (by decide +kernel)
set_option maxRecDepth 20000 in
theorem mw_5_5 : Cond.instanceMethod yX10_reading ∈ pw_T := pw_in (tb_5 (List.mem_of_getElem? (i := 5) (by rfl))) (by decide +kernel)
set_option maxRecDepth 20000 in
theorem mw_5_6 : Cond.selects RX10 yX10_reading yX10_reading ∈ pw_T := pw_in (tb_5 (List.mem_of_getElem? (i := 6) (by rfl))) (by decide +kernel)
set_option maxRecDepth 20000 in
theorem mw_5_7 : Cond.code yX10_reading cX10_reading 7 (some .int) ∈ pw_T := pw_in (tb_5 (List.mem_of_getElem? (i := 7) (by rfl))) (by decide +kernel)
set_option maxRecDepth 20000 in
theorem mw_5_11 : Cond.instanceMethod yX5_add ∈ pw_T := pw_in (tb_5 (List.mem_of_getElem? (i := 11) (by rfl))) (by decide +kernel)
set_option maxRecDepth 20000 in
theorem mw_5_12 : Cond.selects RX5 yX5_add yX5_add ∈ pw_T := pw_in (tb_5 (List.mem_of_getElem? (i := 12) (by rfl))) (by decide +kernel)
set_option maxRecDepth 20000 in
theorem mw_5_13 : Cond.code yX5_add cX5_add 6 (some .int) ∈ pw_T := pw_in (tb_5 (List.mem_of_getElem? (i := 13) (by rfl))) (by decide +kernel)
set_option maxRecDepth 20000 in
theorem mw_5_15 : Cond.instanceMethod yX10_known ∈ pw_T := pw_in (tb_5 (List.mem_of_getElem? (i := 15) (by rfl))) (by decide +kernel)
set_option maxRecDepth 20000 in
theorem mw_5_16 : Cond.selects RX10 yX10_known yX10_known ∈ pw_T := pw_in (tb_5 (List.mem_of_getElem? (i := 16) (by rfl))) (by decide +kernel)
set_option maxRecDepth 20000 in
theorem mw_5_17 : Cond.code yX10_known cX10_known 2 (some .boolean) ∈ pw_T := pw_in (tb_5 (List.mem_of_getElem? (i := 17) (by rfl))) (by decide +kernel)
set_option maxRecDepth 20000 in
theorem mw_5_19 : Cond.instanceMethod yX10_judged ∈ pw_T := pw_in (tb_5 (List.mem_of_getElem? (i := 19) (by rfl))) (by decide +kernel)
set_option maxRecDepth 20000 in
theorem mw_5_20 : Cond.selects RX10 yX10_judged yX10_judged ∈ pw_T := pw_in (tb_5 (List.mem_of_getElem? (i := 20) (by rfl))) (by decide +kernel)
set_option maxRecDepth 20000 in
theorem mw_5_21 : Cond.code yX10_judged cX10_judged 1 (some .int) ∈ pw_T := pw_in (tb_5 (List.mem_of_getElem? (i := 21) (by rfl))) (by decide +kernel)
set_option maxRecDepth 20000 in
theorem mw_5_23 : Cond.instanceMethod yX5_firstWrong ∈ pw_T := pw_in (tb_5 (List.mem_of_getElem? (i := 23) (by rfl))) (by decide +kernel)
set_option maxRecDepth 20000 in
theorem mw_5_24 : Cond.selects RX5 yX5_firstWrong yX5_firstWrong ∈ pw_T := pw_in (tb_5 (List.mem_of_getElem? (i := 24) (by rfl))) (by decide +kernel)
set_option maxRecDepth 20000 in
theorem mw_5_25 : Cond.code yX5_firstWrong cX5_firstWrong 5 (some .int) ∈ pw_T := pw_in (tb_5 (List.mem_of_getElem? (i := 25) (by rfl))) (by decide +kernel)
set_option maxRecDepth 20000 in
theorem mw_5_27 : Cond.instanceMethod yX5_knownCount ∈ pw_T := pw_in (tb_5 (List.mem_of_getElem? (i := 27) (by rfl))) (by decide +kernel)
set_option maxRecDepth 20000 in
theorem mw_5_28 : Cond.selects RX5 yX5_knownCount yX5_knownCount ∈ pw_T := pw_in (tb_5 (List.mem_of_getElem? (i := 28) (by rfl))) (by decide +kernel)
set_option maxRecDepth 20000 in
theorem mw_5_29 : Cond.code yX5_knownCount cX5_knownCount 1 (some .int) ∈ pw_T := pw_in (tb_5 (List.mem_of_getElem? (i := 29) (by rfl))) (by decide +kernel)
set_option maxRecDepth 20000 in
theorem mw_5_33 : Cond.instanceMethod yX5_isSo ∈ pw_T := pw_in (tb_5 (List.mem_of_getElem? (i := 33) (by rfl))) (by decide +kernel)
set_option maxRecDepth 20000 in
theorem mw_5_34 : Cond.code yX5_isSo cX5_isSo 4 (some .boolean) ∈ pw_T := pw_in (tb_5 (List.mem_of_getElem? (i := 34) (by rfl))) (by decide +kernel)
set_option maxRecDepth 20000 in
theorem mw_5_37 : Cond.instanceMethod yX10_wrong ∈ pw_T := pw_in (tb_5 (List.mem_of_getElem? (i := 37) (by rfl))) (by decide +kernel)
set_option maxRecDepth 20000 in
theorem mw_5_38 : Cond.selects RX10 yX10_wrong yX10_wrong ∈ pw_T := pw_in (tb_5 (List.mem_of_getElem? (i := 38) (by rfl))) (by decide +kernel)
set_option maxRecDepth 20000 in
theorem mw_5_39 : Cond.code yX10_wrong cX10_wrong 3 (some .int) ∈ pw_T := pw_in (tb_5 (List.mem_of_getElem? (i := 39) (by rfl))) (by decide +kernel)
set_option maxRecDepth 20000 in
theorem mw_5_42 : Cond.instanceMethod yX10_findWays ∈ pw_T := pw_in (tb_5 (List.mem_of_getElem? (i := 42) (by rfl))) (by decide +kernel)
set_option maxRecDepth 20000 in
theorem mw_5_43 : Cond.code yX10_findWays cX10_findWays 3 none ∈ pw_T := pw_in (tb_5 (List.mem_of_getElem? (i := 43) (by rfl))) (by decide +kernel)
set_option maxRecDepth 20000 in
theorem mw_5_45 : Cond.instanceMethod yX9_start ∈ pw_T := pw_in (tb_5 (List.mem_of_getElem? (i := 45) (by rfl))) (by decide +kernel)
set_option maxRecDepth 20000 in
theorem mw_5_46 : Cond.selects RX9 yX9_start yX9_start ∈ pw_T := pw_in (tb_5 (List.mem_of_getElem? (i := 46) (by rfl))) (by decide +kernel)
set_option maxRecDepth 20000 in
theorem mw_5_47 : Cond.code yX9_start cX9_start 2 none ∈ pw_T := pw_in (tb_5 (List.mem_of_getElem? (i := 47) (by rfl))) (by decide +kernel)
set_option maxRecDepth 20000 in
theorem mw_5_49 : Cond.instanceMethod yX5_fit ∈ pw_T := pw_in (tb_5 (List.mem_of_getElem? (i := 49) (by rfl))) (by decide +kernel)
set_option maxRecDepth 20000 in
theorem mw_5_50 : Cond.selects RX5 yX5_fit yX5_fit ∈ pw_T := pw_in (tb_5 (List.mem_of_getElem? (i := 50) (by rfl))) (by decide +kernel)
set_option maxRecDepth 20000 in
theorem mw_5_51 : Cond.code yX5_fit cX5_fit 5 (some .boolean) ∈ pw_T := pw_in (tb_5 (List.mem_of_getElem? (i := 51) (by rfl))) (by decide +kernel)
set_option maxRecDepth 20000 in
theorem mw_5_53 : Cond.instanceMethod yX9_add ∈ pw_T := pw_in (tb_5 (List.mem_of_getElem? (i := 53) (by rfl))) (by decide +kernel)
set_option maxRecDepth 20000 in
theorem mw_5_54 : Cond.selects RX9 yX9_add yX9_add ∈ pw_T := pw_in (tb_5 (List.mem_of_getElem? (i := 54) (by rfl))) (by decide +kernel)
set_option maxRecDepth 20000 in
theorem mw_5_55 : Cond.code yX9_add cX9_add 2 none ∈ pw_T := pw_in (tb_5 (List.mem_of_getElem? (i := 55) (by rfl))) (by decide +kernel)
set_option maxRecDepth 20000 in
theorem mw_5_57 : Cond.instanceMethod yX10_way ∈ pw_T := pw_in (tb_5 (List.mem_of_getElem? (i := 57) (by rfl))) (by decide +kernel)
set_option maxRecDepth 20000 in
theorem mw_5_58 : Cond.selects RX10 yX10_way yX10_way ∈ pw_T := pw_in (tb_5 (List.mem_of_getElem? (i := 58) (by rfl))) (by decide +kernel)
set_option maxRecDepth 20000 in
theorem mw_5_59 : Cond.code yX10_way cX10_way 4 (some .int) ∈ pw_T := pw_in (tb_5 (List.mem_of_getElem? (i := 59) (by rfl))) (by decide +kernel)
set_option maxRecDepth 20000 in
theorem mw_5_61 : Cond.instanceMethod yX10_tried ∈ pw_T := pw_in (tb_5 (List.mem_of_getElem? (i := 61) (by rfl))) (by decide +kernel)
set_option maxRecDepth 20000 in
theorem mw_5_62 : Cond.selects RX10 yX10_tried yX10_tried ∈ pw_T := pw_in (tb_5 (List.mem_of_getElem? (i := 62) (by rfl))) (by decide +kernel)
set_option maxRecDepth 20000 in
theorem mw_5_63 : Cond.code yX10_tried cX10_tried 3 (some .int) ∈ pw_T := pw_in (tb_5 (List.mem_of_getElem? (i := 63) (by rfl))) (by decide +kernel)
set_option maxRecDepth 20000 in
theorem mw_5_66 : Cond.instanceMethod yX10_canTry ∈ pw_T := pw_in (tb_5 (List.mem_of_getElem? (i := 66) (by rfl))) (by decide +kernel)
set_option maxRecDepth 20000 in
theorem mw_5_67 : Cond.code yX10_canTry cX10_canTry 3 (some .boolean) ∈ pw_T := pw_in (tb_5 (List.mem_of_getElem? (i := 67) (by rfl))) (by decide +kernel)
set_option maxRecDepth 20000 in
theorem mw_5_70 : Cond.instanceMethod yX10_runOtherwise ∈ pw_T := pw_in (tb_5 (List.mem_of_getElem? (i := 70) (by rfl))) (by decide +kernel)
set_option maxRecDepth 20000 in
theorem mw_5_71 : Cond.code yX10_runOtherwise cX10_runOtherwise 3 none ∈ pw_T := pw_in (tb_5 (List.mem_of_getElem? (i := 71) (by rfl))) (by decide +kernel)
set_option maxRecDepth 20000 in
theorem mw_5_73 : Cond.instanceMethod yX3_change ∈ pw_T := pw_in (tb_5 (List.mem_of_getElem? (i := 73) (by rfl))) (by decide +kernel)
set_option maxRecDepth 20000 in
theorem mw_5_74 : Cond.selects RX3 yX3_change yX3_change ∈ pw_T := pw_in (tb_5 (List.mem_of_getElem? (i := 74) (by rfl))) (by decide +kernel)
set_option maxRecDepth 20000 in
theorem mw_5_75 : Cond.code yX3_change cX3_change 3 none ∈ pw_T := pw_in (tb_5 (List.mem_of_getElem? (i := 75) (by rfl))) (by decide +kernel)
set_option maxRecDepth 20000 in
theorem mw_5_78 : Cond.instanceMethod yX3_dropRules ∈ pw_T := pw_in (tb_5 (List.mem_of_getElem? (i := 78) (by rfl))) (by decide +kernel)
set_option maxRecDepth 20000 in
theorem mw_5_79 : Cond.code yX3_dropRules cX3_dropRules 2 none ∈ pw_T := pw_in (tb_5 (List.mem_of_getElem? (i := 79) (by rfl))) (by decide +kernel)
set_option maxRecDepth 20000 in
theorem mw_5_82 : Cond.instanceMethod yX3_makeRight ∈ pw_T := pw_in (tb_5 (List.mem_of_getElem? (i := 82) (by rfl))) (by decide +kernel)
set_option maxRecDepth 20000 in
theorem mw_5_83 : Cond.selects RX3 yX3_makeRight yX3_makeRight ∈ pw_T := pw_in (tb_5 (List.mem_of_getElem? (i := 83) (by rfl))) (by decide +kernel)
set_option maxRecDepth 20000 in
theorem mw_5_84 : Cond.code yX3_makeRight cX3_makeRight 2 none ∈ pw_T := pw_in (tb_5 (List.mem_of_getElem? (i := 84) (by rfl))) (by decide +kernel)
set_option maxRecDepth 20000 in
theorem mw_5_87 : Cond.instanceMethod yX3_setCustom ∈ pw_T := pw_in (tb_5 (List.mem_of_getElem? (i := 87) (by rfl))) (by decide +kernel)
set_option maxRecDepth 20000 in
theorem mw_5_88 : Cond.code yX3_setCustom cX3_setCustom 3 none ∈ pw_T := pw_in (tb_5 (List.mem_of_getElem? (i := 88) (by rfl))) (by decide +kernel)
set_option maxRecDepth 20000 in
theorem mw_5_90 : Cond.instanceMethod yX0_apart ∈ pw_T := pw_in (tb_5 (List.mem_of_getElem? (i := 90) (by rfl))) (by decide +kernel)
set_option maxRecDepth 20000 in
theorem mw_5_91 : Cond.selects RX0 yX0_apart yX0_apart ∈ pw_T := pw_in (tb_5 (List.mem_of_getElem? (i := 91) (by rfl))) (by decide +kernel)
set_option maxRecDepth 20000 in
theorem mw_5_92 : Cond.code yX0_apart cX0_apart 6 (some .int) ∈ pw_T := pw_in (tb_5 (List.mem_of_getElem? (i := 92) (by rfl))) (by decide +kernel)
set_option maxRecDepth 20000 in
theorem mw_5_99 : Cond.instanceMethod yX10_other ∈ pw_T := pw_in (tb_5 (List.mem_of_getElem? (i := 99) (by rfl))) (by decide +kernel)
set_option maxRecDepth 20000 in
theorem mw_5_100 : Cond.selects RX10 yX10_other yX10_other ∈ pw_T := pw_in (tb_5 (List.mem_of_getElem? (i := 100) (by rfl))) (by decide +kernel)
set_option maxRecDepth 20000 in
theorem mw_5_101 : Cond.code yX10_other cX10_other 5 (some .int) ∈ pw_T := pw_in (tb_5 (List.mem_of_getElem? (i := 101) (by rfl))) (by decide +kernel)
set_option maxRecDepth 20000 in
theorem mw_5_103 : Cond.instanceMethod yX10_agree ∈ pw_T := pw_in (tb_5 (List.mem_of_getElem? (i := 103) (by rfl))) (by decide +kernel)
set_option maxRecDepth 20000 in
theorem mw_5_104 : Cond.selects RX10 yX10_agree yX10_agree ∈ pw_T := pw_in (tb_5 (List.mem_of_getElem? (i := 104) (by rfl))) (by decide +kernel)
set_option maxRecDepth 20000 in
theorem mw_5_105 : Cond.code yX10_agree cX10_agree 4 (some .int) ∈ pw_T := pw_in (tb_5 (List.mem_of_getElem? (i := 105) (by rfl))) (by decide +kernel)
set_option maxRecDepth 20000 in
theorem mw_5_108 : Cond.instanceMethod yX10_often ∈ pw_T := pw_in (tb_5 (List.mem_of_getElem? (i := 108) (by rfl))) (by decide +kernel)
set_option maxRecDepth 20000 in
theorem mw_5_109 : Cond.selects RX10 yX10_often yX10_often ∈ pw_T := pw_in (tb_5 (List.mem_of_getElem? (i := 109) (by rfl))) (by decide +kernel)
set_option maxRecDepth 20000 in
theorem mw_5_110 : Cond.code yX10_often cX10_often 4 (some .int) ∈ pw_T := pw_in (tb_5 (List.mem_of_getElem? (i := 110) (by rfl))) (by decide +kernel)
set_option maxRecDepth 20000 in
theorem mw_5_113 : Cond.instanceMethod yX10_isEnough ∈ pw_T := pw_in (tb_5 (List.mem_of_getElem? (i := 113) (by rfl))) (by decide +kernel)
set_option maxRecDepth 20000 in
theorem mw_5_114 : Cond.code yX10_isEnough cX10_isEnough 5 (some .boolean) ∈ pw_T := pw_in (tb_5 (List.mem_of_getElem? (i := 114) (by rfl))) (by decide +kernel)
set_option maxRecDepth 20000 in
theorem mw_5_117 : Cond.instanceMethod yX0_noteAll ∈ pw_T := pw_in (tb_5 (List.mem_of_getElem? (i := 117) (by rfl))) (by decide +kernel)
set_option maxRecDepth 20000 in
theorem mw_5_118 : Cond.selects RX0 yX0_noteAll yX0_noteAll ∈ pw_T := pw_in (tb_5 (List.mem_of_getElem? (i := 118) (by rfl))) (by decide +kernel)
set_option maxRecDepth 20000 in
theorem mw_5_119 : Cond.code yX0_noteAll cX0_noteAll 3 none ∈ pw_T := pw_in (tb_5 (List.mem_of_getElem? (i := 119) (by rfl))) (by decide +kernel)
set_option maxRecDepth 20000 in
theorem mw_5_121 : Cond.instanceMethod yX10_fewest ∈ pw_T := pw_in (tb_5 (List.mem_of_getElem? (i := 121) (by rfl))) (by decide +kernel)
set_option maxRecDepth 20000 in
theorem mw_5_122 : Cond.selects RX10 yX10_fewest yX10_fewest ∈ pw_T := pw_in (tb_5 (List.mem_of_getElem? (i := 122) (by rfl))) (by decide +kernel)
set_option maxRecDepth 20000 in
theorem mw_5_123 : Cond.code yX10_fewest cX10_fewest 5 (some .int) ∈ pw_T := pw_in (tb_5 (List.mem_of_getElem? (i := 123) (by rfl))) (by decide +kernel)
set_option maxRecDepth 20000 in
theorem mw_5_125 : Cond.static yJ6_bitCount_0f7a4 ∈ pw_T := pw_in (tb_5 (List.mem_of_getElem? (i := 125) (by rfl))) (by decide +kernel)
set_option maxRecDepth 20000 in
theorem mw_5_126 : Cond.code yJ6_bitCount_0f7a4 cJ6_bitCount_0f7a4 1 (some .int) ∈ pw_T := pw_in (tb_5 (List.mem_of_getElem? (i := 126) (by rfl))) (by decide +kernel)
set_option maxRecDepth 20000 in
theorem mw_5_132 : Cond.instanceMethod yX10_holdAll ∈ pw_T := pw_in (tb_5 (List.mem_of_getElem? (i := 132) (by rfl))) (by decide +kernel)
set_option maxRecDepth 20000 in
theorem mw_5_133 : Cond.code yX10_holdAll cX10_holdAll 4 (some .boolean) ∈ pw_T := pw_in (tb_5 (List.mem_of_getElem? (i := 133) (by rfl))) (by decide +kernel)
set_option maxRecDepth 20000 in
theorem mw_5_136 : Cond.instanceMethod yX10_purpose ∈ pw_T := pw_in (tb_5 (List.mem_of_getElem? (i := 136) (by rfl))) (by decide +kernel)
set_option maxRecDepth 20000 in
theorem mw_5_137 : Cond.selects RX10 yX10_purpose yX10_purpose ∈ pw_T := pw_in (tb_5 (List.mem_of_getElem? (i := 137) (by rfl))) (by decide +kernel)
set_option maxRecDepth 20000 in
theorem mw_5_138 : Cond.code yX10_purpose cX10_purpose 7 (some .int) ∈ pw_T := pw_in (tb_5 (List.mem_of_getElem? (i := 138) (by rfl))) (by decide +kernel)
set_option maxRecDepth 20000 in
theorem mw_5_141 : Cond.instanceMethod yX10_findPurpose ∈ pw_T := pw_in (tb_5 (List.mem_of_getElem? (i := 141) (by rfl))) (by decide +kernel)
set_option maxRecDepth 20000 in
theorem mw_5_142 : Cond.code yX10_findPurpose cX10_findPurpose 4 none ∈ pw_T := pw_in (tb_5 (List.mem_of_getElem? (i := 142) (by rfl))) (by decide +kernel)
set_option maxRecDepth 20000 in
theorem mw_5_144 : Cond.instanceMethod yX10_waits ∈ pw_T := pw_in (tb_5 (List.mem_of_getElem? (i := 144) (by rfl))) (by decide +kernel)
set_option maxRecDepth 20000 in
theorem mw_5_145 : Cond.selects RX10 yX10_waits yX10_waits ∈ pw_T := pw_in (tb_5 (List.mem_of_getElem? (i := 145) (by rfl))) (by decide +kernel)
set_option maxRecDepth 20000 in
theorem mw_5_146 : Cond.code yX10_waits cX10_waits 3 (some .int) ∈ pw_T := pw_in (tb_5 (List.mem_of_getElem? (i := 146) (by rfl))) (by decide +kernel)
set_option maxRecDepth 20000 in
theorem mw_5_148 : Cond.instanceMethod yX10_keep ∈ pw_T := pw_in (tb_5 (List.mem_of_getElem? (i := 148) (by rfl))) (by decide +kernel)
set_option maxRecDepth 20000 in
theorem mw_5_149 : Cond.selects RX10 yX10_keep yX10_keep ∈ pw_T := pw_in (tb_5 (List.mem_of_getElem? (i := 149) (by rfl))) (by decide +kernel)
set_option maxRecDepth 20000 in
theorem mw_5_150 : Cond.code yX10_keep cX10_keep 1 (some .int) ∈ pw_T := pw_in (tb_5 (List.mem_of_getElem? (i := 150) (by rfl))) (by decide +kernel)
set_option maxRecDepth 20000 in
theorem mw_5_152 : Cond.instanceMethod yX10_back ∈ pw_T := pw_in (tb_5 (List.mem_of_getElem? (i := 152) (by rfl))) (by decide +kernel)
set_option maxRecDepth 20000 in
theorem mw_5_153 : Cond.selects RX10 yX10_back yX10_back ∈ pw_T := pw_in (tb_5 (List.mem_of_getElem? (i := 153) (by rfl))) (by decide +kernel)
set_option maxRecDepth 20000 in
theorem mw_5_154 : Cond.code yX10_back cX10_back 1 (some .int) ∈ pw_T := pw_in (tb_5 (List.mem_of_getElem? (i := 154) (by rfl))) (by decide +kernel)
set_option maxRecDepth 20000 in
theorem mw_5_156 : Cond.instanceMethod yX10_count ∈ pw_T := pw_in (tb_5 (List.mem_of_getElem? (i := 156) (by rfl))) (by decide +kernel)
set_option maxRecDepth 20000 in
theorem mw_5_157 : Cond.selects RX10 yX10_count yX10_count ∈ pw_T := pw_in (tb_5 (List.mem_of_getElem? (i := 157) (by rfl))) (by decide +kernel)
set_option maxRecDepth 20000 in
theorem mw_5_158 : Cond.code yX10_count cX10_count 2 (some .int) ∈ pw_T := pw_in (tb_5 (List.mem_of_getElem? (i := 158) (by rfl))) (by decide +kernel)
set_option maxRecDepth 20000 in
theorem mw_5_161 : Cond.static yL_look ∈ pw_T := pw_in (tb_5 (List.mem_of_getElem? (i := 161) (by rfl))) (by decide +kernel)
set_option maxRecDepth 20000 in
theorem mw_5_166 : Cond.instanceMethod yX10_look ∈ pw_T := pw_in (tb_5 (List.mem_of_getElem? (i := 166) (by rfl))) (by decide +kernel)
set_option maxRecDepth 20000 in
theorem mw_5_167 : Cond.selects RX10 yX10_look yX10_look ∈ pw_T := pw_in (tb_5 (List.mem_of_getElem? (i := 167) (by rfl))) (by decide +kernel)
set_option maxRecDepth 20000 in
theorem mw_5_168 : Cond.code yX10_look cX10_look 3 (some .int) ∈ pw_T := pw_in (tb_5 (List.mem_of_getElem? (i := 168) (by rfl))) (by decide +kernel)
set_option maxRecDepth 20000 in
theorem mw_6_12 : Cond.instantiable RX11 73 ∈ pw_T := pw_in (tb_6 (List.mem_of_getElem? (i := 12) (by rfl))) (by decide +kernel)
set_option maxRecDepth 20000 in
theorem mw_6_14 : Cond.instanceMethod yX11_init ∈ pw_T := pw_in (tb_6 (List.mem_of_getElem? (i := 14) (by rfl))) (by decide +kernel)
set_option maxRecDepth 20000 in
theorem mw_6_15 : Cond.code yX11_init cX11_init 1 none ∈ pw_T := pw_in (tb_6 (List.mem_of_getElem? (i := 15) (by rfl))) (by decide +kernel)
set_option maxRecDepth 20000 in
theorem mw_6_238 : Cond.instanceMethod yX11_feed ∈ pw_T := pw_in (tb_6 (List.mem_of_getElem? (i := 238) (by rfl))) (by decide +kernel)
set_option maxRecDepth 20000 in
theorem mw_6_239 : Cond.selects RX11 yX11_feed yX11_feed ∈ pw_T := pw_in (tb_6 (List.mem_of_getElem? (i := 239) (by rfl))) (by decide +kernel)
set_option maxRecDepth 20000 in
theorem mw_7_0 : Cond.code yX11_feed cX11_feed 8 (some .int) ∈ pw_T := pw_in (tb_7 (List.mem_of_getElem? (i := 0) (by rfl))) (by decide +kernel)
set_option maxRecDepth 20000 in
theorem mw_7_2 : Cond.instanceMethod yX11_text ∈ pw_T := pw_in (tb_7 (List.mem_of_getElem? (i := 2) (by rfl))) (by decide +kernel)
set_option maxRecDepth 20000 in
theorem mw_7_3 : Cond.selects RX11 yX11_text yX11_text ∈ pw_T := pw_in (tb_7 (List.mem_of_getElem? (i := 3) (by rfl))) (by decide +kernel)
set_option maxRecDepth 20000 in
theorem mw_7_4 : Cond.code yX11_text cX11_text 3 (some .int) ∈ pw_T := pw_in (tb_7 (List.mem_of_getElem? (i := 4) (by rfl))) (by decide +kernel)
set_option maxRecDepth 20000 in
theorem mw_7_7 : Cond.instanceMethod yX11_token ∈ pw_T := pw_in (tb_7 (List.mem_of_getElem? (i := 7) (by rfl))) (by decide +kernel)
set_option maxRecDepth 20000 in
theorem mw_7_8 : Cond.code yX11_token cX11_token 2 none ∈ pw_T := pw_in (tb_7 (List.mem_of_getElem? (i := 8) (by rfl))) (by decide +kernel)
set_option maxRecDepth 20000 in
theorem mw_7_11 : Cond.instanceMethod yX11_here ∈ pw_T := pw_in (tb_7 (List.mem_of_getElem? (i := 11) (by rfl))) (by decide +kernel)
set_option maxRecDepth 20000 in
theorem mw_7_12 : Cond.code yX11_here cX11_here 1 (some .int) ∈ pw_T := pw_in (tb_7 (List.mem_of_getElem? (i := 12) (by rfl))) (by decide +kernel)
set_option maxRecDepth 20000 in
theorem mw_7_14 : Cond.static yX11_isSmall ∈ pw_T := pw_in (tb_7 (List.mem_of_getElem? (i := 14) (by rfl))) (by decide +kernel)
set_option maxRecDepth 20000 in
theorem mw_7_15 : Cond.code yX11_isSmall cX11_isSmall 1 (some .boolean) ∈ pw_T := pw_in (tb_7 (List.mem_of_getElem? (i := 15) (by rfl))) (by decide +kernel)
set_option maxRecDepth 20000 in
theorem mw_7_18 : Cond.instanceMethod yX11_word ∈ pw_T := pw_in (tb_7 (List.mem_of_getElem? (i := 18) (by rfl))) (by decide +kernel)
set_option maxRecDepth 20000 in
theorem mw_7_19 : Cond.code yX11_word cX11_word 4 (some .int) ∈ pw_T := pw_in (tb_7 (List.mem_of_getElem? (i := 19) (by rfl))) (by decide +kernel)
set_option maxRecDepth 20000 in
theorem mw_7_25 : Cond.instanceMethod yX11_name ∈ pw_T := pw_in (tb_7 (List.mem_of_getElem? (i := 25) (by rfl))) (by decide +kernel)
set_option maxRecDepth 20000 in
theorem mw_7_26 : Cond.code yX11_name cX11_name 2 none ∈ pw_T := pw_in (tb_7 (List.mem_of_getElem? (i := 26) (by rfl))) (by decide +kernel)
set_option maxRecDepth 20000 in
theorem mw_7_28 : Cond.static yX11_isDigit ∈ pw_T := pw_in (tb_7 (List.mem_of_getElem? (i := 28) (by rfl))) (by decide +kernel)
set_option maxRecDepth 20000 in
theorem mw_7_29 : Cond.code yX11_isDigit cX11_isDigit 1 (some .boolean) ∈ pw_T := pw_in (tb_7 (List.mem_of_getElem? (i := 29) (by rfl))) (by decide +kernel)
set_option maxRecDepth 20000 in
theorem mw_7_33 : Cond.instanceMethod yX11_sign ∈ pw_T := pw_in (tb_7 (List.mem_of_getElem? (i := 33) (by rfl))) (by decide +kernel)
set_option maxRecDepth 20000 in
theorem mw_7_34 : Cond.code yX11_sign cX11_sign 2 none ∈ pw_T := pw_in (tb_7 (List.mem_of_getElem? (i := 34) (by rfl))) (by decide +kernel)
set_option maxRecDepth 20000 in
theorem mw_7_37 : Cond.instanceMethod yX11_line ∈ pw_T := pw_in (tb_7 (List.mem_of_getElem? (i := 37) (by rfl))) (by decide +kernel)
set_option maxRecDepth 20000 in
theorem mw_7_38 : Cond.code yX11_line cX11_line 4 none ∈ pw_T := pw_in (tb_7 (List.mem_of_getElem? (i := 38) (by rfl))) (by decide +kernel)
set_option maxRecDepth 20000 in
theorem mw_7_41 : Cond.instanceMethod yX11_wrong0 ∈ pw_T := pw_in (tb_7 (List.mem_of_getElem? (i := 41) (by rfl))) (by decide +kernel)
set_option maxRecDepth 20000 in
theorem mw_7_42 : Cond.code yX11_wrong0 cX11_wrong0 2 none ∈ pw_T := pw_in (tb_7 (List.mem_of_getElem? (i := 42) (by rfl))) (by decide +kernel)
set_option maxRecDepth 20000 in
theorem mw_7_45 : Cond.instanceMethod yX11_fresher ∈ pw_T := pw_in (tb_7 (List.mem_of_getElem? (i := 45) (by rfl))) (by decide +kernel)
set_option maxRecDepth 20000 in
theorem mw_7_46 : Cond.code yX11_fresher cX11_fresher 2 (some .int) ∈ pw_T := pw_in (tb_7 (List.mem_of_getElem? (i := 46) (by rfl))) (by decide +kernel)
set_option maxRecDepth 20000 in
theorem mw_7_49 : Cond.instanceMethod yX11_fresh ∈ pw_T := pw_in (tb_7 (List.mem_of_getElem? (i := 49) (by rfl))) (by decide +kernel)
set_option maxRecDepth 20000 in
theorem mw_7_50 : Cond.code yX11_fresh cX11_fresh 5 (some .int) ∈ pw_T := pw_in (tb_7 (List.mem_of_getElem? (i := 50) (by rfl))) (by decide +kernel)
set_option maxRecDepth 20000 in
theorem mw_7_52 : Cond.static yX11_found ∈ pw_T := pw_in (tb_7 (List.mem_of_getElem? (i := 52) (by rfl))) (by decide +kernel)
set_option maxRecDepth 20000 in
theorem mw_7_53 : Cond.code yX11_found cX11_found 5 (some .int) ∈ pw_T := pw_in (tb_7 (List.mem_of_getElem? (i := 53) (by rfl))) (by decide +kernel)
set_option maxRecDepth 20000 in
theorem mw_7_57 : Cond.instanceMethod yX11_signed ∈ pw_T := pw_in (tb_7 (List.mem_of_getElem? (i := 57) (by rfl))) (by decide +kernel)
set_option maxRecDepth 20000 in
theorem mw_7_58 : Cond.code yX11_signed cX11_signed 4 (some .int) ∈ pw_T := pw_in (tb_7 (List.mem_of_getElem? (i := 58) (by rfl))) (by decide +kernel)
set_option maxRecDepth 20000 in
theorem mw_7_61 : Cond.instanceMethod yX11_isSign ∈ pw_T := pw_in (tb_7 (List.mem_of_getElem? (i := 61) (by rfl))) (by decide +kernel)
set_option maxRecDepth 20000 in
theorem mw_7_62 : Cond.code yX11_isSign cX11_isSign 2 (some .boolean) ∈ pw_T := pw_in (tb_7 (List.mem_of_getElem? (i := 62) (by rfl))) (by decide +kernel)
set_option maxRecDepth 20000 in
theorem mw_7_65 : Cond.instanceMethod yX11_numeral ∈ pw_T := pw_in (tb_7 (List.mem_of_getElem? (i := 65) (by rfl))) (by decide +kernel)
set_option maxRecDepth 20000 in
theorem mw_7_66 : Cond.code yX11_numeral cX11_numeral 4 (some .int) ∈ pw_T := pw_in (tb_7 (List.mem_of_getElem? (i := 66) (by rfl))) (by decide +kernel)
set_option maxRecDepth 20000 in
theorem mw_7_69 : Cond.instanceMethod yX11_more ∈ pw_T := pw_in (tb_7 (List.mem_of_getElem? (i := 69) (by rfl))) (by decide +kernel)
set_option maxRecDepth 20000 in
theorem mw_7_70 : Cond.code yX11_more cX11_more 9 none ∈ pw_T := pw_in (tb_7 (List.mem_of_getElem? (i := 70) (by rfl))) (by decide +kernel)
set_option maxRecDepth 20000 in
theorem mw_7_73 : Cond.instanceMethod yX11_isWord ∈ pw_T := pw_in (tb_7 (List.mem_of_getElem? (i := 73) (by rfl))) (by decide +kernel)
set_option maxRecDepth 20000 in
theorem mw_7_74 : Cond.code yX11_isWord cX11_isWord 2 (some .boolean) ∈ pw_T := pw_in (tb_7 (List.mem_of_getElem? (i := 74) (by rfl))) (by decide +kernel)
set_option maxRecDepth 20000 in
theorem mw_7_77 : Cond.instanceMethod yX11_goOn ∈ pw_T := pw_in (tb_7 (List.mem_of_getElem? (i := 77) (by rfl))) (by decide +kernel)
set_option maxRecDepth 20000 in
theorem mw_7_78 : Cond.code yX11_goOn cX11_goOn 1 none ∈ pw_T := pw_in (tb_7 (List.mem_of_getElem? (i := 78) (by rfl))) (by decide +kernel)
set_option maxRecDepth 20000 in
theorem mw_7_81 : Cond.instanceMethod yX11_expression ∈ pw_T := pw_in (tb_7 (List.mem_of_getElem? (i := 81) (by rfl))) (by decide +kernel)
set_option maxRecDepth 20000 in
theorem mw_7_82 : Cond.code yX11_expression cX11_expression 1 none ∈ pw_T := pw_in (tb_7 (List.mem_of_getElem? (i := 82) (by rfl))) (by decide +kernel)
set_option maxRecDepth 20000 in
theorem mw_7_85 : Cond.instanceMethod yX11_conjunction ∈ pw_T := pw_in (tb_7 (List.mem_of_getElem? (i := 85) (by rfl))) (by decide +kernel)
set_option maxRecDepth 20000 in
theorem mw_7_86 : Cond.code yX11_conjunction cX11_conjunction 1 none ∈ pw_T := pw_in (tb_7 (List.mem_of_getElem? (i := 86) (by rfl))) (by decide +kernel)
set_option maxRecDepth 20000 in
theorem mw_7_89 : Cond.instanceMethod yX11_negation ∈ pw_T := pw_in (tb_7 (List.mem_of_getElem? (i := 89) (by rfl))) (by decide +kernel)
set_option maxRecDepth 20000 in
theorem mw_7_90 : Cond.code yX11_negation cX11_negation 2 none ∈ pw_T := pw_in (tb_7 (List.mem_of_getElem? (i := 90) (by rfl))) (by decide +kernel)
set_option maxRecDepth 20000 in
theorem mw_7_93 : Cond.instanceMethod yX11_knot ∈ pw_T := pw_in (tb_7 (List.mem_of_getElem? (i := 93) (by rfl))) (by decide +kernel)
set_option maxRecDepth 20000 in
theorem mw_7_94 : Cond.code yX11_knot cX11_knot 1 none ∈ pw_T := pw_in (tb_7 (List.mem_of_getElem? (i := 94) (by rfl))) (by decide +kernel)
set_option maxRecDepth 20000 in
theorem mw_7_97 : Cond.instanceMethod yX11_puts ∈ pw_T := pw_in (tb_7 (List.mem_of_getElem? (i := 97) (by rfl))) (by decide +kernel)
set_option maxRecDepth 20000 in
theorem mw_7_98 : Cond.code yX11_puts cX11_puts 3 none ∈ pw_T := pw_in (tb_7 (List.mem_of_getElem? (i := 98) (by rfl))) (by decide +kernel)
set_option maxRecDepth 20000 in
theorem mw_7_101 : Cond.instanceMethod yX11_oneMore ∈ pw_T := pw_in (tb_7 (List.mem_of_getElem? (i := 101) (by rfl))) (by decide +kernel)
set_option maxRecDepth 20000 in
theorem mw_7_102 : Cond.code yX11_oneMore cX11_oneMore 2 none ∈ pw_T := pw_in (tb_7 (List.mem_of_getElem? (i := 102) (by rfl))) (by decide +kernel)
set_option maxRecDepth 20000 in
theorem mw_7_105 : Cond.instanceMethod yX11_sum ∈ pw_T := pw_in (tb_7 (List.mem_of_getElem? (i := 105) (by rfl))) (by decide +kernel)
set_option maxRecDepth 20000 in
theorem mw_7_106 : Cond.code yX11_sum cX11_sum 2 none ∈ pw_T := pw_in (tb_7 (List.mem_of_getElem? (i := 106) (by rfl))) (by decide +kernel)
set_option maxRecDepth 20000 in
theorem mw_7_109 : Cond.instanceMethod yX11_product ∈ pw_T := pw_in (tb_7 (List.mem_of_getElem? (i := 109) (by rfl))) (by decide +kernel)
set_option maxRecDepth 20000 in
theorem mw_7_110 : Cond.code yX11_product cX11_product 2 none ∈ pw_T := pw_in (tb_7 (List.mem_of_getElem? (i := 110) (by rfl))) (by decide +kernel)
set_option maxRecDepth 20000 in
theorem mw_7_113 : Cond.instanceMethod yX11_primary ∈ pw_T := pw_in (tb_7 (List.mem_of_getElem? (i := 113) (by rfl))) (by decide +kernel)
set_option maxRecDepth 20000 in
theorem mw_7_114 : Cond.code yX11_primary cX11_primary 2 none ∈ pw_T := pw_in (tb_7 (List.mem_of_getElem? (i := 114) (by rfl))) (by decide +kernel)
set_option maxRecDepth 20000 in
theorem mw_7_117 : Cond.instanceMethod yX11_personLine ∈ pw_T := pw_in (tb_7 (List.mem_of_getElem? (i := 117) (by rfl))) (by decide +kernel)
set_option maxRecDepth 20000 in
theorem mw_7_118 : Cond.code yX11_personLine cX11_personLine 2 none ∈ pw_T := pw_in (tb_7 (List.mem_of_getElem? (i := 118) (by rfl))) (by decide +kernel)
set_option maxRecDepth 20000 in
theorem mw_7_121 : Cond.instanceMethod yX11_ahead ∈ pw_T := pw_in (tb_7 (List.mem_of_getElem? (i := 121) (by rfl))) (by decide +kernel)
set_option maxRecDepth 20000 in
theorem mw_7_122 : Cond.code yX11_ahead cX11_ahead 5 (some .int) ∈ pw_T := pw_in (tb_7 (List.mem_of_getElem? (i := 122) (by rfl))) (by decide +kernel)
set_option maxRecDepth 20000 in
theorem mw_7_124 : Cond.static yX11_half ∈ pw_T := pw_in (tb_7 (List.mem_of_getElem? (i := 124) (by rfl))) (by decide +kernel)
set_option maxRecDepth 20000 in
theorem mw_7_125 : Cond.code yX11_half cX11_half 3 none ∈ pw_T := pw_in (tb_7 (List.mem_of_getElem? (i := 125) (by rfl))) (by decide +kernel)
set_option maxRecDepth 20000 in
theorem mw_7_128 : Cond.instanceMethod yX11_plain ∈ pw_T := pw_in (tb_7 (List.mem_of_getElem? (i := 128) (by rfl))) (by decide +kernel)
set_option maxRecDepth 20000 in
theorem mw_7_129 : Cond.code yX11_plain cX11_plain 1 none ∈ pw_T := pw_in (tb_7 (List.mem_of_getElem? (i := 129) (by rfl))) (by decide +kernel)
set_option maxRecDepth 20000 in
theorem mw_7_132 : Cond.instanceMethod yX11_starts ∈ pw_T := pw_in (tb_7 (List.mem_of_getElem? (i := 132) (by rfl))) (by decide +kernel)
set_option maxRecDepth 20000 in
theorem mw_7_133 : Cond.code yX11_starts cX11_starts 2 none ∈ pw_T := pw_in (tb_7 (List.mem_of_getElem? (i := 133) (by rfl))) (by decide +kernel)
set_option maxRecDepth 20000 in
theorem mw_7_136 : Cond.instanceMethod yX11_things ∈ pw_T := pw_in (tb_7 (List.mem_of_getElem? (i := 136) (by rfl))) (by decide +kernel)
set_option maxRecDepth 20000 in
theorem mw_7_137 : Cond.code yX11_things cX11_things 1 (some .int) ∈ pw_T := pw_in (tb_7 (List.mem_of_getElem? (i := 137) (by rfl))) (by decide +kernel)
set_option maxRecDepth 20000 in
theorem mw_7_140 : Cond.instanceMethod yX11_begins ∈ pw_T := pw_in (tb_7 (List.mem_of_getElem? (i := 140) (by rfl))) (by decide +kernel)
set_option maxRecDepth 20000 in
theorem mw_7_141 : Cond.code yX11_begins cX11_begins 5 none ∈ pw_T := pw_in (tb_7 (List.mem_of_getElem? (i := 141) (by rfl))) (by decide +kernel)
set_option maxRecDepth 20000 in
theorem mw_7_144 : Cond.instanceMethod yX11_isRight ∈ pw_T := pw_in (tb_7 (List.mem_of_getElem? (i := 144) (by rfl))) (by decide +kernel)
set_option maxRecDepth 20000 in
theorem mw_7_145 : Cond.code yX11_isRight cX11_isRight 2 (some .boolean) ∈ pw_T := pw_in (tb_7 (List.mem_of_getElem? (i := 145) (by rfl))) (by decide +kernel)
set_option maxRecDepth 20000 in
theorem mw_7_147 : Cond.instanceMethod yX11_fault ∈ pw_T := pw_in (tb_7 (List.mem_of_getElem? (i := 147) (by rfl))) (by decide +kernel)
set_option maxRecDepth 20000 in
theorem mw_7_148 : Cond.selects RX11 yX11_fault yX11_fault ∈ pw_T := pw_in (tb_7 (List.mem_of_getElem? (i := 148) (by rfl))) (by decide +kernel)
set_option maxRecDepth 20000 in
theorem mw_7_149 : Cond.code yX11_fault cX11_fault 2 (some .int) ∈ pw_T := pw_in (tb_7 (List.mem_of_getElem? (i := 149) (by rfl))) (by decide +kernel)
set_option maxRecDepth 20000 in
theorem mw_7_151 : Cond.instanceMethod yX11_named ∈ pw_T := pw_in (tb_7 (List.mem_of_getElem? (i := 151) (by rfl))) (by decide +kernel)
set_option maxRecDepth 20000 in
theorem mw_7_152 : Cond.selects RX11 yX11_named yX11_named ∈ pw_T := pw_in (tb_7 (List.mem_of_getElem? (i := 152) (by rfl))) (by decide +kernel)
set_option maxRecDepth 20000 in
theorem mw_7_153 : Cond.code yX11_named cX11_named 3 (some .int) ∈ pw_T := pw_in (tb_7 (List.mem_of_getElem? (i := 153) (by rfl))) (by decide +kernel)
set_option maxRecDepth 20000 in
theorem mw_7_155 : Cond.instanceMethod yX11_look ∈ pw_T := pw_in (tb_7 (List.mem_of_getElem? (i := 155) (by rfl))) (by decide +kernel)
set_option maxRecDepth 20000 in
theorem mw_7_156 : Cond.selects RX11 yX11_look yX11_look ∈ pw_T := pw_in (tb_7 (List.mem_of_getElem? (i := 156) (by rfl))) (by decide +kernel)
set_option maxRecDepth 20000 in
theorem mw_7_157 : Cond.code yX11_look cX11_look 3 (some .int) ∈ pw_T := pw_in (tb_7 (List.mem_of_getElem? (i := 157) (by rfl))) (by decide +kernel)
set_option maxRecDepth 20000 in
theorem mw_7_160 : Cond.instanceMethod yX11_isPerson ∈ pw_T := pw_in (tb_7 (List.mem_of_getElem? (i := 160) (by rfl))) (by decide +kernel)
set_option maxRecDepth 20000 in
theorem mw_7_161 : Cond.code yX11_isPerson cX11_isPerson 2 (some .boolean) ∈ pw_T := pw_in (tb_7 (List.mem_of_getElem? (i := 161) (by rfl))) (by decide +kernel)
set_option maxRecDepth 20000 in
theorem mw_7_163 : Cond.instanceMethod yX11_clock ∈ pw_T := pw_in (tb_7 (List.mem_of_getElem? (i := 163) (by rfl))) (by decide +kernel)
set_option maxRecDepth 20000 in
theorem mw_7_164 : Cond.selects RX11 yX11_clock yX11_clock ∈ pw_T := pw_in (tb_7 (List.mem_of_getElem? (i := 164) (by rfl))) (by decide +kernel)
set_option maxRecDepth 20000 in
theorem mw_7_165 : Cond.code yX11_clock cX11_clock 3 (some .int) ∈ pw_T := pw_in (tb_7 (List.mem_of_getElem? (i := 165) (by rfl))) (by decide +kernel)
set_option maxRecDepth 20000 in
theorem mw_7_168 : Cond.instanceMethod yX11_isClock ∈ pw_T := pw_in (tb_7 (List.mem_of_getElem? (i := 168) (by rfl))) (by decide +kernel)
set_option maxRecDepth 20000 in
theorem mw_7_169 : Cond.code yX11_isClock cX11_isClock 2 (some .boolean) ∈ pw_T := pw_in (tb_7 (List.mem_of_getElem? (i := 169) (by rfl))) (by decide +kernel)
set_option maxRecDepth 20000 in
theorem mw_7_172 : Cond.instanceMethod yX11_round ∈ pw_T := pw_in (tb_7 (List.mem_of_getElem? (i := 172) (by rfl))) (by decide +kernel)
set_option maxRecDepth 20000 in
theorem mw_7_173 : Cond.selects RX11 yX11_round yX11_round ∈ pw_T := pw_in (tb_7 (List.mem_of_getElem? (i := 173) (by rfl))) (by decide +kernel)
set_option maxRecDepth 20000 in
theorem mw_7_174 : Cond.code yX11_round cX11_round 3 (some .int) ∈ pw_T := pw_in (tb_7 (List.mem_of_getElem? (i := 174) (by rfl))) (by decide +kernel)
set_option maxRecDepth 20000 in
theorem mw_7_176 : Cond.instanceMethod yX11_rule ∈ pw_T := pw_in (tb_7 (List.mem_of_getElem? (i := 176) (by rfl))) (by decide +kernel)
set_option maxRecDepth 20000 in
theorem mw_7_177 : Cond.selects RX11 yX11_rule yX11_rule ∈ pw_T := pw_in (tb_7 (List.mem_of_getElem? (i := 177) (by rfl))) (by decide +kernel)
set_option maxRecDepth 20000 in
theorem mw_7_178 : Cond.code yX11_rule cX11_rule 6 (some .long) ∈ pw_T := pw_in (tb_7 (List.mem_of_getElem? (i := 178) (by rfl))) (by decide +kernel)
set_option maxRecDepth 20000 in
theorem mw_7_183 : Cond.instanceMethod yX11_ruled ∈ pw_T := pw_in (tb_7 (List.mem_of_getElem? (i := 183) (by rfl))) (by decide +kernel)
set_option maxRecDepth 20000 in
theorem mw_7_184 : Cond.code yX11_ruled cX11_ruled 7 (some .boolean) ∈ pw_T := pw_in (tb_7 (List.mem_of_getElem? (i := 184) (by rfl))) (by decide +kernel)
set_option maxRecDepth 20000 in
theorem mw_7_187 : Cond.instanceMethod yX11_works ∈ pw_T := pw_in (tb_7 (List.mem_of_getElem? (i := 187) (by rfl))) (by decide +kernel)
set_option maxRecDepth 20000 in
theorem mw_7_188 : Cond.code yX11_works cX11_works 8 (some .boolean) ∈ pw_T := pw_in (tb_7 (List.mem_of_getElem? (i := 188) (by rfl))) (by decide +kernel)
set_option maxRecDepth 20000 in
theorem mw_7_190 : Cond.static yX11_is ∈ pw_T := pw_in (tb_7 (List.mem_of_getElem? (i := 190) (by rfl))) (by decide +kernel)
set_option maxRecDepth 20000 in
theorem mw_7_191 : Cond.code yX11_is cX11_is 1 (some .long) ∈ pw_T := pw_in (tb_7 (List.mem_of_getElem? (i := 191) (by rfl))) (by decide +kernel)
set_option maxRecDepth 20000 in
theorem mw_7_196 : Cond.instanceMethod yX11_hours ∈ pw_T := pw_in (tb_7 (List.mem_of_getElem? (i := 196) (by rfl))) (by decide +kernel)
set_option maxRecDepth 20000 in
theorem mw_7_197 : Cond.selects RX11 yX11_hours yX11_hours ∈ pw_T := pw_in (tb_7 (List.mem_of_getElem? (i := 197) (by rfl))) (by decide +kernel)
set_option maxRecDepth 20000 in
theorem mw_7_198 : Cond.code yX11_hours cX11_hours 3 (some .int) ∈ pw_T := pw_in (tb_7 (List.mem_of_getElem? (i := 198) (by rfl))) (by decide +kernel)
set_option maxRecDepth 20000 in
theorem mw_7_201 : Cond.instanceMethod yX11_gains ∈ pw_T := pw_in (tb_7 (List.mem_of_getElem? (i := 201) (by rfl))) (by decide +kernel)
set_option maxRecDepth 20000 in
theorem mw_7_202 : Cond.code yX11_gains cX11_gains 5 none ∈ pw_T := pw_in (tb_7 (List.mem_of_getElem? (i := 202) (by rfl))) (by decide +kernel)
set_option maxRecDepth 20000 in
theorem mw_7_205 : Cond.instanceMethod yX11_gainOf ∈ pw_T := pw_in (tb_7 (List.mem_of_getElem? (i := 205) (by rfl))) (by decide +kernel)
set_option maxRecDepth 20000 in
theorem mw_7_206 : Cond.code yX11_gainOf cX11_gainOf 3 (some .int) ∈ pw_T := pw_in (tb_7 (List.mem_of_getElem? (i := 206) (by rfl))) (by decide +kernel)
set_option maxRecDepth 20000 in
theorem mw_7_208 : Cond.static yX11_bound ∈ pw_T := pw_in (tb_7 (List.mem_of_getElem? (i := 208) (by rfl))) (by decide +kernel)
set_option maxRecDepth 20000 in
theorem mw_7_209 : Cond.code yX11_bound cX11_bound 2 (some .int) ∈ pw_T := pw_in (tb_7 (List.mem_of_getElem? (i := 209) (by rfl))) (by decide +kernel)
set_option maxRecDepth 20000 in
theorem mw_7_213 : Cond.static yJ9_min_f86c9 ∈ pw_T := pw_in (tb_7 (List.mem_of_getElem? (i := 213) (by rfl))) (by decide +kernel)
set_option maxRecDepth 20000 in
theorem mw_7_214 : Cond.code yJ9_min_f86c9 cJ9_min_f86c9 4 (some .long) ∈ pw_T := pw_in (tb_7 (List.mem_of_getElem? (i := 214) (by rfl))) (by decide +kernel)
set_option maxRecDepth 20000 in
theorem mw_7_216 : Cond.static yJ9_max_f86c9 ∈ pw_T := pw_in (tb_7 (List.mem_of_getElem? (i := 216) (by rfl))) (by decide +kernel)
set_option maxRecDepth 20000 in
theorem mw_7_217 : Cond.code yJ9_max_f86c9 cJ9_max_f86c9 4 (some .long) ∈ pw_T := pw_in (tb_7 (List.mem_of_getElem? (i := 217) (by rfl))) (by decide +kernel)
set_option maxRecDepth 20000 in
theorem mw_7_220 : Cond.instanceMethod yX11_happens ∈ pw_T := pw_in (tb_7 (List.mem_of_getElem? (i := 220) (by rfl))) (by decide +kernel)
set_option maxRecDepth 20000 in
theorem mw_7_221 : Cond.code yX11_happens cX11_happens 4 none ∈ pw_T := pw_in (tb_7 (List.mem_of_getElem? (i := 221) (by rfl))) (by decide +kernel)
set_option maxRecDepth 20000 in
theorem mw_7_224 : Cond.instanceMethod yX11_isGun ∈ pw_T := pw_in (tb_7 (List.mem_of_getElem? (i := 224) (by rfl))) (by decide +kernel)
set_option maxRecDepth 20000 in
theorem mw_7_225 : Cond.code yX11_isGun cX11_isGun 4 (some .boolean) ∈ pw_T := pw_in (tb_7 (List.mem_of_getElem? (i := 225) (by rfl))) (by decide +kernel)
set_option maxRecDepth 20000 in
theorem mw_7_228 : Cond.instanceMethod yX11_passes ∈ pw_T := pw_in (tb_7 (List.mem_of_getElem? (i := 228) (by rfl))) (by decide +kernel)
set_option maxRecDepth 20000 in
theorem mw_7_229 : Cond.code yX11_passes cX11_passes 10 none ∈ pw_T := pw_in (tb_7 (List.mem_of_getElem? (i := 229) (by rfl))) (by decide +kernel)
set_option maxRecDepth 20000 in
theorem mw_7_232 : Cond.instanceMethod yX11_does ∈ pw_T := pw_in (tb_7 (List.mem_of_getElem? (i := 232) (by rfl))) (by decide +kernel)
set_option maxRecDepth 20000 in
theorem mw_7_233 : Cond.code yX11_does cX11_does 6 (some .boolean) ∈ pw_T := pw_in (tb_7 (List.mem_of_getElem? (i := 233) (by rfl))) (by decide +kernel)
set_option maxRecDepth 20000 in
theorem mw_7_236 : Cond.instanceMethod yX11_hasRule ∈ pw_T := pw_in (tb_7 (List.mem_of_getElem? (i := 236) (by rfl))) (by decide +kernel)
set_option maxRecDepth 20000 in
theorem mw_7_237 : Cond.code yX11_hasRule cX11_hasRule 2 (some .boolean) ∈ pw_T := pw_in (tb_7 (List.mem_of_getElem? (i := 237) (by rfl))) (by decide +kernel)
set_option maxRecDepth 20000 in
theorem mw_8_0 : Cond.instanceMethod yX11_customOf ∈ pw_T := pw_in (tb_8 (List.mem_of_getElem? (i := 0) (by rfl))) (by decide +kernel)
set_option maxRecDepth 20000 in
theorem mw_8_1 : Cond.code yX11_customOf cX11_customOf 2 (some .int) ∈ pw_T := pw_in (tb_8 (List.mem_of_getElem? (i := 1) (by rfl))) (by decide +kernel)
set_option maxRecDepth 20000 in
theorem mw_8_4 : Cond.static yJ9_floorDiv_f86c9 ∈ pw_T := pw_in (tb_8 (List.mem_of_getElem? (i := 4) (by rfl))) (by decide +kernel)
set_option maxRecDepth 20000 in
theorem mw_8_5 : Cond.code yJ9_floorDiv_f86c9 cJ9_floorDiv_f86c9 6 (some .long) ∈ pw_T := pw_in (tb_8 (List.mem_of_getElem? (i := 5) (by rfl))) (by decide +kernel)
set_option maxRecDepth 20000 in
theorem mw_8_8 : Cond.instanceMethod yX11_keeps ∈ pw_T := pw_in (tb_8 (List.mem_of_getElem? (i := 8) (by rfl))) (by decide +kernel)
set_option maxRecDepth 20000 in
theorem mw_8_9 : Cond.code yX11_keeps cX11_keeps 5 none ∈ pw_T := pw_in (tb_8 (List.mem_of_getElem? (i := 9) (by rfl))) (by decide +kernel)
set_option maxRecDepth 20000 in
theorem mw_8_12 : Cond.instanceMethod yX11_middleOf ∈ pw_T := pw_in (tb_8 (List.mem_of_getElem? (i := 12) (by rfl))) (by decide +kernel)
set_option maxRecDepth 20000 in
theorem mw_8_13 : Cond.code yX11_middleOf cX11_middleOf 9 (some .int) ∈ pw_T := pw_in (tb_8 (List.mem_of_getElem? (i := 13) (by rfl))) (by decide +kernel)
set_option maxRecDepth 20000 in
theorem mw_8_16 : Cond.instanceMethod yX11_writes ∈ pw_T := pw_in (tb_8 (List.mem_of_getElem? (i := 16) (by rfl))) (by decide +kernel)
set_option maxRecDepth 20000 in
theorem mw_8_17 : Cond.code yX11_writes cX11_writes 2 none ∈ pw_T := pw_in (tb_8 (List.mem_of_getElem? (i := 17) (by rfl))) (by decide +kernel)
set_option maxRecDepth 20000 in
theorem mw_8_19 : Cond.instanceMethod yX11_off ∈ pw_T := pw_in (tb_8 (List.mem_of_getElem? (i := 19) (by rfl))) (by decide +kernel)
set_option maxRecDepth 20000 in
theorem mw_8_20 : Cond.selects RX11 yX11_off yX11_off ∈ pw_T := pw_in (tb_8 (List.mem_of_getElem? (i := 20) (by rfl))) (by decide +kernel)
set_option maxRecDepth 20000 in
theorem mw_8_21 : Cond.code yX11_off cX11_off 2 (some .int) ∈ pw_T := pw_in (tb_8 (List.mem_of_getElem? (i := 21) (by rfl))) (by decide +kernel)
set_option maxRecDepth 20000 in
theorem mw_8_24 : Cond.instanceMethod yX11_isThing ∈ pw_T := pw_in (tb_8 (List.mem_of_getElem? (i := 24) (by rfl))) (by decide +kernel)
set_option maxRecDepth 20000 in
theorem mw_8_25 : Cond.code yX11_isThing cX11_isThing 2 (some .boolean) ∈ pw_T := pw_in (tb_8 (List.mem_of_getElem? (i := 25) (by rfl))) (by decide +kernel)
set_option maxRecDepth 20000 in
theorem mw_8_27 : Cond.instanceMethod yX11_now ∈ pw_T := pw_in (tb_8 (List.mem_of_getElem? (i := 27) (by rfl))) (by decide +kernel)
set_option maxRecDepth 20000 in
theorem mw_8_28 : Cond.selects RX11 yX11_now yX11_now ∈ pw_T := pw_in (tb_8 (List.mem_of_getElem? (i := 28) (by rfl))) (by decide +kernel)
set_option maxRecDepth 20000 in
theorem mw_8_29 : Cond.code yX11_now cX11_now 3 (some .int) ∈ pw_T := pw_in (tb_8 (List.mem_of_getElem? (i := 29) (by rfl))) (by decide +kernel)
set_option maxRecDepth 20000 in
theorem mw_8_31 : Cond.instanceMethod yX11_was ∈ pw_T := pw_in (tb_8 (List.mem_of_getElem? (i := 31) (by rfl))) (by decide +kernel)
set_option maxRecDepth 20000 in
theorem mw_8_32 : Cond.selects RX11 yX11_was yX11_was ∈ pw_T := pw_in (tb_8 (List.mem_of_getElem? (i := 32) (by rfl))) (by decide +kernel)
set_option maxRecDepth 20000 in
theorem mw_8_33 : Cond.code yX11_was cX11_was 3 (some .int) ∈ pw_T := pw_in (tb_8 (List.mem_of_getElem? (i := 33) (by rfl))) (by decide +kernel)
set_option maxRecDepth 20000 in
theorem mw_8_36 : Cond.instanceMethod yX11_isPast ∈ pw_T := pw_in (tb_8 (List.mem_of_getElem? (i := 36) (by rfl))) (by decide +kernel)
set_option maxRecDepth 20000 in
theorem mw_8_37 : Cond.code yX11_isPast cX11_isPast 2 (some .boolean) ∈ pw_T := pw_in (tb_8 (List.mem_of_getElem? (i := 37) (by rfl))) (by decide +kernel)
set_option maxRecDepth 20000 in
theorem mw_8_39 : Cond.instanceMethod yX11_spread ∈ pw_T := pw_in (tb_8 (List.mem_of_getElem? (i := 39) (by rfl))) (by decide +kernel)
set_option maxRecDepth 20000 in
theorem mw_8_40 : Cond.selects RX11 yX11_spread yX11_spread ∈ pw_T := pw_in (tb_8 (List.mem_of_getElem? (i := 40) (by rfl))) (by decide +kernel)
set_option maxRecDepth 20000 in
theorem mw_8_41 : Cond.code yX11_spread cX11_spread 2 (some .int) ∈ pw_T := pw_in (tb_8 (List.mem_of_getElem? (i := 41) (by rfl))) (by decide +kernel)
set_option maxRecDepth 20000 in
theorem mw_8_44 : Cond.instanceMethod yX11_spreadOf ∈ pw_T := pw_in (tb_8 (List.mem_of_getElem? (i := 44) (by rfl))) (by decide +kernel)
set_option maxRecDepth 20000 in
theorem mw_8_45 : Cond.code yX11_spreadOf cX11_spreadOf 6 (some .int) ∈ pw_T := pw_in (tb_8 (List.mem_of_getElem? (i := 45) (by rfl))) (by decide +kernel)
set_option maxRecDepth 20000 in
theorem mw_8_49 : Cond.instanceMethod yX11_pass ∈ pw_T := pw_in (tb_8 (List.mem_of_getElem? (i := 49) (by rfl))) (by decide +kernel)
set_option maxRecDepth 20000 in
theorem mw_8_50 : Cond.selects RX11 yX11_pass yX11_pass ∈ pw_T := pw_in (tb_8 (List.mem_of_getElem? (i := 50) (by rfl))) (by decide +kernel)
set_option maxRecDepth 20000 in
theorem mw_8_51 : Cond.code yX11_pass cX11_pass 3 (some .int) ∈ pw_T := pw_in (tb_8 (List.mem_of_getElem? (i := 51) (by rfl))) (by decide +kernel)
set_option maxRecDepth 20000 in
theorem mw_8_53 : Cond.instanceMethod yX11_row ∈ pw_T := pw_in (tb_8 (List.mem_of_getElem? (i := 53) (by rfl))) (by decide +kernel)
set_option maxRecDepth 20000 in
theorem mw_8_54 : Cond.selects RX11 yX11_row yX11_row ∈ pw_T := pw_in (tb_8 (List.mem_of_getElem? (i := 54) (by rfl))) (by decide +kernel)
set_option maxRecDepth 20000 in
theorem mw_8_55 : Cond.code yX11_row cX11_row 8 (some .int) ∈ pw_T := pw_in (tb_8 (List.mem_of_getElem? (i := 55) (by rfl))) (by decide +kernel)
set_option maxRecDepth 20000 in
theorem mw_8_57 : Cond.static yX11_told ∈ pw_T := pw_in (tb_8 (List.mem_of_getElem? (i := 57) (by rfl))) (by decide +kernel)
set_option maxRecDepth 20000 in
theorem mw_8_58 : Cond.code yX11_told cX11_told 5 (some .int) ∈ pw_T := pw_in (tb_8 (List.mem_of_getElem? (i := 58) (by rfl))) (by decide +kernel)
set_option maxRecDepth 20000 in
theorem mw_8_62 : Cond.instanceMethod yX11_copies ∈ pw_T := pw_in (tb_8 (List.mem_of_getElem? (i := 62) (by rfl))) (by decide +kernel)
set_option maxRecDepth 20000 in
theorem mw_8_63 : Cond.code yX11_copies cX11_copies 2 none ∈ pw_T := pw_in (tb_8 (List.mem_of_getElem? (i := 63) (by rfl))) (by decide +kernel)
set_option maxRecDepth 20000 in
theorem mw_8_65 : Cond.instanceMethod yX11_moved ∈ pw_T := pw_in (tb_8 (List.mem_of_getElem? (i := 65) (by rfl))) (by decide +kernel)
set_option maxRecDepth 20000 in
theorem mw_8_66 : Cond.selects RX11 yX11_moved yX11_moved ∈ pw_T := pw_in (tb_8 (List.mem_of_getElem? (i := 66) (by rfl))) (by decide +kernel)
set_option maxRecDepth 20000 in
theorem mw_8_67 : Cond.code yX11_moved cX11_moved 5 (some .int) ∈ pw_T := pw_in (tb_8 (List.mem_of_getElem? (i := 67) (by rfl))) (by decide +kernel)
set_option maxRecDepth 20000 in
theorem mw_8_69 : Cond.static yX11_isMove ∈ pw_T := pw_in (tb_8 (List.mem_of_getElem? (i := 69) (by rfl))) (by decide +kernel)
set_option maxRecDepth 20000 in
theorem mw_8_70 : Cond.code yX11_isMove cX11_isMove 1 (some .boolean) ∈ pw_T := pw_in (tb_8 (List.mem_of_getElem? (i := 70) (by rfl))) (by decide +kernel)
set_option maxRecDepth 20000 in
theorem mw_8_74 : Cond.instanceMethod yX11_runsNow ∈ pw_T := pw_in (tb_8 (List.mem_of_getElem? (i := 74) (by rfl))) (by decide +kernel)
set_option maxRecDepth 20000 in
theorem mw_8_75 : Cond.code yX11_runsNow cX11_runsNow 1 none ∈ pw_T := pw_in (tb_8 (List.mem_of_getElem? (i := 75) (by rfl))) (by decide +kernel)
set_option maxRecDepth 20000 in
theorem mw_8_78 : Cond.instanceMethod yX11_runs ∈ pw_T := pw_in (tb_8 (List.mem_of_getElem? (i := 78) (by rfl))) (by decide +kernel)
set_option maxRecDepth 20000 in
theorem mw_8_79 : Cond.code yX11_runs cX11_runs 4 none ∈ pw_T := pw_in (tb_8 (List.mem_of_getElem? (i := 79) (by rfl))) (by decide +kernel)
set_option maxRecDepth 20000 in
theorem mw_8_82 : Cond.instanceMethod yX11_isBusy ∈ pw_T := pw_in (tb_8 (List.mem_of_getElem? (i := 82) (by rfl))) (by decide +kernel)
set_option maxRecDepth 20000 in
theorem mw_8_83 : Cond.code yX11_isBusy cX11_isBusy 3 (some .boolean) ∈ pw_T := pw_in (tb_8 (List.mem_of_getElem? (i := 83) (by rfl))) (by decide +kernel)
set_option maxRecDepth 20000 in
theorem mw_8_85 : Cond.instanceMethod yX11_ends ∈ pw_T := pw_in (tb_8 (List.mem_of_getElem? (i := 85) (by rfl))) (by decide +kernel)
set_option maxRecDepth 20000 in
theorem mw_8_86 : Cond.selects RX11 yX11_ends yX11_ends ∈ pw_T := pw_in (tb_8 (List.mem_of_getElem? (i := 86) (by rfl))) (by decide +kernel)
set_option maxRecDepth 20000 in
theorem mw_8_87 : Cond.code yX11_ends cX11_ends 7 (some .int) ∈ pw_T := pw_in (tb_8 (List.mem_of_getElem? (i := 87) (by rfl))) (by decide +kernel)
set_option maxRecDepth 20000 in
theorem mw_8_90 : Cond.instanceMethod yX11_roughOf ∈ pw_T := pw_in (tb_8 (List.mem_of_getElem? (i := 90) (by rfl))) (by decide +kernel)
set_option maxRecDepth 20000 in
theorem mw_8_91 : Cond.code yX11_roughOf cX11_roughOf 2 (some .int) ∈ pw_T := pw_in (tb_8 (List.mem_of_getElem? (i := 91) (by rfl))) (by decide +kernel)
set_option maxRecDepth 20000 in
theorem mw_8_93 : Cond.instanceMethod yX11_reading ∈ pw_T := pw_in (tb_8 (List.mem_of_getElem? (i := 93) (by rfl))) (by decide +kernel)
set_option maxRecDepth 20000 in
theorem mw_8_94 : Cond.selects RX11 yX11_reading yX11_reading ∈ pw_T := pw_in (tb_8 (List.mem_of_getElem? (i := 94) (by rfl))) (by decide +kernel)
set_option maxRecDepth 20000 in
theorem mw_8_95 : Cond.code yX11_reading cX11_reading 5 (some .int) ∈ pw_T := pw_in (tb_8 (List.mem_of_getElem? (i := 95) (by rfl))) (by decide +kernel)
set_option maxRecDepth 20000 in
theorem mw_8_99 : Cond.instanceMethod yX11_known ∈ pw_T := pw_in (tb_8 (List.mem_of_getElem? (i := 99) (by rfl))) (by decide +kernel)
set_option maxRecDepth 20000 in
theorem mw_8_100 : Cond.selects RX11 yX11_known yX11_known ∈ pw_T := pw_in (tb_8 (List.mem_of_getElem? (i := 100) (by rfl))) (by decide +kernel)
set_option maxRecDepth 20000 in
theorem mw_8_101 : Cond.code yX11_known cX11_known 2 (some .boolean) ∈ pw_T := pw_in (tb_8 (List.mem_of_getElem? (i := 101) (by rfl))) (by decide +kernel)
set_option maxRecDepth 20000 in
theorem mw_8_103 : Cond.instanceMethod yX11_judged ∈ pw_T := pw_in (tb_8 (List.mem_of_getElem? (i := 103) (by rfl))) (by decide +kernel)
set_option maxRecDepth 20000 in
theorem mw_8_104 : Cond.selects RX11 yX11_judged yX11_judged ∈ pw_T := pw_in (tb_8 (List.mem_of_getElem? (i := 104) (by rfl))) (by decide +kernel)
set_option maxRecDepth 20000 in
theorem mw_8_105 : Cond.code yX11_judged cX11_judged 1 (some .int) ∈ pw_T := pw_in (tb_8 (List.mem_of_getElem? (i := 105) (by rfl))) (by decide +kernel)
set_option maxRecDepth 20000 in
theorem mw_8_108 : Cond.instanceMethod yX11_firstWrong ∈ pw_T := pw_in (tb_8 (List.mem_of_getElem? (i := 108) (by rfl))) (by decide +kernel)
set_option maxRecDepth 20000 in
theorem mw_8_109 : Cond.code yX11_firstWrong cX11_firstWrong 8 (some .int) ∈ pw_T := pw_in (tb_8 (List.mem_of_getElem? (i := 109) (by rfl))) (by decide +kernel)
set_option maxRecDepth 20000 in
theorem mw_8_112 : Cond.instanceMethod yX11_knownMany ∈ pw_T := pw_in (tb_8 (List.mem_of_getElem? (i := 112) (by rfl))) (by decide +kernel)
set_option maxRecDepth 20000 in
theorem mw_8_113 : Cond.code yX11_knownMany cX11_knownMany 1 (some .int) ∈ pw_T := pw_in (tb_8 (List.mem_of_getElem? (i := 113) (by rfl))) (by decide +kernel)
set_option maxRecDepth 20000 in
theorem mw_8_115 : Cond.instanceMethod yX11_wrong ∈ pw_T := pw_in (tb_8 (List.mem_of_getElem? (i := 115) (by rfl))) (by decide +kernel)
set_option maxRecDepth 20000 in
theorem mw_8_116 : Cond.selects RX11 yX11_wrong yX11_wrong ∈ pw_T := pw_in (tb_8 (List.mem_of_getElem? (i := 116) (by rfl))) (by decide +kernel)
set_option maxRecDepth 20000 in
theorem mw_8_117 : Cond.code yX11_wrong cX11_wrong 4 (some .int) ∈ pw_T := pw_in (tb_8 (List.mem_of_getElem? (i := 117) (by rfl))) (by decide +kernel)
set_option maxRecDepth 20000 in
theorem mw_8_119 : Cond.instanceMethod yX11_way ∈ pw_T := pw_in (tb_8 (List.mem_of_getElem? (i := 119) (by rfl))) (by decide +kernel)
set_option maxRecDepth 20000 in
theorem mw_8_120 : Cond.selects RX11 yX11_way yX11_way ∈ pw_T := pw_in (tb_8 (List.mem_of_getElem? (i := 120) (by rfl))) (by decide +kernel)
set_option maxRecDepth 20000 in
theorem mw_8_121 : Cond.code yX11_way cX11_way 5 (some .int) ∈ pw_T := pw_in (tb_8 (List.mem_of_getElem? (i := 121) (by rfl))) (by decide +kernel)
set_option maxRecDepth 20000 in
theorem mw_8_123 : Cond.instanceMethod yX11_tried ∈ pw_T := pw_in (tb_8 (List.mem_of_getElem? (i := 123) (by rfl))) (by decide +kernel)
set_option maxRecDepth 20000 in
theorem mw_8_124 : Cond.selects RX11 yX11_tried yX11_tried ∈ pw_T := pw_in (tb_8 (List.mem_of_getElem? (i := 124) (by rfl))) (by decide +kernel)
set_option maxRecDepth 20000 in
theorem mw_8_125 : Cond.code yX11_tried cX11_tried 3 (some .int) ∈ pw_T := pw_in (tb_8 (List.mem_of_getElem? (i := 125) (by rfl))) (by decide +kernel)
set_option maxRecDepth 20000 in
theorem mw_8_128 : Cond.instanceMethod yX11_tries ∈ pw_T := pw_in (tb_8 (List.mem_of_getElem? (i := 128) (by rfl))) (by decide +kernel)
set_option maxRecDepth 20000 in
theorem mw_8_129 : Cond.code yX11_tries cX11_tries 4 (some .boolean) ∈ pw_T := pw_in (tb_8 (List.mem_of_getElem? (i := 129) (by rfl))) (by decide +kernel)
set_option maxRecDepth 20000 in
theorem mw_8_131 : Cond.instanceMethod yX11_other ∈ pw_T := pw_in (tb_8 (List.mem_of_getElem? (i := 131) (by rfl))) (by decide +kernel)
set_option maxRecDepth 20000 in
theorem mw_8_132 : Cond.selects RX11 yX11_other yX11_other ∈ pw_T := pw_in (tb_8 (List.mem_of_getElem? (i := 132) (by rfl))) (by decide +kernel)
set_option maxRecDepth 20000 in
theorem mw_8_133 : Cond.code yX11_other cX11_other 4 (some .int) ∈ pw_T := pw_in (tb_8 (List.mem_of_getElem? (i := 133) (by rfl))) (by decide +kernel)
set_option maxRecDepth 20000 in
theorem mw_8_135 : Cond.instanceMethod yX11_agree ∈ pw_T := pw_in (tb_8 (List.mem_of_getElem? (i := 135) (by rfl))) (by decide +kernel)
set_option maxRecDepth 20000 in
theorem mw_8_136 : Cond.selects RX11 yX11_agree yX11_agree ∈ pw_T := pw_in (tb_8 (List.mem_of_getElem? (i := 136) (by rfl))) (by decide +kernel)
set_option maxRecDepth 20000 in
theorem mw_8_137 : Cond.code yX11_agree cX11_agree 4 (some .int) ∈ pw_T := pw_in (tb_8 (List.mem_of_getElem? (i := 137) (by rfl))) (by decide +kernel)
set_option maxRecDepth 20000 in
theorem mw_8_139 : Cond.static yX11_isBound ∈ pw_T := pw_in (tb_8 (List.mem_of_getElem? (i := 139) (by rfl))) (by decide +kernel)
set_option maxRecDepth 20000 in
theorem mw_8_140 : Cond.code yX11_isBound cX11_isBound 1 (some .boolean) ∈ pw_T := pw_in (tb_8 (List.mem_of_getElem? (i := 140) (by rfl))) (by decide +kernel)
set_option maxRecDepth 20000 in
theorem mw_8_143 : Cond.instanceMethod yX11_often ∈ pw_T := pw_in (tb_8 (List.mem_of_getElem? (i := 143) (by rfl))) (by decide +kernel)
set_option maxRecDepth 20000 in
theorem mw_8_144 : Cond.selects RX11 yX11_often yX11_often ∈ pw_T := pw_in (tb_8 (List.mem_of_getElem? (i := 144) (by rfl))) (by decide +kernel)
set_option maxRecDepth 20000 in
theorem mw_8_145 : Cond.code yX11_often cX11_often 4 (some .int) ∈ pw_T := pw_in (tb_8 (List.mem_of_getElem? (i := 145) (by rfl))) (by decide +kernel)
set_option maxRecDepth 20000 in
theorem mw_8_148 : Cond.instanceMethod yX11_isNear ∈ pw_T := pw_in (tb_8 (List.mem_of_getElem? (i := 148) (by rfl))) (by decide +kernel)
set_option maxRecDepth 20000 in
theorem mw_8_149 : Cond.code yX11_isNear cX11_isNear 4 (some .boolean) ∈ pw_T := pw_in (tb_8 (List.mem_of_getElem? (i := 149) (by rfl))) (by decide +kernel)
set_option maxRecDepth 20000 in
theorem mw_8_151 : Cond.instanceMethod yX11_fewest ∈ pw_T := pw_in (tb_8 (List.mem_of_getElem? (i := 151) (by rfl))) (by decide +kernel)
set_option maxRecDepth 20000 in
theorem mw_8_152 : Cond.selects RX11 yX11_fewest yX11_fewest ∈ pw_T := pw_in (tb_8 (List.mem_of_getElem? (i := 152) (by rfl))) (by decide +kernel)
set_option maxRecDepth 20000 in
theorem mw_8_153 : Cond.code yX11_fewest cX11_fewest 5 (some .int) ∈ pw_T := pw_in (tb_8 (List.mem_of_getElem? (i := 153) (by rfl))) (by decide +kernel)
set_option maxRecDepth 20000 in
theorem mw_8_155 : Cond.static yX11_bitsOf ∈ pw_T := pw_in (tb_8 (List.mem_of_getElem? (i := 155) (by rfl))) (by decide +kernel)
set_option maxRecDepth 20000 in
theorem mw_8_156 : Cond.code yX11_bitsOf cX11_bitsOf 3 (some .int) ∈ pw_T := pw_in (tb_8 (List.mem_of_getElem? (i := 156) (by rfl))) (by decide +kernel)
set_option maxRecDepth 20000 in
theorem mw_8_158 : Cond.instanceMethod yX11_purpose ∈ pw_T := pw_in (tb_8 (List.mem_of_getElem? (i := 158) (by rfl))) (by decide +kernel)
set_option maxRecDepth 20000 in
theorem mw_8_159 : Cond.selects RX11 yX11_purpose yX11_purpose ∈ pw_T := pw_in (tb_8 (List.mem_of_getElem? (i := 159) (by rfl))) (by decide +kernel)
set_option maxRecDepth 20000 in
theorem mw_8_160 : Cond.code yX11_purpose cX11_purpose 10 (some .int) ∈ pw_T := pw_in (tb_8 (List.mem_of_getElem? (i := 160) (by rfl))) (by decide +kernel)
set_option maxRecDepth 20000 in
theorem mw_8_162 : Cond.instanceMethod yX11_waits ∈ pw_T := pw_in (tb_8 (List.mem_of_getElem? (i := 162) (by rfl))) (by decide +kernel)
set_option maxRecDepth 20000 in
theorem mw_8_163 : Cond.selects RX11 yX11_waits yX11_waits ∈ pw_T := pw_in (tb_8 (List.mem_of_getElem? (i := 163) (by rfl))) (by decide +kernel)
set_option maxRecDepth 20000 in
theorem mw_8_164 : Cond.code yX11_waits cX11_waits 3 (some .int) ∈ pw_T := pw_in (tb_8 (List.mem_of_getElem? (i := 164) (by rfl))) (by decide +kernel)
set_option maxRecDepth 20000 in
theorem mw_8_166 : Cond.instanceMethod yX11_keep ∈ pw_T := pw_in (tb_8 (List.mem_of_getElem? (i := 166) (by rfl))) (by decide +kernel)
set_option maxRecDepth 20000 in
theorem mw_8_167 : Cond.selects RX11 yX11_keep yX11_keep ∈ pw_T := pw_in (tb_8 (List.mem_of_getElem? (i := 167) (by rfl))) (by decide +kernel)
set_option maxRecDepth 20000 in
theorem mw_8_168 : Cond.code yX11_keep cX11_keep 2 (some .int) ∈ pw_T := pw_in (tb_8 (List.mem_of_getElem? (i := 168) (by rfl))) (by decide +kernel)
set_option maxRecDepth 20000 in
theorem mw_8_170 : Cond.instanceMethod yX11_back ∈ pw_T := pw_in (tb_8 (List.mem_of_getElem? (i := 170) (by rfl))) (by decide +kernel)
set_option maxRecDepth 20000 in
theorem mw_8_171 : Cond.selects RX11 yX11_back yX11_back ∈ pw_T := pw_in (tb_8 (List.mem_of_getElem? (i := 171) (by rfl))) (by decide +kernel)
set_option maxRecDepth 20000 in
theorem mw_8_172 : Cond.code yX11_back cX11_back 2 (some .int) ∈ pw_T := pw_in (tb_8 (List.mem_of_getElem? (i := 172) (by rfl))) (by decide +kernel)
set_option maxRecDepth 20000 in
theorem mw_8_174 : Cond.instanceMethod yX11_count ∈ pw_T := pw_in (tb_8 (List.mem_of_getElem? (i := 174) (by rfl))) (by decide +kernel)
set_option maxRecDepth 20000 in
theorem mw_8_175 : Cond.selects RX11 yX11_count yX11_count ∈ pw_T := pw_in (tb_8 (List.mem_of_getElem? (i := 175) (by rfl))) (by decide +kernel)
set_option maxRecDepth 20000 in
theorem mw_8_176 : Cond.code yX11_count cX11_count 2 (some .int) ∈ pw_T := pw_in (tb_8 (List.mem_of_getElem? (i := 176) (by rfl))) (by decide +kernel)
set_option maxRecDepth 20000 in
theorem mp_1_0 : Cond.selects RX7 yX7_takeWord yX7_takeWord ∈ pw_T := pw_in (tp_1 (List.mem_of_getElem? (i := 0) (by rfl))) (by decide +kernel)
set_option maxRecDepth 20000 in
theorem mp_1_1 : Cond.selects RX7 yX7_wordKind yX7_wordKind ∈ pw_T := pw_in (tp_1 (List.mem_of_getElem? (i := 1) (by rfl))) (by decide +kernel)
set_option maxRecDepth 20000 in
theorem mp_1_2 : Cond.selects RX7 yX7_add yX7_add ∈ pw_T := pw_in (tp_1 (List.mem_of_getElem? (i := 2) (by rfl))) (by decide +kernel)
set_option maxRecDepth 20000 in
theorem mp_1_3 : Cond.selects RX7 yX7_takeNumber yX7_takeNumber ∈ pw_T := pw_in (tp_1 (List.mem_of_getElem? (i := 3) (by rfl))) (by decide +kernel)
set_option maxRecDepth 20000 in
theorem mp_1_4 : Cond.selects RX7 yX7_takeSign yX7_takeSign ∈ pw_T := pw_in (tp_1 (List.mem_of_getElem? (i := 4) (by rfl))) (by decide +kernel)
set_option maxRecDepth 20000 in
theorem mp_1_5 : Cond.selects RX4 yX4_kind yX4_kind ∈ pw_T := pw_in (tp_1 (List.mem_of_getElem? (i := 5) (by rfl))) (by decide +kernel)
set_option maxRecDepth 20000 in
theorem mp_1_6 : Cond.selects RX4 yX4_readClock yX4_readClock ∈ pw_T := pw_in (tp_1 (List.mem_of_getElem? (i := 6) (by rfl))) (by decide +kernel)
set_option maxRecDepth 20000 in
theorem mp_1_7 : Cond.selects RX4 yX4_refuse yX4_refuse ∈ pw_T := pw_in (tp_1 (List.mem_of_getElem? (i := 7) (by rfl))) (by decide +kernel)
set_option maxRecDepth 20000 in
theorem mp_1_8 : Cond.selects RX4 yX4_step yX4_step ∈ pw_T := pw_in (tp_1 (List.mem_of_getElem? (i := 8) (by rfl))) (by decide +kernel)
set_option maxRecDepth 20000 in
theorem mp_1_9 : Cond.selects RX4 yX4_readNewName yX4_readNewName ∈ pw_T := pw_in (tp_1 (List.mem_of_getElem? (i := 9) (by rfl))) (by decide +kernel)
set_option maxRecDepth 20000 in
theorem mp_1_10 : Cond.selects RX4 yX4_readSigned yX4_readSigned ∈ pw_T := pw_in (tp_1 (List.mem_of_getElem? (i := 10) (by rfl))) (by decide +kernel)
set_option maxRecDepth 20000 in
theorem mp_1_11 : Cond.selects RX4 yX4_readNumber yX4_readNumber ∈ pw_T := pw_in (tp_1 (List.mem_of_getElem? (i := 11) (by rfl))) (by decide +kernel)
set_option maxRecDepth 20000 in
theorem mp_1_12 : Cond.selects RX4 yX4_readRest yX4_readRest ∈ pw_T := pw_in (tp_1 (List.mem_of_getElem? (i := 12) (by rfl))) (by decide +kernel)
set_option maxRecDepth 20000 in
theorem mp_1_13 : Cond.selects RX4 yX4_readEither yX4_readEither ∈ pw_T := pw_in (tp_1 (List.mem_of_getElem? (i := 13) (by rfl))) (by decide +kernel)
set_option maxRecDepth 20000 in
theorem mp_1_14 : Cond.selects RX4 yX4_readBoth yX4_readBoth ∈ pw_T := pw_in (tp_1 (List.mem_of_getElem? (i := 14) (by rfl))) (by decide +kernel)
set_option maxRecDepth 20000 in
theorem mp_1_15 : Cond.selects RX4 yX4_readNot yX4_readNot ∈ pw_T := pw_in (tp_1 (List.mem_of_getElem? (i := 15) (by rfl))) (by decide +kernel)
set_option maxRecDepth 20000 in
theorem mp_2_0 : Cond.selects RX4 yX4_takeKnot yX4_takeKnot ∈ pw_T := pw_in (tp_2 (List.mem_of_getElem? (i := 0) (by rfl))) (by decide +kernel)
set_option maxRecDepth 20000 in
theorem mp_2_1 : Cond.selects RX4 yX4_readCompared yX4_readCompared ∈ pw_T := pw_in (tp_2 (List.mem_of_getElem? (i := 1) (by rfl))) (by decide +kernel)
set_option maxRecDepth 20000 in
theorem mp_2_2 : Cond.selects RX4 yX4_readSum yX4_readSum ∈ pw_T := pw_in (tp_2 (List.mem_of_getElem? (i := 2) (by rfl))) (by decide +kernel)
set_option maxRecDepth 20000 in
theorem mp_2_3 : Cond.selects RX4 yX4_readProduct yX4_readProduct ∈ pw_T := pw_in (tp_2 (List.mem_of_getElem? (i := 3) (by rfl))) (by decide +kernel)
set_option maxRecDepth 20000 in
theorem mp_2_4 : Cond.selects RX4 yX4_readPart yX4_readPart ∈ pw_T := pw_in (tp_2 (List.mem_of_getElem? (i := 4) (by rfl))) (by decide +kernel)
set_option maxRecDepth 20000 in
theorem mp_2_5 : Cond.selects RX4 yX4_expect yX4_expect ∈ pw_T := pw_in (tp_2 (List.mem_of_getElem? (i := 5) (by rfl))) (by decide +kernel)
set_option maxRecDepth 20000 in
theorem mp_2_6 : Cond.selects RX4 yX4_readPerson yX4_readPerson ∈ pw_T := pw_in (tp_2 (List.mem_of_getElem? (i := 6) (by rfl))) (by decide +kernel)
set_option maxRecDepth 20000 in
theorem mp_2_7 : Cond.selects RX4 yX4_readCustom yX4_readCustom ∈ pw_T := pw_in (tp_2 (List.mem_of_getElem? (i := 7) (by rfl))) (by decide +kernel)
set_option maxRecDepth 20000 in
theorem mp_2_8 : Cond.selects RX4 yX4_readRound yX4_readRound ∈ pw_T := pw_in (tp_2 (List.mem_of_getElem? (i := 8) (by rfl))) (by decide +kernel)
set_option maxRecDepth 20000 in
theorem mp_2_9 : Cond.selects RX4 yX4_readToldName yX4_readToldName ∈ pw_T := pw_in (tp_2 (List.mem_of_getElem? (i := 9) (by rfl))) (by decide +kernel)
set_option maxRecDepth 20000 in
theorem mp_2_10 : Cond.selects RX4 yX4_readGun yX4_readGun ∈ pw_T := pw_in (tp_2 (List.mem_of_getElem? (i := 10) (by rfl))) (by decide +kernel)
set_option maxRecDepth 20000 in
theorem mp_2_11 : Cond.selects RX10 yX10_beginAnew yX10_beginAnew ∈ pw_T := pw_in (tp_2 (List.mem_of_getElem? (i := 11) (by rfl))) (by decide +kernel)
set_option maxRecDepth 20000 in
theorem mp_2_12 : Cond.selects RX3 yX3_layDeeds yX3_layDeeds ∈ pw_T := pw_in (tp_2 (List.mem_of_getElem? (i := 12) (by rfl))) (by decide +kernel)
set_option maxRecDepth 20000 in
theorem mp_2_13 : Cond.selects RX3 yX3_addDeed yX3_addDeed ∈ pw_T := pw_in (tp_2 (List.mem_of_getElem? (i := 13) (by rfl))) (by decide +kernel)
set_option maxRecDepth 20000 in
theorem mp_2_14 : Cond.selects RX3 yX3_isBehind yX3_isBehind ∈ pw_T := pw_in (tp_2 (List.mem_of_getElem? (i := 14) (by rfl))) (by decide +kernel)
set_option maxRecDepth 20000 in
theorem mp_2_15 : Cond.selects RX0 yX0_settle yX0_settle ∈ pw_T := pw_in (tp_2 (List.mem_of_getElem? (i := 15) (by rfl))) (by decide +kernel)
set_option maxRecDepth 20000 in
theorem mp_3_0 : Cond.selects RX0 yX0_noteWidest yX0_noteWidest ∈ pw_T := pw_in (tp_3 (List.mem_of_getElem? (i := 0) (by rfl))) (by decide +kernel)
set_option maxRecDepth 20000 in
theorem mp_3_1 : Cond.selects RX0 yX0_offAt yX0_offAt ∈ pw_T := pw_in (tp_3 (List.mem_of_getElem? (i := 1) (by rfl))) (by decide +kernel)
set_option maxRecDepth 20000 in
theorem mp_3_2 : Cond.selects RX0 yX0_act yX0_act ∈ pw_T := pw_in (tp_3 (List.mem_of_getElem? (i := 2) (by rfl))) (by decide +kernel)
set_option maxRecDepth 20000 in
theorem mp_3_3 : Cond.selects RX0 yX0_partOf yX0_partOf ∈ pw_T := pw_in (tp_3 (List.mem_of_getElem? (i := 3) (by rfl))) (by decide +kernel)
set_option maxRecDepth 20000 in
theorem mp_3_4 : Cond.selects RX0 yX0_keepAhead yX0_keepAhead ∈ pw_T := pw_in (tp_3 (List.mem_of_getElem? (i := 4) (by rfl))) (by decide +kernel)
set_option maxRecDepth 20000 in
theorem mp_3_5 : Cond.selects RX0 yX0_middleKept yX0_middleKept ∈ pw_T := pw_in (tp_3 (List.mem_of_getElem? (i := 5) (by rfl))) (by decide +kernel)
set_option maxRecDepth 20000 in
theorem mp_3_6 : Cond.selects RX10 yX10_wentBy yX10_wentBy ∈ pw_T := pw_in (tp_3 (List.mem_of_getElem? (i := 6) (by rfl))) (by decide +kernel)
set_option maxRecDepth 20000 in
theorem mp_3_7 : Cond.selects RX10 yX10_canPass yX10_canPass ∈ pw_T := pw_in (tp_3 (List.mem_of_getElem? (i := 7) (by rfl))) (by decide +kernel)
set_option maxRecDepth 20000 in
theorem mp_3_8 : Cond.selects RX10 yX10_findEnds yX10_findEnds ∈ pw_T := pw_in (tp_3 (List.mem_of_getElem? (i := 8) (by rfl))) (by decide +kernel)
set_option maxRecDepth 20000 in
theorem mp_3_9 : Cond.selects RX5 yX5_isSo yX5_isSo ∈ pw_T := pw_in (tp_3 (List.mem_of_getElem? (i := 9) (by rfl))) (by decide +kernel)
set_option maxRecDepth 20000 in
theorem mp_3_10 : Cond.selects RX10 yX10_findWays yX10_findWays ∈ pw_T := pw_in (tp_3 (List.mem_of_getElem? (i := 10) (by rfl))) (by decide +kernel)
set_option maxRecDepth 20000 in
theorem mp_3_11 : Cond.selects RX10 yX10_canTry yX10_canTry ∈ pw_T := pw_in (tp_3 (List.mem_of_getElem? (i := 11) (by rfl))) (by decide +kernel)
set_option maxRecDepth 20000 in
theorem mp_3_12 : Cond.selects RX10 yX10_runOtherwise yX10_runOtherwise ∈ pw_T := pw_in (tp_3 (List.mem_of_getElem? (i := 12) (by rfl))) (by decide +kernel)
set_option maxRecDepth 20000 in
theorem mp_3_13 : Cond.selects RX3 yX3_dropRules yX3_dropRules ∈ pw_T := pw_in (tp_3 (List.mem_of_getElem? (i := 13) (by rfl))) (by decide +kernel)
set_option maxRecDepth 20000 in
theorem mp_3_14 : Cond.selects RX3 yX3_setCustom yX3_setCustom ∈ pw_T := pw_in (tp_3 (List.mem_of_getElem? (i := 14) (by rfl))) (by decide +kernel)
set_option maxRecDepth 20000 in
theorem mp_3_15 : Cond.selects RX10 yX10_isEnough yX10_isEnough ∈ pw_T := pw_in (tp_3 (List.mem_of_getElem? (i := 15) (by rfl))) (by decide +kernel)
set_option maxRecDepth 20000 in
theorem mp_4_0 : Cond.selects RX10 yX10_holdAll yX10_holdAll ∈ pw_T := pw_in (tp_4 (List.mem_of_getElem? (i := 0) (by rfl))) (by decide +kernel)
set_option maxRecDepth 20000 in
theorem mp_4_1 : Cond.selects RX10 yX10_findPurpose yX10_findPurpose ∈ pw_T := pw_in (tp_4 (List.mem_of_getElem? (i := 1) (by rfl))) (by decide +kernel)
set_option maxRecDepth 20000 in
theorem mp_4_3 : Cond.selects RX11 yX11_token yX11_token ∈ pw_T := pw_in (tp_4 (List.mem_of_getElem? (i := 3) (by rfl))) (by decide +kernel)
set_option maxRecDepth 20000 in
theorem mp_4_4 : Cond.selects RX11 yX11_here yX11_here ∈ pw_T := pw_in (tp_4 (List.mem_of_getElem? (i := 4) (by rfl))) (by decide +kernel)
set_option maxRecDepth 20000 in
theorem mp_4_5 : Cond.selects RX11 yX11_word yX11_word ∈ pw_T := pw_in (tp_4 (List.mem_of_getElem? (i := 5) (by rfl))) (by decide +kernel)
set_option maxRecDepth 20000 in
theorem mp_4_6 : Cond.selects RX11 yX11_name yX11_name ∈ pw_T := pw_in (tp_4 (List.mem_of_getElem? (i := 6) (by rfl))) (by decide +kernel)
set_option maxRecDepth 20000 in
theorem mp_4_7 : Cond.selects RX11 yX11_sign yX11_sign ∈ pw_T := pw_in (tp_4 (List.mem_of_getElem? (i := 7) (by rfl))) (by decide +kernel)
set_option maxRecDepth 20000 in
theorem mp_4_8 : Cond.selects RX11 yX11_line yX11_line ∈ pw_T := pw_in (tp_4 (List.mem_of_getElem? (i := 8) (by rfl))) (by decide +kernel)
set_option maxRecDepth 20000 in
theorem mp_4_9 : Cond.selects RX11 yX11_wrong0 yX11_wrong0 ∈ pw_T := pw_in (tp_4 (List.mem_of_getElem? (i := 9) (by rfl))) (by decide +kernel)
set_option maxRecDepth 20000 in
theorem mp_4_10 : Cond.selects RX11 yX11_fresher yX11_fresher ∈ pw_T := pw_in (tp_4 (List.mem_of_getElem? (i := 10) (by rfl))) (by decide +kernel)
set_option maxRecDepth 20000 in
theorem mp_4_11 : Cond.selects RX11 yX11_fresh yX11_fresh ∈ pw_T := pw_in (tp_4 (List.mem_of_getElem? (i := 11) (by rfl))) (by decide +kernel)
set_option maxRecDepth 20000 in
theorem mp_4_12 : Cond.selects RX11 yX11_signed yX11_signed ∈ pw_T := pw_in (tp_4 (List.mem_of_getElem? (i := 12) (by rfl))) (by decide +kernel)
set_option maxRecDepth 20000 in
theorem mp_4_13 : Cond.selects RX11 yX11_isSign yX11_isSign ∈ pw_T := pw_in (tp_4 (List.mem_of_getElem? (i := 13) (by rfl))) (by decide +kernel)
set_option maxRecDepth 20000 in
theorem mp_4_14 : Cond.selects RX11 yX11_numeral yX11_numeral ∈ pw_T := pw_in (tp_4 (List.mem_of_getElem? (i := 14) (by rfl))) (by decide +kernel)
set_option maxRecDepth 20000 in
theorem mp_4_15 : Cond.selects RX11 yX11_more yX11_more ∈ pw_T := pw_in (tp_4 (List.mem_of_getElem? (i := 15) (by rfl))) (by decide +kernel)
set_option maxRecDepth 20000 in
theorem mp_5_0 : Cond.selects RX11 yX11_isWord yX11_isWord ∈ pw_T := pw_in (tp_5 (List.mem_of_getElem? (i := 0) (by rfl))) (by decide +kernel)
set_option maxRecDepth 20000 in
theorem mp_5_1 : Cond.selects RX11 yX11_goOn yX11_goOn ∈ pw_T := pw_in (tp_5 (List.mem_of_getElem? (i := 1) (by rfl))) (by decide +kernel)
set_option maxRecDepth 20000 in
theorem mp_5_2 : Cond.selects RX11 yX11_expression yX11_expression ∈ pw_T := pw_in (tp_5 (List.mem_of_getElem? (i := 2) (by rfl))) (by decide +kernel)
set_option maxRecDepth 20000 in
theorem mp_5_3 : Cond.selects RX11 yX11_conjunction yX11_conjunction ∈ pw_T := pw_in (tp_5 (List.mem_of_getElem? (i := 3) (by rfl))) (by decide +kernel)
set_option maxRecDepth 20000 in
theorem mp_5_4 : Cond.selects RX11 yX11_negation yX11_negation ∈ pw_T := pw_in (tp_5 (List.mem_of_getElem? (i := 4) (by rfl))) (by decide +kernel)
set_option maxRecDepth 20000 in
theorem mp_5_5 : Cond.selects RX11 yX11_knot yX11_knot ∈ pw_T := pw_in (tp_5 (List.mem_of_getElem? (i := 5) (by rfl))) (by decide +kernel)
set_option maxRecDepth 20000 in
theorem mp_5_6 : Cond.selects RX11 yX11_puts yX11_puts ∈ pw_T := pw_in (tp_5 (List.mem_of_getElem? (i := 6) (by rfl))) (by decide +kernel)
set_option maxRecDepth 20000 in
theorem mp_5_7 : Cond.selects RX11 yX11_oneMore yX11_oneMore ∈ pw_T := pw_in (tp_5 (List.mem_of_getElem? (i := 7) (by rfl))) (by decide +kernel)
set_option maxRecDepth 20000 in
theorem mp_5_8 : Cond.selects RX11 yX11_sum yX11_sum ∈ pw_T := pw_in (tp_5 (List.mem_of_getElem? (i := 8) (by rfl))) (by decide +kernel)
set_option maxRecDepth 20000 in
theorem mp_5_9 : Cond.selects RX11 yX11_product yX11_product ∈ pw_T := pw_in (tp_5 (List.mem_of_getElem? (i := 9) (by rfl))) (by decide +kernel)
set_option maxRecDepth 20000 in
theorem mp_5_10 : Cond.selects RX11 yX11_primary yX11_primary ∈ pw_T := pw_in (tp_5 (List.mem_of_getElem? (i := 10) (by rfl))) (by decide +kernel)
set_option maxRecDepth 20000 in
theorem mp_5_11 : Cond.selects RX11 yX11_personLine yX11_personLine ∈ pw_T := pw_in (tp_5 (List.mem_of_getElem? (i := 11) (by rfl))) (by decide +kernel)
set_option maxRecDepth 20000 in
theorem mp_5_12 : Cond.selects RX11 yX11_ahead yX11_ahead ∈ pw_T := pw_in (tp_5 (List.mem_of_getElem? (i := 12) (by rfl))) (by decide +kernel)
set_option maxRecDepth 20000 in
theorem mp_5_13 : Cond.selects RX11 yX11_plain yX11_plain ∈ pw_T := pw_in (tp_5 (List.mem_of_getElem? (i := 13) (by rfl))) (by decide +kernel)
set_option maxRecDepth 20000 in
theorem mp_5_14 : Cond.selects RX11 yX11_starts yX11_starts ∈ pw_T := pw_in (tp_5 (List.mem_of_getElem? (i := 14) (by rfl))) (by decide +kernel)
set_option maxRecDepth 20000 in
theorem mp_5_15 : Cond.selects RX11 yX11_things yX11_things ∈ pw_T := pw_in (tp_5 (List.mem_of_getElem? (i := 15) (by rfl))) (by decide +kernel)
set_option maxRecDepth 20000 in
theorem mp_6_0 : Cond.selects RX11 yX11_begins yX11_begins ∈ pw_T := pw_in (tp_6 (List.mem_of_getElem? (i := 0) (by rfl))) (by decide +kernel)
set_option maxRecDepth 20000 in
theorem mp_6_1 : Cond.selects RX11 yX11_isRight yX11_isRight ∈ pw_T := pw_in (tp_6 (List.mem_of_getElem? (i := 1) (by rfl))) (by decide +kernel)
set_option maxRecDepth 20000 in
theorem mp_6_2 : Cond.selects RX11 yX11_isPerson yX11_isPerson ∈ pw_T := pw_in (tp_6 (List.mem_of_getElem? (i := 2) (by rfl))) (by decide +kernel)
set_option maxRecDepth 20000 in
theorem mp_6_3 : Cond.selects RX11 yX11_isClock yX11_isClock ∈ pw_T := pw_in (tp_6 (List.mem_of_getElem? (i := 3) (by rfl))) (by decide +kernel)
set_option maxRecDepth 20000 in
theorem mp_6_4 : Cond.selects RX11 yX11_ruled yX11_ruled ∈ pw_T := pw_in (tp_6 (List.mem_of_getElem? (i := 4) (by rfl))) (by decide +kernel)
set_option maxRecDepth 20000 in
theorem mp_6_5 : Cond.selects RX11 yX11_works yX11_works ∈ pw_T := pw_in (tp_6 (List.mem_of_getElem? (i := 5) (by rfl))) (by decide +kernel)
set_option maxRecDepth 20000 in
theorem mp_6_6 : Cond.selects RX11 yX11_gains yX11_gains ∈ pw_T := pw_in (tp_6 (List.mem_of_getElem? (i := 6) (by rfl))) (by decide +kernel)
set_option maxRecDepth 20000 in
theorem mp_6_7 : Cond.selects RX11 yX11_gainOf yX11_gainOf ∈ pw_T := pw_in (tp_6 (List.mem_of_getElem? (i := 7) (by rfl))) (by decide +kernel)
set_option maxRecDepth 20000 in
theorem mp_6_8 : Cond.selects RX11 yX11_happens yX11_happens ∈ pw_T := pw_in (tp_6 (List.mem_of_getElem? (i := 8) (by rfl))) (by decide +kernel)
set_option maxRecDepth 20000 in
theorem mp_6_9 : Cond.selects RX11 yX11_isGun yX11_isGun ∈ pw_T := pw_in (tp_6 (List.mem_of_getElem? (i := 9) (by rfl))) (by decide +kernel)
set_option maxRecDepth 20000 in
theorem mp_6_10 : Cond.selects RX11 yX11_passes yX11_passes ∈ pw_T := pw_in (tp_6 (List.mem_of_getElem? (i := 10) (by rfl))) (by decide +kernel)
set_option maxRecDepth 20000 in
theorem mp_6_11 : Cond.selects RX11 yX11_does yX11_does ∈ pw_T := pw_in (tp_6 (List.mem_of_getElem? (i := 11) (by rfl))) (by decide +kernel)
set_option maxRecDepth 20000 in
theorem mp_6_12 : Cond.selects RX11 yX11_hasRule yX11_hasRule ∈ pw_T := pw_in (tp_6 (List.mem_of_getElem? (i := 12) (by rfl))) (by decide +kernel)
set_option maxRecDepth 20000 in
theorem mp_6_13 : Cond.selects RX11 yX11_customOf yX11_customOf ∈ pw_T := pw_in (tp_6 (List.mem_of_getElem? (i := 13) (by rfl))) (by decide +kernel)
set_option maxRecDepth 20000 in
theorem mp_6_14 : Cond.selects RX11 yX11_keeps yX11_keeps ∈ pw_T := pw_in (tp_6 (List.mem_of_getElem? (i := 14) (by rfl))) (by decide +kernel)
set_option maxRecDepth 20000 in
theorem mp_6_15 : Cond.selects RX11 yX11_middleOf yX11_middleOf ∈ pw_T := pw_in (tp_6 (List.mem_of_getElem? (i := 15) (by rfl))) (by decide +kernel)
set_option maxRecDepth 20000 in
theorem mp_7_0 : Cond.selects RX11 yX11_writes yX11_writes ∈ pw_T := pw_in (tp_7 (List.mem_of_getElem? (i := 0) (by rfl))) (by decide +kernel)
set_option maxRecDepth 20000 in
theorem mp_7_1 : Cond.selects RX11 yX11_isThing yX11_isThing ∈ pw_T := pw_in (tp_7 (List.mem_of_getElem? (i := 1) (by rfl))) (by decide +kernel)
set_option maxRecDepth 20000 in
theorem mp_7_2 : Cond.selects RX11 yX11_isPast yX11_isPast ∈ pw_T := pw_in (tp_7 (List.mem_of_getElem? (i := 2) (by rfl))) (by decide +kernel)
set_option maxRecDepth 20000 in
theorem mp_7_3 : Cond.selects RX11 yX11_spreadOf yX11_spreadOf ∈ pw_T := pw_in (tp_7 (List.mem_of_getElem? (i := 3) (by rfl))) (by decide +kernel)
set_option maxRecDepth 20000 in
theorem mp_7_4 : Cond.selects RX11 yX11_copies yX11_copies ∈ pw_T := pw_in (tp_7 (List.mem_of_getElem? (i := 4) (by rfl))) (by decide +kernel)
set_option maxRecDepth 20000 in
theorem mp_7_5 : Cond.selects RX11 yX11_runsNow yX11_runsNow ∈ pw_T := pw_in (tp_7 (List.mem_of_getElem? (i := 5) (by rfl))) (by decide +kernel)
set_option maxRecDepth 20000 in
theorem mp_7_6 : Cond.selects RX11 yX11_runs yX11_runs ∈ pw_T := pw_in (tp_7 (List.mem_of_getElem? (i := 6) (by rfl))) (by decide +kernel)
set_option maxRecDepth 20000 in
theorem mp_7_7 : Cond.selects RX11 yX11_isBusy yX11_isBusy ∈ pw_T := pw_in (tp_7 (List.mem_of_getElem? (i := 7) (by rfl))) (by decide +kernel)
set_option maxRecDepth 20000 in
theorem mp_7_8 : Cond.selects RX11 yX11_roughOf yX11_roughOf ∈ pw_T := pw_in (tp_7 (List.mem_of_getElem? (i := 8) (by rfl))) (by decide +kernel)
set_option maxRecDepth 20000 in
theorem mp_7_9 : Cond.selects RX11 yX11_firstWrong yX11_firstWrong ∈ pw_T := pw_in (tp_7 (List.mem_of_getElem? (i := 9) (by rfl))) (by decide +kernel)
set_option maxRecDepth 20000 in
theorem mp_7_10 : Cond.selects RX11 yX11_knownMany yX11_knownMany ∈ pw_T := pw_in (tp_7 (List.mem_of_getElem? (i := 10) (by rfl))) (by decide +kernel)
set_option maxRecDepth 20000 in
theorem mp_7_11 : Cond.selects RX11 yX11_tries yX11_tries ∈ pw_T := pw_in (tp_7 (List.mem_of_getElem? (i := 11) (by rfl))) (by decide +kernel)
set_option maxRecDepth 20000 in
theorem mp_7_12 : Cond.selects RX11 yX11_isNear yX11_isNear ∈ pw_T := pw_in (tp_7 (List.mem_of_getElem? (i := 12) (by rfl))) (by decide +kernel)
set_option maxRecDepth 20000 in
theorem mw_2_128 : Cond.lays RX0 "PassedClocks$Course" "plan" "LPassedClocks$Plan;" ∈ pw_T := pw_in (tb_2 (List.mem_of_getElem? (i := 128) (by rfl))) (by decide +kernel)
set_option maxRecDepth 20000 in
theorem mw_2_130 : Cond.lays RX0 "PassedClocks$Course" "hour" "I" ∈ pw_T := pw_in (tb_2 (List.mem_of_getElem? (i := 130) (by rfl))) (by decide +kernel)
set_option maxRecDepth 20000 in
theorem mw_2_132 : Cond.lays RX0 "PassedClocks$Course" "passings" "I" ∈ pw_T := pw_in (tb_2 (List.mem_of_getElem? (i := 132) (by rfl))) (by decide +kernel)
set_option maxRecDepth 20000 in
theorem mw_2_134 : Cond.laysFinal RX0 "PassedClocks$Course" "last" "[I" ∈ pw_T := pw_in (tb_2 (List.mem_of_getElem? (i := 134) (by rfl))) (by decide +kernel)
set_option maxRecDepth 20000 in
theorem mw_2_136 : Cond.laysFinal RX0 "PassedClocks$Course" "passed" "[I" ∈ pw_T := pw_in (tb_2 (List.mem_of_getElem? (i := 136) (by rfl))) (by decide +kernel)
set_option maxRecDepth 20000 in
theorem mw_2_138 : Cond.laysFinal RX0 "PassedClocks$Course" "keptCount" "[I" ∈ pw_T := pw_in (tb_2 (List.mem_of_getElem? (i := 138) (by rfl))) (by decide +kernel)
set_option maxRecDepth 20000 in
theorem mw_2_140 : Cond.lays RX0 "PassedClocks$Course" "watched" "Z" ∈ pw_T := pw_in (tb_2 (List.mem_of_getElem? (i := 140) (by rfl))) (by decide +kernel)
set_option maxRecDepth 20000 in
theorem mw_2_142 : Cond.lays RX0 "PassedClocks$Course" "widest" "I" ∈ pw_T := pw_in (tb_2 (List.mem_of_getElem? (i := 142) (by rfl))) (by decide +kernel)
set_option maxRecDepth 20000 in
theorem mw_2_144 : Cond.lays RX0 "PassedClocks$Course" "deed" "I" ∈ pw_T := pw_in (tb_2 (List.mem_of_getElem? (i := 144) (by rfl))) (by decide +kernel)
set_option maxRecDepth 20000 in
theorem mw_2_146 : Cond.lays RX0 "PassedClocks$Course" "week" "I" ∈ pw_T := pw_in (tb_2 (List.mem_of_getElem? (i := 146) (by rfl))) (by decide +kernel)
set_option maxRecDepth 20000 in
theorem mw_2_148 : Cond.laysFinal RX0 "PassedClocks$Course" "off" "[I" ∈ pw_T := pw_in (tb_2 (List.mem_of_getElem? (i := 148) (by rfl))) (by decide +kernel)
set_option maxRecDepth 20000 in
theorem mw_2_150 : Cond.laysFinal RX0 "PassedClocks$Course" "since" "[I" ∈ pw_T := pw_in (tb_2 (List.mem_of_getElem? (i := 150) (by rfl))) (by decide +kernel)
set_option maxRecDepth 20000 in
theorem mw_2_152 : Cond.laysFinal RX0 "PassedClocks$Course" "kept" "[I" ∈ pw_T := pw_in (tb_2 (List.mem_of_getElem? (i := 152) (by rfl))) (by decide +kernel)
set_option maxRecDepth 20000 in
theorem mw_2_154 : Cond.laysFinal RX0 "PassedClocks$Course" "sorted" "[I" ∈ pw_T := pw_in (tb_2 (List.mem_of_getElem? (i := 154) (by rfl))) (by decide +kernel)
set_option maxRecDepth 20000 in
theorem inX0 : ∀ w ∈ u_ws RX0 TX0 14, w ∈ pw_T := List.forall_mem_cons.mpr ⟨mw_2_128, List.forall_mem_cons.mpr ⟨mw_2_130, List.forall_mem_cons.mpr ⟨mw_2_132, List.forall_mem_cons.mpr ⟨mw_2_134, List.forall_mem_cons.mpr ⟨mw_2_136, List.forall_mem_cons.mpr ⟨mw_2_138, List.forall_mem_cons.mpr ⟨mw_2_140, List.forall_mem_cons.mpr ⟨mw_2_142, List.forall_mem_cons.mpr ⟨mw_2_144, List.forall_mem_cons.mpr ⟨mw_2_146, List.forall_mem_cons.mpr ⟨mw_2_148, List.forall_mem_cons.mpr ⟨mw_2_150, List.forall_mem_cons.mpr ⟨mw_2_152, List.forall_mem_cons.mpr ⟨mw_2_154, fun _ h => absurd h List.not_mem_nil⟩⟩⟩⟩⟩⟩⟩⟩⟩⟩⟩⟩⟩⟩
set_option maxRecDepth 20000 in
theorem dfX0 : ∀ j, j < 14 → defaultValue (tyX0 j) = vp_V [.null, .int 0, .int 0, .null, .null, .null, .int 0, .int 0, .int 0, .int 0, .null, .null, .null, .null] j := by decide +kernel
set_option maxRecDepth 20000 in
theorem mw_2_238 : Cond.laysFinal RX1 "PassedClocks$Extremes" "least" "[I" ∈ pw_T := pw_in (tb_2 (List.mem_of_getElem? (i := 238) (by rfl))) (by decide +kernel)
set_option maxRecDepth 20000 in
theorem mw_3_0 : Cond.laysFinal RX1 "PassedClocks$Extremes" "leastAt" "[I" ∈ pw_T := pw_in (tb_3 (List.mem_of_getElem? (i := 0) (by rfl))) (by decide +kernel)
set_option maxRecDepth 20000 in
theorem mw_3_2 : Cond.laysFinal RX1 "PassedClocks$Extremes" "most" "[I" ∈ pw_T := pw_in (tb_3 (List.mem_of_getElem? (i := 2) (by rfl))) (by decide +kernel)
set_option maxRecDepth 20000 in
theorem mw_3_4 : Cond.laysFinal RX1 "PassedClocks$Extremes" "mostAt" "[I" ∈ pw_T := pw_in (tb_3 (List.mem_of_getElem? (i := 4) (by rfl))) (by decide +kernel)
set_option maxRecDepth 20000 in
theorem mw_3_6 : Cond.lays RX1 "PassedClocks$Extremes" "person" "I" ∈ pw_T := pw_in (tb_3 (List.mem_of_getElem? (i := 6) (by rfl))) (by decide +kernel)
set_option maxRecDepth 20000 in
theorem mw_3_8 : Cond.lays RX1 "PassedClocks$Extremes" "clock" "I" ∈ pw_T := pw_in (tb_3 (List.mem_of_getElem? (i := 8) (by rfl))) (by decide +kernel)
set_option maxRecDepth 20000 in
theorem mw_3_10 : Cond.lays RX1 "PassedClocks$Extremes" "hour" "I" ∈ pw_T := pw_in (tb_3 (List.mem_of_getElem? (i := 10) (by rfl))) (by decide +kernel)
set_option maxRecDepth 20000 in
theorem inX1 : ∀ w ∈ u_ws RX1 TX1 7, w ∈ pw_T := List.forall_mem_cons.mpr ⟨mw_2_238, List.forall_mem_cons.mpr ⟨mw_3_0, List.forall_mem_cons.mpr ⟨mw_3_2, List.forall_mem_cons.mpr ⟨mw_3_4, List.forall_mem_cons.mpr ⟨mw_3_6, List.forall_mem_cons.mpr ⟨mw_3_8, List.forall_mem_cons.mpr ⟨mw_3_10, fun _ h => absurd h List.not_mem_nil⟩⟩⟩⟩⟩⟩⟩
set_option maxRecDepth 20000 in
theorem dfX1 : ∀ j, j < 7 → defaultValue (tyX1 j) = vp_V [.null, .null, .null, .null, .int 0, .int 0, .int 0] j := by decide +kernel
set_option maxRecDepth 20000 in
theorem mw_2_167 : Cond.laysFinal RX2 "PassedClocks$History" "off" "[I" ∈ pw_T := pw_in (tb_2 (List.mem_of_getElem? (i := 167) (by rfl))) (by decide +kernel)
set_option maxRecDepth 20000 in
theorem mw_2_169 : Cond.laysFinal RX2 "PassedClocks$History" "apart" "[I" ∈ pw_T := pw_in (tb_2 (List.mem_of_getElem? (i := 169) (by rfl))) (by decide +kernel)
set_option maxRecDepth 20000 in
theorem inX2 : ∀ w ∈ u_ws RX2 TX2 2, w ∈ pw_T := List.forall_mem_cons.mpr ⟨mw_2_167, List.forall_mem_cons.mpr ⟨mw_2_169, fun _ h => absurd h List.not_mem_nil⟩⟩
set_option maxRecDepth 20000 in
theorem dfX2 : ∀ j, j < 2 → defaultValue (tyX2 j) = vp_V [.null, .null] j := by decide +kernel
set_option maxRecDepth 20000 in
theorem mw_2_78 : Cond.lays RX3 "PassedClocks$Plan" "told" "LPassedClocks$Told;" ∈ pw_T := pw_in (tb_2 (List.mem_of_getElem? (i := 78) (by rfl))) (by decide +kernel)
set_option maxRecDepth 20000 in
theorem mw_2_80 : Cond.laysFinal RX3 "PassedClocks$Plan" "first" "[I" ∈ pw_T := pw_in (tb_2 (List.mem_of_getElem? (i := 80) (by rfl))) (by decide +kernel)
set_option maxRecDepth 20000 in
theorem mw_2_82 : Cond.laysFinal RX3 "PassedClocks$Plan" "gain" "[I" ∈ pw_T := pw_in (tb_2 (List.mem_of_getElem? (i := 82) (by rfl))) (by decide +kernel)
set_option maxRecDepth 20000 in
theorem mw_2_84 : Cond.laysFinal RX3 "PassedClocks$Plan" "custom" "[I" ∈ pw_T := pw_in (tb_2 (List.mem_of_getElem? (i := 84) (by rfl))) (by decide +kernel)
set_option maxRecDepth 20000 in
theorem mw_2_86 : Cond.laysFinal RX3 "PassedClocks$Plan" "ruled" "[Z" ∈ pw_T := pw_in (tb_2 (List.mem_of_getElem? (i := 86) (by rfl))) (by decide +kernel)
set_option maxRecDepth 20000 in
theorem mw_2_88 : Cond.lays RX3 "PassedClocks$Plan" "deeds" "I" ∈ pw_T := pw_in (tb_2 (List.mem_of_getElem? (i := 88) (by rfl))) (by decide +kernel)
set_option maxRecDepth 20000 in
theorem mw_2_90 : Cond.laysFinal RX3 "PassedClocks$Plan" "deedHour" "[I" ∈ pw_T := pw_in (tb_2 (List.mem_of_getElem? (i := 90) (by rfl))) (by decide +kernel)
set_option maxRecDepth 20000 in
theorem mw_2_92 : Cond.laysFinal RX3 "PassedClocks$Plan" "deedPerson" "[I" ∈ pw_T := pw_in (tb_2 (List.mem_of_getElem? (i := 92) (by rfl))) (by decide +kernel)
set_option maxRecDepth 20000 in
theorem mw_2_94 : Cond.laysFinal RX3 "PassedClocks$Plan" "deedClock" "[I" ∈ pw_T := pw_in (tb_2 (List.mem_of_getElem? (i := 94) (by rfl))) (by decide +kernel)
set_option maxRecDepth 20000 in
theorem inX3 : ∀ w ∈ u_ws RX3 TX3 9, w ∈ pw_T := List.forall_mem_cons.mpr ⟨mw_2_78, List.forall_mem_cons.mpr ⟨mw_2_80, List.forall_mem_cons.mpr ⟨mw_2_82, List.forall_mem_cons.mpr ⟨mw_2_84, List.forall_mem_cons.mpr ⟨mw_2_86, List.forall_mem_cons.mpr ⟨mw_2_88, List.forall_mem_cons.mpr ⟨mw_2_90, List.forall_mem_cons.mpr ⟨mw_2_92, List.forall_mem_cons.mpr ⟨mw_2_94, fun _ h => absurd h List.not_mem_nil⟩⟩⟩⟩⟩⟩⟩⟩⟩
set_option maxRecDepth 20000 in
theorem dfX3 : ∀ j, j < 9 → defaultValue (tyX3 j) = vp_V [.null, .null, .null, .null, .null, .int 0, .null, .null, .null] j := by decide +kernel
set_option maxRecDepth 20000 in
theorem mw_1_134 : Cond.laysFinal RX4 "PassedClocks$Reader" "tape" "[B" ∈ pw_T := pw_in (tb_1 (List.mem_of_getElem? (i := 134) (by rfl))) (by decide +kernel)
set_option maxRecDepth 20000 in
theorem mw_1_136 : Cond.lays RX4 "PassedClocks$Reader" "bytes" "I" ∈ pw_T := pw_in (tb_1 (List.mem_of_getElem? (i := 136) (by rfl))) (by decide +kernel)
set_option maxRecDepth 20000 in
theorem mw_1_138 : Cond.lays RX4 "PassedClocks$Reader" "fault" "I" ∈ pw_T := pw_in (tb_1 (List.mem_of_getElem? (i := 138) (by rfl))) (by decide +kernel)
set_option maxRecDepth 20000 in
theorem mw_1_140 : Cond.lays RX4 "PassedClocks$Reader" "place" "I" ∈ pw_T := pw_in (tb_1 (List.mem_of_getElem? (i := 140) (by rfl))) (by decide +kernel)
set_option maxRecDepth 20000 in
theorem mw_1_142 : Cond.laysFinal RX4 "PassedClocks$Reader" "tokens" "LPassedClocks$Tokens;" ∈ pw_T := pw_in (tb_1 (List.mem_of_getElem? (i := 142) (by rfl))) (by decide +kernel)
set_option maxRecDepth 20000 in
theorem mw_1_144 : Cond.lays RX4 "PassedClocks$Reader" "told" "LPassedClocks$Told;" ∈ pw_T := pw_in (tb_1 (List.mem_of_getElem? (i := 144) (by rfl))) (by decide +kernel)
set_option maxRecDepth 20000 in
theorem mw_1_146 : Cond.lays RX4 "PassedClocks$Reader" "at" "I" ∈ pw_T := pw_in (tb_1 (List.mem_of_getElem? (i := 146) (by rfl))) (by decide +kernel)
set_option maxRecDepth 20000 in
theorem mw_1_148 : Cond.lays RX4 "PassedClocks$Reader" "knots" "I" ∈ pw_T := pw_in (tb_1 (List.mem_of_getElem? (i := 148) (by rfl))) (by decide +kernel)
set_option maxRecDepth 20000 in
theorem inX4 : ∀ w ∈ u_ws RX4 TX4 8, w ∈ pw_T := List.forall_mem_cons.mpr ⟨mw_1_134, List.forall_mem_cons.mpr ⟨mw_1_136, List.forall_mem_cons.mpr ⟨mw_1_138, List.forall_mem_cons.mpr ⟨mw_1_140, List.forall_mem_cons.mpr ⟨mw_1_142, List.forall_mem_cons.mpr ⟨mw_1_144, List.forall_mem_cons.mpr ⟨mw_1_146, List.forall_mem_cons.mpr ⟨mw_1_148, fun _ h => absurd h List.not_mem_nil⟩⟩⟩⟩⟩⟩⟩⟩
set_option maxRecDepth 20000 in
theorem dfX4 : ∀ j, j < 8 → defaultValue (tyX4 j) = vp_V [.null, .int 0, .int 0, .int 0, .null, .null, .int 0, .int 0] j := by decide +kernel
set_option maxRecDepth 20000 in
theorem mw_2_187 : Cond.lays RX5 "PassedClocks$Readings" "count" "I" ∈ pw_T := pw_in (tb_2 (List.mem_of_getElem? (i := 187) (by rfl))) (by decide +kernel)
set_option maxRecDepth 20000 in
theorem mw_2_189 : Cond.lays RX5 "PassedClocks$Readings" "knownFirst" "I" ∈ pw_T := pw_in (tb_2 (List.mem_of_getElem? (i := 189) (by rfl))) (by decide +kernel)
set_option maxRecDepth 20000 in
theorem mw_2_191 : Cond.laysFinal RX5 "PassedClocks$Readings" "slot" "[I" ∈ pw_T := pw_in (tb_2 (List.mem_of_getElem? (i := 191) (by rfl))) (by decide +kernel)
set_option maxRecDepth 20000 in
theorem mw_2_193 : Cond.laysFinal RX5 "PassedClocks$Readings" "hour" "[I" ∈ pw_T := pw_in (tb_2 (List.mem_of_getElem? (i := 193) (by rfl))) (by decide +kernel)
set_option maxRecDepth 20000 in
theorem mw_2_195 : Cond.laysFinal RX5 "PassedClocks$Readings" "low" "[I" ∈ pw_T := pw_in (tb_2 (List.mem_of_getElem? (i := 195) (by rfl))) (by decide +kernel)
set_option maxRecDepth 20000 in
theorem mw_2_197 : Cond.laysFinal RX5 "PassedClocks$Readings" "high" "[I" ∈ pw_T := pw_in (tb_2 (List.mem_of_getElem? (i := 197) (by rfl))) (by decide +kernel)
set_option maxRecDepth 20000 in
theorem mw_2_199 : Cond.laysFinal RX5 "PassedClocks$Readings" "byHour" "[I" ∈ pw_T := pw_in (tb_2 (List.mem_of_getElem? (i := 199) (by rfl))) (by decide +kernel)
set_option maxRecDepth 20000 in
theorem inX5 : ∀ w ∈ u_ws RX5 TX5 7, w ∈ pw_T := List.forall_mem_cons.mpr ⟨mw_2_187, List.forall_mem_cons.mpr ⟨mw_2_189, List.forall_mem_cons.mpr ⟨mw_2_191, List.forall_mem_cons.mpr ⟨mw_2_193, List.forall_mem_cons.mpr ⟨mw_2_195, List.forall_mem_cons.mpr ⟨mw_2_197, List.forall_mem_cons.mpr ⟨mw_2_199, fun _ h => absurd h List.not_mem_nil⟩⟩⟩⟩⟩⟩⟩
set_option maxRecDepth 20000 in
theorem dfX5 : ∀ j, j < 7 → defaultValue (tyX5 j) = vp_V [.int 0, .int 0, .null, .null, .null, .null, .null] j := by decide +kernel
set_option maxRecDepth 20000 in
theorem mw_1_174 : Cond.lays RX6 "PassedClocks$Rules" "knots" "I" ∈ pw_T := pw_in (tb_1 (List.mem_of_getElem? (i := 174) (by rfl))) (by decide +kernel)
set_option maxRecDepth 20000 in
theorem mw_1_176 : Cond.laysFinal RX6 "PassedClocks$Rules" "kind" "[I" ∈ pw_T := pw_in (tb_1 (List.mem_of_getElem? (i := 176) (by rfl))) (by decide +kernel)
set_option maxRecDepth 20000 in
theorem mw_1_178 : Cond.laysFinal RX6 "PassedClocks$Rules" "number" "[I" ∈ pw_T := pw_in (tb_1 (List.mem_of_getElem? (i := 178) (by rfl))) (by decide +kernel)
set_option maxRecDepth 20000 in
theorem mw_1_180 : Cond.laysFinal RX6 "PassedClocks$Rules" "from" "[I" ∈ pw_T := pw_in (tb_1 (List.mem_of_getElem? (i := 180) (by rfl))) (by decide +kernel)
set_option maxRecDepth 20000 in
theorem mw_1_182 : Cond.laysFinal RX6 "PassedClocks$Rules" "until" "[I" ∈ pw_T := pw_in (tb_1 (List.mem_of_getElem? (i := 182) (by rfl))) (by decide +kernel)
set_option maxRecDepth 20000 in
theorem mw_1_184 : Cond.laysFinal RX6 "PassedClocks$Rules" "names" "[J" ∈ pw_T := pw_in (tb_1 (List.mem_of_getElem? (i := 184) (by rfl))) (by decide +kernel)
set_option maxRecDepth 20000 in
theorem mw_1_186 : Cond.laysFinal RX6 "PassedClocks$Rules" "stack" "[J" ∈ pw_T := pw_in (tb_1 (List.mem_of_getElem? (i := 186) (by rfl))) (by decide +kernel)
set_option maxRecDepth 20000 in
theorem inX6 : ∀ w ∈ u_ws RX6 TX6 7, w ∈ pw_T := List.forall_mem_cons.mpr ⟨mw_1_174, List.forall_mem_cons.mpr ⟨mw_1_176, List.forall_mem_cons.mpr ⟨mw_1_178, List.forall_mem_cons.mpr ⟨mw_1_180, List.forall_mem_cons.mpr ⟨mw_1_182, List.forall_mem_cons.mpr ⟨mw_1_184, List.forall_mem_cons.mpr ⟨mw_1_186, fun _ h => absurd h List.not_mem_nil⟩⟩⟩⟩⟩⟩⟩
set_option maxRecDepth 20000 in
theorem dfX6 : ∀ j, j < 7 → defaultValue (tyX6 j) = vp_V [.int 0, .null, .null, .null, .null, .null, .null] j := by decide +kernel
set_option maxRecDepth 20000 in
theorem mw_1_110 : Cond.lays RX7 "PassedClocks$Tokens" "count" "I" ∈ pw_T := pw_in (tb_1 (List.mem_of_getElem? (i := 110) (by rfl))) (by decide +kernel)
set_option maxRecDepth 20000 in
theorem mw_1_112 : Cond.laysFinal RX7 "PassedClocks$Tokens" "kind" "[I" ∈ pw_T := pw_in (tb_1 (List.mem_of_getElem? (i := 112) (by rfl))) (by decide +kernel)
set_option maxRecDepth 20000 in
theorem mw_1_114 : Cond.laysFinal RX7 "PassedClocks$Tokens" "place" "[I" ∈ pw_T := pw_in (tb_1 (List.mem_of_getElem? (i := 114) (by rfl))) (by decide +kernel)
set_option maxRecDepth 20000 in
theorem mw_1_116 : Cond.laysFinal RX7 "PassedClocks$Tokens" "worth" "[I" ∈ pw_T := pw_in (tb_1 (List.mem_of_getElem? (i := 116) (by rfl))) (by decide +kernel)
set_option maxRecDepth 20000 in
theorem mw_1_118 : Cond.laysFinal RX7 "PassedClocks$Tokens" "language" "[I" ∈ pw_T := pw_in (tb_1 (List.mem_of_getElem? (i := 118) (by rfl))) (by decide +kernel)
set_option maxRecDepth 20000 in
theorem inX7 : ∀ w ∈ u_ws RX7 TX7 5, w ∈ pw_T := List.forall_mem_cons.mpr ⟨mw_1_110, List.forall_mem_cons.mpr ⟨mw_1_112, List.forall_mem_cons.mpr ⟨mw_1_114, List.forall_mem_cons.mpr ⟨mw_1_116, List.forall_mem_cons.mpr ⟨mw_1_118, fun _ h => absurd h List.not_mem_nil⟩⟩⟩⟩⟩
set_option maxRecDepth 20000 in
theorem dfX7 : ∀ j, j < 5 → defaultValue (tyX7 j) = vp_V [.int 0, .null, .null, .null, .null] j := by decide +kernel
set_option maxRecDepth 20000 in
theorem mw_2_15 : Cond.lays RX8 "PassedClocks$Told" "clocks" "I" ∈ pw_T := pw_in (tb_2 (List.mem_of_getElem? (i := 15) (by rfl))) (by decide +kernel)
set_option maxRecDepth 20000 in
theorem mw_2_17 : Cond.lays RX8 "PassedClocks$Told" "people" "I" ∈ pw_T := pw_in (tb_2 (List.mem_of_getElem? (i := 17) (by rfl))) (by decide +kernel)
set_option maxRecDepth 20000 in
theorem mw_2_19 : Cond.lays RX8 "PassedClocks$Told" "rounds" "I" ∈ pw_T := pw_in (tb_2 (List.mem_of_getElem? (i := 19) (by rfl))) (by decide +kernel)
set_option maxRecDepth 20000 in
theorem mw_2_21 : Cond.lays RX8 "PassedClocks$Told" "guns" "I" ∈ pw_T := pw_in (tb_2 (List.mem_of_getElem? (i := 21) (by rfl))) (by decide +kernel)
set_option maxRecDepth 20000 in
theorem mw_2_23 : Cond.lays RX8 "PassedClocks$Told" "lines" "I" ∈ pw_T := pw_in (tb_2 (List.mem_of_getElem? (i := 23) (by rfl))) (by decide +kernel)
set_option maxRecDepth 20000 in
theorem mw_2_25 : Cond.laysFinal RX8 "PassedClocks$Told" "name" "[I" ∈ pw_T := pw_in (tb_2 (List.mem_of_getElem? (i := 25) (by rfl))) (by decide +kernel)
set_option maxRecDepth 20000 in
theorem mw_2_27 : Cond.laysFinal RX8 "PassedClocks$Told" "first" "[I" ∈ pw_T := pw_in (tb_2 (List.mem_of_getElem? (i := 27) (by rfl))) (by decide +kernel)
set_option maxRecDepth 20000 in
theorem mw_2_29 : Cond.laysFinal RX8 "PassedClocks$Told" "gain" "[I" ∈ pw_T := pw_in (tb_2 (List.mem_of_getElem? (i := 29) (by rfl))) (by decide +kernel)
set_option maxRecDepth 20000 in
theorem mw_2_31 : Cond.laysFinal RX8 "PassedClocks$Told" "rough" "[I" ∈ pw_T := pw_in (tb_2 (List.mem_of_getElem? (i := 31) (by rfl))) (by decide +kernel)
set_option maxRecDepth 20000 in
theorem mw_2_33 : Cond.laysFinal RX8 "PassedClocks$Told" "custom" "[I" ∈ pw_T := pw_in (tb_2 (List.mem_of_getElem? (i := 33) (by rfl))) (by decide +kernel)
set_option maxRecDepth 20000 in
theorem mw_2_35 : Cond.laysFinal RX8 "PassedClocks$Told" "part" "[I" ∈ pw_T := pw_in (tb_2 (List.mem_of_getElem? (i := 35) (by rfl))) (by decide +kernel)
set_option maxRecDepth 20000 in
theorem mw_2_37 : Cond.laysFinal RX8 "PassedClocks$Told" "whole" "[I" ∈ pw_T := pw_in (tb_2 (List.mem_of_getElem? (i := 37) (by rfl))) (by decide +kernel)
set_option maxRecDepth 20000 in
theorem mw_2_39 : Cond.laysFinal RX8 "PassedClocks$Told" "roundPerson" "[I" ∈ pw_T := pw_in (tb_2 (List.mem_of_getElem? (i := 39) (by rfl))) (by decide +kernel)
set_option maxRecDepth 20000 in
theorem mw_2_41 : Cond.laysFinal RX8 "PassedClocks$Told" "roundClock" "[I" ∈ pw_T := pw_in (tb_2 (List.mem_of_getElem? (i := 41) (by rfl))) (by decide +kernel)
set_option maxRecDepth 20000 in
theorem mw_2_43 : Cond.laysFinal RX8 "PassedClocks$Told" "roundHour" "[I" ∈ pw_T := pw_in (tb_2 (List.mem_of_getElem? (i := 43) (by rfl))) (by decide +kernel)
set_option maxRecDepth 20000 in
theorem mw_2_45 : Cond.laysFinal RX8 "PassedClocks$Told" "gunClock" "[I" ∈ pw_T := pw_in (tb_2 (List.mem_of_getElem? (i := 45) (by rfl))) (by decide +kernel)
set_option maxRecDepth 20000 in
theorem mw_2_47 : Cond.laysFinal RX8 "PassedClocks$Told" "gunHour" "[I" ∈ pw_T := pw_in (tb_2 (List.mem_of_getElem? (i := 47) (by rfl))) (by decide +kernel)
set_option maxRecDepth 20000 in
theorem mw_2_49 : Cond.laysFinal RX8 "PassedClocks$Told" "rules" "LPassedClocks$Rules;" ∈ pw_T := pw_in (tb_2 (List.mem_of_getElem? (i := 49) (by rfl))) (by decide +kernel)
set_option maxRecDepth 20000 in
theorem inX8 : ∀ w ∈ u_ws RX8 TX8 18, w ∈ pw_T := List.forall_mem_cons.mpr ⟨mw_2_15, List.forall_mem_cons.mpr ⟨mw_2_17, List.forall_mem_cons.mpr ⟨mw_2_19, List.forall_mem_cons.mpr ⟨mw_2_21, List.forall_mem_cons.mpr ⟨mw_2_23, List.forall_mem_cons.mpr ⟨mw_2_25, List.forall_mem_cons.mpr ⟨mw_2_27, List.forall_mem_cons.mpr ⟨mw_2_29, List.forall_mem_cons.mpr ⟨mw_2_31, List.forall_mem_cons.mpr ⟨mw_2_33, List.forall_mem_cons.mpr ⟨mw_2_35, List.forall_mem_cons.mpr ⟨mw_2_37, List.forall_mem_cons.mpr ⟨mw_2_39, List.forall_mem_cons.mpr ⟨mw_2_41, List.forall_mem_cons.mpr ⟨mw_2_43, List.forall_mem_cons.mpr ⟨mw_2_45, List.forall_mem_cons.mpr ⟨mw_2_47, List.forall_mem_cons.mpr ⟨mw_2_49, fun _ h => absurd h List.not_mem_nil⟩⟩⟩⟩⟩⟩⟩⟩⟩⟩⟩⟩⟩⟩⟩⟩⟩⟩
set_option maxRecDepth 20000 in
theorem dfX8 : ∀ j, j < 18 → defaultValue (tyX8 j) = vp_V [.int 0, .int 0, .int 0, .int 0, .int 0, .null, .null, .null, .null, .null, .null, .null, .null, .null, .null, .null, .null, .null] j := by decide +kernel
set_option maxRecDepth 20000 in
theorem mw_2_214 : Cond.lays RX9 "PassedClocks$Ways" "slot" "I" ∈ pw_T := pw_in (tb_2 (List.mem_of_getElem? (i := 214) (by rfl))) (by decide +kernel)
set_option maxRecDepth 20000 in
theorem mw_2_216 : Cond.lays RX9 "PassedClocks$Ways" "count" "I" ∈ pw_T := pw_in (tb_2 (List.mem_of_getElem? (i := 216) (by rfl))) (by decide +kernel)
set_option maxRecDepth 20000 in
theorem mw_2_218 : Cond.laysFinal RX9 "PassedClocks$Ways" "seconds" "[I" ∈ pw_T := pw_in (tb_2 (List.mem_of_getElem? (i := 218) (by rfl))) (by decide +kernel)
set_option maxRecDepth 20000 in
theorem inX9 : ∀ w ∈ u_ws RX9 TX9 3, w ∈ pw_T := List.forall_mem_cons.mpr ⟨mw_2_214, List.forall_mem_cons.mpr ⟨mw_2_216, List.forall_mem_cons.mpr ⟨mw_2_218, fun _ h => absurd h List.not_mem_nil⟩⟩⟩
set_option maxRecDepth 20000 in
theorem dfX9 : ∀ j, j < 3 → defaultValue (tyX9 j) = vp_V [.int 0, .int 0, .null] j := by decide +kernel
set_option maxRecDepth 20000 in
theorem mw_3_28 : Cond.laysFinal RX10 "PassedClocks" "reader" "LPassedClocks$Reader;" ∈ pw_T := pw_in (tb_3 (List.mem_of_getElem? (i := 28) (by rfl))) (by decide +kernel)
set_option maxRecDepth 20000 in
theorem mw_3_30 : Cond.lays RX10 "PassedClocks" "told" "LPassedClocks$Told;" ∈ pw_T := pw_in (tb_3 (List.mem_of_getElem? (i := 30) (by rfl))) (by decide +kernel)
set_option maxRecDepth 20000 in
theorem mw_3_32 : Cond.lays RX10 "PassedClocks" "spare" "LPassedClocks$Told;" ∈ pw_T := pw_in (tb_3 (List.mem_of_getElem? (i := 32) (by rfl))) (by decide +kernel)
set_option maxRecDepth 20000 in
theorem mw_3_34 : Cond.laysFinal RX10 "PassedClocks" "asTold" "LPassedClocks$Plan;" ∈ pw_T := pw_in (tb_3 (List.mem_of_getElem? (i := 34) (by rfl))) (by decide +kernel)
set_option maxRecDepth 20000 in
theorem mw_3_36 : Cond.laysFinal RX10 "PassedClocks" "tryPlan" "LPassedClocks$Plan;" ∈ pw_T := pw_in (tb_3 (List.mem_of_getElem? (i := 36) (by rfl))) (by decide +kernel)
set_option maxRecDepth 20000 in
theorem mw_3_38 : Cond.laysFinal RX10 "PassedClocks" "now" "LPassedClocks$Course;" ∈ pw_T := pw_in (tb_3 (List.mem_of_getElem? (i := 38) (by rfl))) (by decide +kernel)
set_option maxRecDepth 20000 in
theorem mw_3_40 : Cond.laysFinal RX10 "PassedClocks" "image" "LPassedClocks$Course;" ∈ pw_T := pw_in (tb_3 (List.mem_of_getElem? (i := 40) (by rfl))) (by decide +kernel)
set_option maxRecDepth 20000 in
theorem mw_3_42 : Cond.lays RX10 "PassedClocks" "imageKept" "Z" ∈ pw_T := pw_in (tb_3 (List.mem_of_getElem? (i := 42) (by rfl))) (by decide +kernel)
set_option maxRecDepth 20000 in
theorem mw_3_44 : Cond.laysFinal RX10 "PassedClocks" "plainRun" "LPassedClocks$Course;" ∈ pw_T := pw_in (tb_3 (List.mem_of_getElem? (i := 44) (by rfl))) (by decide +kernel)
set_option maxRecDepth 20000 in
theorem mw_3_46 : Cond.laysFinal RX10 "PassedClocks" "tryRun" "LPassedClocks$Course;" ∈ pw_T := pw_in (tb_3 (List.mem_of_getElem? (i := 46) (by rfl))) (by decide +kernel)
set_option maxRecDepth 20000 in
theorem mw_3_48 : Cond.laysFinal RX10 "PassedClocks" "history" "LPassedClocks$History;" ∈ pw_T := pw_in (tb_3 (List.mem_of_getElem? (i := 48) (by rfl))) (by decide +kernel)
set_option maxRecDepth 20000 in
theorem mw_3_50 : Cond.laysFinal RX10 "PassedClocks" "readings" "LPassedClocks$Readings;" ∈ pw_T := pw_in (tb_3 (List.mem_of_getElem? (i := 50) (by rfl))) (by decide +kernel)
set_option maxRecDepth 20000 in
theorem mw_3_52 : Cond.laysFinal RX10 "PassedClocks" "ways" "LPassedClocks$Ways;" ∈ pw_T := pw_in (tb_3 (List.mem_of_getElem? (i := 52) (by rfl))) (by decide +kernel)
set_option maxRecDepth 20000 in
theorem mw_3_54 : Cond.laysFinal RX10 "PassedClocks" "endsFound" "LPassedClocks$Extremes;" ∈ pw_T := pw_in (tb_3 (List.mem_of_getElem? (i := 54) (by rfl))) (by decide +kernel)
set_option maxRecDepth 20000 in
theorem mw_3_56 : Cond.laysFinal RX10 "PassedClocks" "purposeFound" "LPassedClocks$Extremes;" ∈ pw_T := pw_in (tb_3 (List.mem_of_getElem? (i := 56) (by rfl))) (by decide +kernel)
set_option maxRecDepth 20000 in
theorem inX10 : ∀ w ∈ u_ws RX10 TX10 15, w ∈ pw_T := List.forall_mem_cons.mpr ⟨mw_3_28, List.forall_mem_cons.mpr ⟨mw_3_30, List.forall_mem_cons.mpr ⟨mw_3_32, List.forall_mem_cons.mpr ⟨mw_3_34, List.forall_mem_cons.mpr ⟨mw_3_36, List.forall_mem_cons.mpr ⟨mw_3_38, List.forall_mem_cons.mpr ⟨mw_3_40, List.forall_mem_cons.mpr ⟨mw_3_42, List.forall_mem_cons.mpr ⟨mw_3_44, List.forall_mem_cons.mpr ⟨mw_3_46, List.forall_mem_cons.mpr ⟨mw_3_48, List.forall_mem_cons.mpr ⟨mw_3_50, List.forall_mem_cons.mpr ⟨mw_3_52, List.forall_mem_cons.mpr ⟨mw_3_54, List.forall_mem_cons.mpr ⟨mw_3_56, fun _ h => absurd h List.not_mem_nil⟩⟩⟩⟩⟩⟩⟩⟩⟩⟩⟩⟩⟩⟩⟩
set_option maxRecDepth 20000 in
theorem dfX10 : ∀ j, j < 15 → defaultValue (tyX10 j) = vp_V [.null, .null, .null, .null, .null, .null, .null, .int 0, .null, .null, .null, .null, .null, .null, .null] j := by decide +kernel
set_option maxRecDepth 20000 in
theorem mw_6_90 : Cond.lays RX11 "PassedClocksModel" "thrown" "I" ∈ pw_T := pw_in (tb_6 (List.mem_of_getElem? (i := 90) (by rfl))) (by decide +kernel)
set_option maxRecDepth 20000 in
theorem mw_6_92 : Cond.laysFinal RX11 "PassedClocksModel" "tape" "[I" ∈ pw_T := pw_in (tb_6 (List.mem_of_getElem? (i := 92) (by rfl))) (by decide +kernel)
set_option maxRecDepth 20000 in
theorem mw_6_94 : Cond.lays RX11 "PassedClocksModel" "taped" "I" ∈ pw_T := pw_in (tb_6 (List.mem_of_getElem? (i := 94) (by rfl))) (by decide +kernel)
set_option maxRecDepth 20000 in
theorem mw_6_96 : Cond.laysFinal RX11 "PassedClocksModel" "number" "[I" ∈ pw_T := pw_in (tb_6 (List.mem_of_getElem? (i := 96) (by rfl))) (by decide +kernel)
set_option maxRecDepth 20000 in
theorem mw_6_98 : Cond.laysFinal RX11 "PassedClocksModel" "clockName" "[I" ∈ pw_T := pw_in (tb_6 (List.mem_of_getElem? (i := 98) (by rfl))) (by decide +kernel)
set_option maxRecDepth 20000 in
theorem mw_6_100 : Cond.laysFinal RX11 "PassedClocksModel" "clockOff" "[I" ∈ pw_T := pw_in (tb_6 (List.mem_of_getElem? (i := 100) (by rfl))) (by decide +kernel)
set_option maxRecDepth 20000 in
theorem mw_6_102 : Cond.laysFinal RX11 "PassedClocksModel" "clockGain" "[I" ∈ pw_T := pw_in (tb_6 (List.mem_of_getElem? (i := 102) (by rfl))) (by decide +kernel)
set_option maxRecDepth 20000 in
theorem mw_6_104 : Cond.laysFinal RX11 "PassedClocksModel" "clockRough" "[I" ∈ pw_T := pw_in (tb_6 (List.mem_of_getElem? (i := 104) (by rfl))) (by decide +kernel)
set_option maxRecDepth 20000 in
theorem mw_6_106 : Cond.laysFinal RX11 "PassedClocksModel" "personName" "[I" ∈ pw_T := pw_in (tb_6 (List.mem_of_getElem? (i := 106) (by rfl))) (by decide +kernel)
set_option maxRecDepth 20000 in
theorem mw_6_108 : Cond.laysFinal RX11 "PassedClocksModel" "personOff" "[I" ∈ pw_T := pw_in (tb_6 (List.mem_of_getElem? (i := 108) (by rfl))) (by decide +kernel)
set_option maxRecDepth 20000 in
theorem mw_6_110 : Cond.laysFinal RX11 "PassedClocksModel" "personGain" "[I" ∈ pw_T := pw_in (tb_6 (List.mem_of_getElem? (i := 110) (by rfl))) (by decide +kernel)
set_option maxRecDepth 20000 in
theorem mw_6_112 : Cond.laysFinal RX11 "PassedClocksModel" "personRough" "[I" ∈ pw_T := pw_in (tb_6 (List.mem_of_getElem? (i := 112) (by rfl))) (by decide +kernel)
set_option maxRecDepth 20000 in
theorem mw_6_114 : Cond.laysFinal RX11 "PassedClocksModel" "custom" "[I" ∈ pw_T := pw_in (tb_6 (List.mem_of_getElem? (i := 114) (by rfl))) (by decide +kernel)
set_option maxRecDepth 20000 in
theorem mw_6_116 : Cond.laysFinal RX11 "PassedClocksModel" "customA" "[I" ∈ pw_T := pw_in (tb_6 (List.mem_of_getElem? (i := 116) (by rfl))) (by decide +kernel)
set_option maxRecDepth 20000 in
theorem mw_6_118 : Cond.laysFinal RX11 "PassedClocksModel" "customB" "[I" ∈ pw_T := pw_in (tb_6 (List.mem_of_getElem? (i := 118) (by rfl))) (by decide +kernel)
set_option maxRecDepth 20000 in
theorem mw_6_120 : Cond.laysFinal RX11 "PassedClocksModel" "ruleFrom" "[I" ∈ pw_T := pw_in (tb_6 (List.mem_of_getElem? (i := 120) (by rfl))) (by decide +kernel)
set_option maxRecDepth 20000 in
theorem mw_6_122 : Cond.laysFinal RX11 "PassedClocksModel" "ruleTo" "[I" ∈ pw_T := pw_in (tb_6 (List.mem_of_getElem? (i := 122) (by rfl))) (by decide +kernel)
set_option maxRecDepth 20000 in
theorem mw_6_124 : Cond.laysFinal RX11 "PassedClocksModel" "roundOf" "[I" ∈ pw_T := pw_in (tb_6 (List.mem_of_getElem? (i := 124) (by rfl))) (by decide +kernel)
set_option maxRecDepth 20000 in
theorem mw_6_126 : Cond.laysFinal RX11 "PassedClocksModel" "roundAt" "[I" ∈ pw_T := pw_in (tb_6 (List.mem_of_getElem? (i := 126) (by rfl))) (by decide +kernel)
set_option maxRecDepth 20000 in
theorem mw_6_128 : Cond.laysFinal RX11 "PassedClocksModel" "roundHour" "[I" ∈ pw_T := pw_in (tb_6 (List.mem_of_getElem? (i := 128) (by rfl))) (by decide +kernel)
set_option maxRecDepth 20000 in
theorem mw_6_130 : Cond.laysFinal RX11 "PassedClocksModel" "gunAt" "[I" ∈ pw_T := pw_in (tb_6 (List.mem_of_getElem? (i := 130) (by rfl))) (by decide +kernel)
set_option maxRecDepth 20000 in
theorem mw_6_132 : Cond.laysFinal RX11 "PassedClocksModel" "gunHour" "[I" ∈ pw_T := pw_in (tb_6 (List.mem_of_getElem? (i := 132) (by rfl))) (by decide +kernel)
set_option maxRecDepth 20000 in
theorem mw_6_134 : Cond.laysFinal RX11 "PassedClocksModel" "knotSort" "[I" ∈ pw_T := pw_in (tb_6 (List.mem_of_getElem? (i := 134) (by rfl))) (by decide +kernel)
set_option maxRecDepth 20000 in
theorem mw_6_136 : Cond.laysFinal RX11 "PassedClocksModel" "knotValue" "[I" ∈ pw_T := pw_in (tb_6 (List.mem_of_getElem? (i := 136) (by rfl))) (by decide +kernel)
set_option maxRecDepth 20000 in
theorem mw_6_138 : Cond.lays RX11 "PassedClocksModel" "lines" "I" ∈ pw_T := pw_in (tb_6 (List.mem_of_getElem? (i := 138) (by rfl))) (by decide +kernel)
set_option maxRecDepth 20000 in
theorem mw_6_140 : Cond.lays RX11 "PassedClocksModel" "size" "I" ∈ pw_T := pw_in (tb_6 (List.mem_of_getElem? (i := 140) (by rfl))) (by decide +kernel)
set_option maxRecDepth 20000 in
theorem mw_6_142 : Cond.lays RX11 "PassedClocksModel" "at" "I" ∈ pw_T := pw_in (tb_6 (List.mem_of_getElem? (i := 142) (by rfl))) (by decide +kernel)
set_option maxRecDepth 20000 in
theorem mw_6_144 : Cond.lays RX11 "PassedClocksModel" "place" "I" ∈ pw_T := pw_in (tb_6 (List.mem_of_getElem? (i := 144) (by rfl))) (by decide +kernel)
set_option maxRecDepth 20000 in
theorem mw_6_146 : Cond.lays RX11 "PassedClocksModel" "sort" "I" ∈ pw_T := pw_in (tb_6 (List.mem_of_getElem? (i := 146) (by rfl))) (by decide +kernel)
set_option maxRecDepth 20000 in
theorem mw_6_148 : Cond.lays RX11 "PassedClocksModel" "value" "I" ∈ pw_T := pw_in (tb_6 (List.mem_of_getElem? (i := 148) (by rfl))) (by decide +kernel)
set_option maxRecDepth 20000 in
theorem mw_6_150 : Cond.lays RX11 "PassedClocksModel" "fault" "I" ∈ pw_T := pw_in (tb_6 (List.mem_of_getElem? (i := 150) (by rfl))) (by decide +kernel)
set_option maxRecDepth 20000 in
theorem mw_6_152 : Cond.lays RX11 "PassedClocksModel" "faultPlace" "I" ∈ pw_T := pw_in (tb_6 (List.mem_of_getElem? (i := 152) (by rfl))) (by decide +kernel)
set_option maxRecDepth 20000 in
theorem mw_6_154 : Cond.lays RX11 "PassedClocksModel" "lastFault" "I" ∈ pw_T := pw_in (tb_6 (List.mem_of_getElem? (i := 154) (by rfl))) (by decide +kernel)
set_option maxRecDepth 20000 in
theorem mw_6_156 : Cond.lays RX11 "PassedClocksModel" "lastPlace" "I" ∈ pw_T := pw_in (tb_6 (List.mem_of_getElem? (i := 156) (by rfl))) (by decide +kernel)
set_option maxRecDepth 20000 in
theorem mw_6_158 : Cond.lays RX11 "PassedClocksModel" "open" "I" ∈ pw_T := pw_in (tb_6 (List.mem_of_getElem? (i := 158) (by rfl))) (by decide +kernel)
set_option maxRecDepth 20000 in
theorem mw_6_160 : Cond.lays RX11 "PassedClocksModel" "counted" "I" ∈ pw_T := pw_in (tb_6 (List.mem_of_getElem? (i := 160) (by rfl))) (by decide +kernel)
set_option maxRecDepth 20000 in
theorem mw_6_162 : Cond.lays RX11 "PassedClocksModel" "tryWhat" "I" ∈ pw_T := pw_in (tb_6 (List.mem_of_getElem? (i := 162) (by rfl))) (by decide +kernel)
set_option maxRecDepth 20000 in
theorem mw_6_164 : Cond.lays RX11 "PassedClocksModel" "tryAt" "I" ∈ pw_T := pw_in (tb_6 (List.mem_of_getElem? (i := 164) (by rfl))) (by decide +kernel)
set_option maxRecDepth 20000 in
theorem mw_6_166 : Cond.lays RX11 "PassedClocksModel" "rightSet" "I" ∈ pw_T := pw_in (tb_6 (List.mem_of_getElem? (i := 166) (by rfl))) (by decide +kernel)
set_option maxRecDepth 20000 in
theorem mw_6_168 : Cond.lays RX11 "PassedClocksModel" "movedThing" "I" ∈ pw_T := pw_in (tb_6 (List.mem_of_getElem? (i := 168) (by rfl))) (by decide +kernel)
set_option maxRecDepth 20000 in
theorem mw_6_170 : Cond.lays RX11 "PassedClocksModel" "movedBy" "I" ∈ pw_T := pw_in (tb_6 (List.mem_of_getElem? (i := 170) (by rfl))) (by decide +kernel)
set_option maxRecDepth 20000 in
theorem mw_6_172 : Cond.lays RX11 "PassedClocksModel" "oftenClock" "I" ∈ pw_T := pw_in (tb_6 (List.mem_of_getElem? (i := 172) (by rfl))) (by decide +kernel)
set_option maxRecDepth 20000 in
theorem mw_6_174 : Cond.lays RX11 "PassedClocksModel" "oftenBy" "I" ∈ pw_T := pw_in (tb_6 (List.mem_of_getElem? (i := 174) (by rfl))) (by decide +kernel)
set_option maxRecDepth 20000 in
theorem mw_6_176 : Cond.lays RX11 "PassedClocksModel" "purposePerson" "I" ∈ pw_T := pw_in (tb_6 (List.mem_of_getElem? (i := 176) (by rfl))) (by decide +kernel)
set_option maxRecDepth 20000 in
theorem mw_6_178 : Cond.lays RX11 "PassedClocksModel" "purposeClock" "I" ∈ pw_T := pw_in (tb_6 (List.mem_of_getElem? (i := 178) (by rfl))) (by decide +kernel)
set_option maxRecDepth 20000 in
theorem mw_6_180 : Cond.lays RX11 "PassedClocksModel" "purposeHour" "I" ∈ pw_T := pw_in (tb_6 (List.mem_of_getElem? (i := 180) (by rfl))) (by decide +kernel)
set_option maxRecDepth 20000 in
theorem mw_6_182 : Cond.laysFinal RX11 "PassedClocksModel" "start" "[I" ∈ pw_T := pw_in (tb_6 (List.mem_of_getElem? (i := 182) (by rfl))) (by decide +kernel)
set_option maxRecDepth 20000 in
theorem mw_6_184 : Cond.laysFinal RX11 "PassedClocksModel" "off" "[I" ∈ pw_T := pw_in (tb_6 (List.mem_of_getElem? (i := 184) (by rfl))) (by decide +kernel)
set_option maxRecDepth 20000 in
theorem mw_6_186 : Cond.laysFinal RX11 "PassedClocksModel" "last" "[I" ∈ pw_T := pw_in (tb_6 (List.mem_of_getElem? (i := 186) (by rfl))) (by decide +kernel)
set_option maxRecDepth 20000 in
theorem mw_6_188 : Cond.laysFinal RX11 "PassedClocksModel" "passed" "[I" ∈ pw_T := pw_in (tb_6 (List.mem_of_getElem? (i := 188) (by rfl))) (by decide +kernel)
set_option maxRecDepth 20000 in
theorem mw_6_190 : Cond.laysFinal RX11 "PassedClocksModel" "kept" "[I" ∈ pw_T := pw_in (tb_6 (List.mem_of_getElem? (i := 190) (by rfl))) (by decide +kernel)
set_option maxRecDepth 20000 in
theorem mw_6_192 : Cond.laysFinal RX11 "PassedClocksModel" "keptMany" "[I" ∈ pw_T := pw_in (tb_6 (List.mem_of_getElem? (i := 192) (by rfl))) (by decide +kernel)
set_option maxRecDepth 20000 in
theorem mw_6_194 : Cond.lays RX11 "PassedClocksModel" "next" "I" ∈ pw_T := pw_in (tb_6 (List.mem_of_getElem? (i := 194) (by rfl))) (by decide +kernel)
set_option maxRecDepth 20000 in
theorem mw_6_196 : Cond.lays RX11 "PassedClocksModel" "passings" "I" ∈ pw_T := pw_in (tb_6 (List.mem_of_getElem? (i := 196) (by rfl))) (by decide +kernel)
set_option maxRecDepth 20000 in
theorem mw_6_198 : Cond.laysFinal RX11 "PassedClocksModel" "history" "[I" ∈ pw_T := pw_in (tb_6 (List.mem_of_getElem? (i := 198) (by rfl))) (by decide +kernel)
set_option maxRecDepth 20000 in
theorem mw_6_200 : Cond.laysFinal RX11 "PassedClocksModel" "names" "[J" ∈ pw_T := pw_in (tb_6 (List.mem_of_getElem? (i := 200) (by rfl))) (by decide +kernel)
set_option maxRecDepth 20000 in
theorem mw_6_202 : Cond.laysFinal RX11 "PassedClocksModel" "worked" "[J" ∈ pw_T := pw_in (tb_6 (List.mem_of_getElem? (i := 202) (by rfl))) (by decide +kernel)
set_option maxRecDepth 20000 in
theorem mw_6_204 : Cond.lays RX11 "PassedClocksModel" "workedMany" "I" ∈ pw_T := pw_in (tb_6 (List.mem_of_getElem? (i := 204) (by rfl))) (by decide +kernel)
set_option maxRecDepth 20000 in
theorem mw_6_206 : Cond.lays RX11 "PassedClocksModel" "readings" "I" ∈ pw_T := pw_in (tb_6 (List.mem_of_getElem? (i := 206) (by rfl))) (by decide +kernel)
set_option maxRecDepth 20000 in
theorem mw_6_208 : Cond.lays RX11 "PassedClocksModel" "knownBy" "I" ∈ pw_T := pw_in (tb_6 (List.mem_of_getElem? (i := 208) (by rfl))) (by decide +kernel)
set_option maxRecDepth 20000 in
theorem mw_6_210 : Cond.laysFinal RX11 "PassedClocksModel" "readThing" "[I" ∈ pw_T := pw_in (tb_6 (List.mem_of_getElem? (i := 210) (by rfl))) (by decide +kernel)
set_option maxRecDepth 20000 in
theorem mw_6_212 : Cond.laysFinal RX11 "PassedClocksModel" "readHour" "[I" ∈ pw_T := pw_in (tb_6 (List.mem_of_getElem? (i := 212) (by rfl))) (by decide +kernel)
set_option maxRecDepth 20000 in
theorem mw_6_214 : Cond.laysFinal RX11 "PassedClocksModel" "readLow" "[I" ∈ pw_T := pw_in (tb_6 (List.mem_of_getElem? (i := 214) (by rfl))) (by decide +kernel)
set_option maxRecDepth 20000 in
theorem mw_6_216 : Cond.laysFinal RX11 "PassedClocksModel" "readHigh" "[I" ∈ pw_T := pw_in (tb_6 (List.mem_of_getElem? (i := 216) (by rfl))) (by decide +kernel)
set_option maxRecDepth 20000 in
theorem mw_6_218 : Cond.lays RX11 "PassedClocksModel" "hasImage" "Z" ∈ pw_T := pw_in (tb_6 (List.mem_of_getElem? (i := 218) (by rfl))) (by decide +kernel)
set_option maxRecDepth 20000 in
theorem mw_6_220 : Cond.lays RX11 "PassedClocksModel" "imageNext" "I" ∈ pw_T := pw_in (tb_6 (List.mem_of_getElem? (i := 220) (by rfl))) (by decide +kernel)
set_option maxRecDepth 20000 in
theorem mw_6_222 : Cond.lays RX11 "PassedClocksModel" "imagePassings" "I" ∈ pw_T := pw_in (tb_6 (List.mem_of_getElem? (i := 222) (by rfl))) (by decide +kernel)
set_option maxRecDepth 20000 in
theorem mw_6_224 : Cond.laysFinal RX11 "PassedClocksModel" "imageOff" "[I" ∈ pw_T := pw_in (tb_6 (List.mem_of_getElem? (i := 224) (by rfl))) (by decide +kernel)
set_option maxRecDepth 20000 in
theorem mw_6_226 : Cond.laysFinal RX11 "PassedClocksModel" "imageLast" "[I" ∈ pw_T := pw_in (tb_6 (List.mem_of_getElem? (i := 226) (by rfl))) (by decide +kernel)
set_option maxRecDepth 20000 in
theorem mw_6_228 : Cond.laysFinal RX11 "PassedClocksModel" "imagePassed" "[I" ∈ pw_T := pw_in (tb_6 (List.mem_of_getElem? (i := 228) (by rfl))) (by decide +kernel)
set_option maxRecDepth 20000 in
theorem mw_6_230 : Cond.laysFinal RX11 "PassedClocksModel" "imageKept" "[I" ∈ pw_T := pw_in (tb_6 (List.mem_of_getElem? (i := 230) (by rfl))) (by decide +kernel)
set_option maxRecDepth 20000 in
theorem mw_6_232 : Cond.laysFinal RX11 "PassedClocksModel" "imageMany" "[I" ∈ pw_T := pw_in (tb_6 (List.mem_of_getElem? (i := 232) (by rfl))) (by decide +kernel)
set_option maxRecDepth 20000 in
theorem mw_6_234 : Cond.laysFinal RX11 "PassedClocksModel" "imageHistory" "[I" ∈ pw_T := pw_in (tb_6 (List.mem_of_getElem? (i := 234) (by rfl))) (by decide +kernel)
set_option maxRecDepth 20000 in
theorem inX11 : ∀ w ∈ u_ws RX11 TX11 73, w ∈ pw_T := List.forall_mem_cons.mpr ⟨mw_6_90, List.forall_mem_cons.mpr ⟨mw_6_92, List.forall_mem_cons.mpr ⟨mw_6_94, List.forall_mem_cons.mpr ⟨mw_6_96, List.forall_mem_cons.mpr ⟨mw_6_98, List.forall_mem_cons.mpr ⟨mw_6_100, List.forall_mem_cons.mpr ⟨mw_6_102, List.forall_mem_cons.mpr ⟨mw_6_104, List.forall_mem_cons.mpr ⟨mw_6_106, List.forall_mem_cons.mpr ⟨mw_6_108, List.forall_mem_cons.mpr ⟨mw_6_110, List.forall_mem_cons.mpr ⟨mw_6_112, List.forall_mem_cons.mpr ⟨mw_6_114, List.forall_mem_cons.mpr ⟨mw_6_116, List.forall_mem_cons.mpr ⟨mw_6_118, List.forall_mem_cons.mpr ⟨mw_6_120, List.forall_mem_cons.mpr ⟨mw_6_122, List.forall_mem_cons.mpr ⟨mw_6_124, List.forall_mem_cons.mpr ⟨mw_6_126, List.forall_mem_cons.mpr ⟨mw_6_128, List.forall_mem_cons.mpr ⟨mw_6_130, List.forall_mem_cons.mpr ⟨mw_6_132, List.forall_mem_cons.mpr ⟨mw_6_134, List.forall_mem_cons.mpr ⟨mw_6_136, List.forall_mem_cons.mpr ⟨mw_6_138, List.forall_mem_cons.mpr ⟨mw_6_140, List.forall_mem_cons.mpr ⟨mw_6_142, List.forall_mem_cons.mpr ⟨mw_6_144, List.forall_mem_cons.mpr ⟨mw_6_146, List.forall_mem_cons.mpr ⟨mw_6_148, List.forall_mem_cons.mpr ⟨mw_6_150, List.forall_mem_cons.mpr ⟨mw_6_152, List.forall_mem_cons.mpr ⟨mw_6_154, List.forall_mem_cons.mpr ⟨mw_6_156, List.forall_mem_cons.mpr ⟨mw_6_158, List.forall_mem_cons.mpr ⟨mw_6_160, List.forall_mem_cons.mpr ⟨mw_6_162, List.forall_mem_cons.mpr ⟨mw_6_164, List.forall_mem_cons.mpr ⟨mw_6_166, List.forall_mem_cons.mpr ⟨mw_6_168, List.forall_mem_cons.mpr ⟨mw_6_170, List.forall_mem_cons.mpr ⟨mw_6_172, List.forall_mem_cons.mpr ⟨mw_6_174, List.forall_mem_cons.mpr ⟨mw_6_176, List.forall_mem_cons.mpr ⟨mw_6_178, List.forall_mem_cons.mpr ⟨mw_6_180, List.forall_mem_cons.mpr ⟨mw_6_182, List.forall_mem_cons.mpr ⟨mw_6_184, List.forall_mem_cons.mpr ⟨mw_6_186, List.forall_mem_cons.mpr ⟨mw_6_188, List.forall_mem_cons.mpr ⟨mw_6_190, List.forall_mem_cons.mpr ⟨mw_6_192, List.forall_mem_cons.mpr ⟨mw_6_194, List.forall_mem_cons.mpr ⟨mw_6_196, List.forall_mem_cons.mpr ⟨mw_6_198, List.forall_mem_cons.mpr ⟨mw_6_200, List.forall_mem_cons.mpr ⟨mw_6_202, List.forall_mem_cons.mpr ⟨mw_6_204, List.forall_mem_cons.mpr ⟨mw_6_206, List.forall_mem_cons.mpr ⟨mw_6_208, List.forall_mem_cons.mpr ⟨mw_6_210, List.forall_mem_cons.mpr ⟨mw_6_212, List.forall_mem_cons.mpr ⟨mw_6_214, List.forall_mem_cons.mpr ⟨mw_6_216, List.forall_mem_cons.mpr ⟨mw_6_218, List.forall_mem_cons.mpr ⟨mw_6_220, List.forall_mem_cons.mpr ⟨mw_6_222, List.forall_mem_cons.mpr ⟨mw_6_224, List.forall_mem_cons.mpr ⟨mw_6_226, List.forall_mem_cons.mpr ⟨mw_6_228, List.forall_mem_cons.mpr ⟨mw_6_230, List.forall_mem_cons.mpr ⟨mw_6_232, List.forall_mem_cons.mpr ⟨mw_6_234, fun _ h => absurd h List.not_mem_nil⟩⟩⟩⟩⟩⟩⟩⟩⟩⟩⟩⟩⟩⟩⟩⟩⟩⟩⟩⟩⟩⟩⟩⟩⟩⟩⟩⟩⟩⟩⟩⟩⟩⟩⟩⟩⟩⟩⟩⟩⟩⟩⟩⟩⟩⟩⟩⟩⟩⟩⟩⟩⟩⟩⟩⟩⟩⟩⟩⟩⟩⟩⟩⟩⟩⟩⟩⟩⟩⟩⟩⟩⟩
set_option maxRecDepth 20000 in
theorem dfX11 : ∀ j, j < 73 → defaultValue (tyX11 j) = vp_V [.int 0, .null, .int 0, .null, .null, .null, .null, .null, .null, .null, .null, .null, .null, .null, .null, .null, .null, .null, .null, .null, .null, .null, .null, .null, .int 0, .int 0, .int 0, .int 0, .int 0, .int 0, .int 0, .int 0, .int 0, .int 0, .int 0, .int 0, .int 0, .int 0, .int 0, .int 0, .int 0, .int 0, .int 0, .int 0, .int 0, .int 0, .null, .null, .null, .null, .null, .null, .int 0, .int 0, .null, .null, .null, .int 0, .int 0, .int 0, .null, .null, .null, .null, .int 0, .int 0, .int 0, .null, .null, .null, .null, .null, .null] j := by decide +kernel
