theorem in_ps {big ws : List Cond} (ps : List Nat) (h : ws = ps.filterMap (fun i => big[i]?)) : ∀ w ∈ ws, w ∈ big := by
  intro w hw
  rw [h] at hw
  obtain ⟨i, -, hi⟩ := List.mem_filterMap.mp hw
  first | exact List.mem_of_getElem? hi | exact List.getElem?_mem hi
theorem mw_0 : Cond.selects RX11 yX11_append yX11_append ∈ lw_tbl := List.mem_of_getElem? (i := 0) (by decide +kernel)
theorem mw_1 : Cond.selects RX9 yX9_behindBlanks yX9_behindBlanks ∈ lw_tbl := List.mem_of_getElem? (i := 1) (by decide +kernel)
theorem mw_2 : Cond.selects RX7 yX7_code yX7_code ∈ lw_tbl := List.mem_of_getElem? (i := 2) (by decide +kernel)
theorem mw_3 : Cond.selects RX12 yX12_lay yX12_lay ∈ lw_tbl := List.mem_of_getElem? (i := 3) (by decide +kernel)
theorem mw_4 : Cond.selects RX12 yX12_lexer yX12_lexer ∈ lw_tbl := List.mem_of_getElem? (i := 4) (by decide +kernel)
theorem mw_5 : Cond.selects RX12 yX12_parse yX12_parse ∈ lw_tbl := List.mem_of_getElem? (i := 5) (by decide +kernel)
theorem mw_6 : Cond.selects RX12 yX12_judgeAll yX12_judgeAll ∈ lw_tbl := List.mem_of_getElem? (i := 6) (by decide +kernel)
theorem mw_7 : Cond.selects RX12 yX12_methodsTold yX12_methodsTold ∈ lw_tbl := List.mem_of_getElem? (i := 7) (by decide +kernel)
theorem mw_8 : Cond.selects RX12 yX12_flow yX12_flow ∈ lw_tbl := List.mem_of_getElem? (i := 8) (by decide +kernel)
theorem mw_9 : Cond.selects RX12 yX12_start yX12_start ∈ lw_tbl := List.mem_of_getElem? (i := 9) (by decide +kernel)
theorem mw_10 : Cond.selects RX12 yX12_be yX12_be ∈ lw_tbl := List.mem_of_getElem? (i := 10) (by decide +kernel)
theorem mw_11 : Cond.selects RX12 yX12_isGood yX12_isGood ∈ lw_tbl := List.mem_of_getElem? (i := 11) (by decide +kernel)
theorem mw_12 : Cond.selects RX12 yX12_tokens yX12_tokens ∈ lw_tbl := List.mem_of_getElem? (i := 12) (by decide +kernel)
theorem mw_13 : Cond.selects RX12 yX12_isToken yX12_isToken ∈ lw_tbl := List.mem_of_getElem? (i := 13) (by decide +kernel)
theorem mw_14 : Cond.selects RX12 yX12_expAt yX12_expAt ∈ lw_tbl := List.mem_of_getElem? (i := 14) (by decide +kernel)
theorem mw_16 : Cond.initialized RX11 ∈ lw_tbl := List.mem_of_getElem? (i := 16) (by decide +kernel)
theorem mw_17 : Cond.initialized RX6 ∈ lw_tbl := List.mem_of_getElem? (i := 17) (by decide +kernel)
theorem mw_18 : Cond.initialized RX9 ∈ lw_tbl := List.mem_of_getElem? (i := 18) (by decide +kernel)
theorem mw_19 : Cond.initialized RJ0 ∈ lw_tbl := List.mem_of_getElem? (i := 19) (by decide +kernel)
theorem mw_20 : Cond.initialized RJ1 ∈ lw_tbl := List.mem_of_getElem? (i := 20) (by decide +kernel)
theorem mw_21 : Cond.initialized RJ3 ∈ lw_tbl := List.mem_of_getElem? (i := 21) (by decide +kernel)
theorem mw_23 : Cond.initialized RJxa1e45 ∈ lw_tbl := List.mem_of_getElem? (i := 23) (by decide +kernel)
theorem mw_24 : Cond.initialized RJxc12de ∈ lw_tbl := List.mem_of_getElem? (i := 24) (by decide +kernel)
theorem mw_25 : Cond.initialized RJx4a65c ∈ lw_tbl := List.mem_of_getElem? (i := 25) (by decide +kernel)
theorem mw_26 : Cond.initialized RX5 ∈ lw_tbl := List.mem_of_getElem? (i := 26) (by decide +kernel)
theorem mw_27 : Cond.initialized RX8 ∈ lw_tbl := List.mem_of_getElem? (i := 27) (by decide +kernel)
theorem mw_28 : Cond.initialized RX7 ∈ lw_tbl := List.mem_of_getElem? (i := 28) (by decide +kernel)
theorem mw_29 : Cond.initialized RX3 ∈ lw_tbl := List.mem_of_getElem? (i := 29) (by decide +kernel)
theorem mw_30 : Cond.initialized RX2 ∈ lw_tbl := List.mem_of_getElem? (i := 30) (by decide +kernel)
theorem mw_31 : Cond.initialized RX0 ∈ lw_tbl := List.mem_of_getElem? (i := 31) (by decide +kernel)
theorem mw_32 : Cond.initialized RX4 ∈ lw_tbl := List.mem_of_getElem? (i := 32) (by decide +kernel)
theorem mw_33 : Cond.initialized RX12 ∈ lw_tbl := List.mem_of_getElem? (i := 33) (by decide +kernel)
theorem mw_34 : Cond.initialized "java/lang/Math" ∈ lw_tbl := List.mem_of_getElem? (i := 34) (by decide +kernel)
theorem mw_41 : Cond.classLink RL 7 RX11 ∈ lw_tbl := List.mem_of_getElem? (i := 41) (by decide +kernel)
theorem mw_42 : Cond.instantiable RX11 13 ∈ lw_tbl := List.mem_of_getElem? (i := 42) (by decide +kernel)
theorem mw_43 : Cond.methodLink RL 9 yX11_init ∈ lw_tbl := List.mem_of_getElem? (i := 43) (by decide +kernel)
theorem mw_44 : Cond.instanceMethod yX11_init ∈ lw_tbl := List.mem_of_getElem? (i := 44) (by decide +kernel)
set_option maxRecDepth 100000 in
theorem mw_45 : Cond.code yX11_init cX11_init 1 none ∈ lw_tbl := List.mem_of_getElem? (i := 45) rfl
theorem mw_46 : Cond.methodLink RX11 1 objectInit ∈ lw_tbl := List.mem_of_getElem? (i := 46) (by decide +kernel)
theorem mw_47 : Cond.instanceMethod objectInit ∈ lw_tbl := List.mem_of_getElem? (i := 47) (by decide +kernel)
set_option maxRecDepth 100000 in
theorem mw_48 : Cond.code objectInit ⟨#[0xb1]⟩ 1 none ∈ lw_tbl := List.mem_of_getElem? (i := 48) rfl
theorem mw_49 : Cond.classLink RX11 21 RX6 ∈ lw_tbl := List.mem_of_getElem? (i := 49) (by decide +kernel)
theorem mw_50 : Cond.instantiable RX6 9 ∈ lw_tbl := List.mem_of_getElem? (i := 50) (by decide +kernel)
theorem mw_51 : Cond.methodLink RX11 23 yX6_init ∈ lw_tbl := List.mem_of_getElem? (i := 51) (by decide +kernel)
theorem mw_52 : Cond.instanceMethod yX6_init ∈ lw_tbl := List.mem_of_getElem? (i := 52) (by decide +kernel)
set_option maxRecDepth 100000 in
theorem mw_53 : Cond.code yX6_init cX6_init 1 none ∈ lw_tbl := List.mem_of_getElem? (i := 53) rfl
theorem mw_54 : Cond.methodLink RX6 3 objectInit ∈ lw_tbl := List.mem_of_getElem? (i := 54) (by decide +kernel)
theorem mw_55 : Cond.classLink RX6 9 RX9 ∈ lw_tbl := List.mem_of_getElem? (i := 55) (by decide +kernel)
theorem mw_56 : Cond.instantiable RX9 9 ∈ lw_tbl := List.mem_of_getElem? (i := 56) (by decide +kernel)
theorem mw_57 : Cond.methodLink RX6 11 yX9_init ∈ lw_tbl := List.mem_of_getElem? (i := 57) (by decide +kernel)
theorem mw_58 : Cond.instanceMethod yX9_init ∈ lw_tbl := List.mem_of_getElem? (i := 58) (by decide +kernel)
set_option maxRecDepth 100000 in
theorem mw_59 : Cond.code yX9_init cX9_init 4 none ∈ lw_tbl := List.mem_of_getElem? (i := 59) rfl
theorem mw_60 : Cond.methodLink RX9 3 objectInit ∈ lw_tbl := List.mem_of_getElem? (i := 60) (by decide +kernel)
theorem mw_61 : Cond.stringRef "PlainJava$Tokens" 35 "boolean byte char int long void if else while do for switch case default break continue return throw try catch finally final true false" ∈ lw_tbl := List.mem_of_getElem? (i := 61) (by decide +kernel)
theorem mw_62 : Cond.methodLink RX9 37 yJ0_length_8abf5 ∈ lw_tbl := List.mem_of_getElem? (i := 62) (by decide +kernel)
theorem mw_63 : Cond.instanceMethod yJ0_length_8abf5 ∈ lw_tbl := List.mem_of_getElem? (i := 63) (by decide +kernel)
theorem mw_64 : Cond.selects RJ0 yJ0_length_8abf5 yJ0_length_8abf5 ∈ lw_tbl := List.mem_of_getElem? (i := 64) (by decide +kernel)
set_option maxRecDepth 100000 in
theorem mw_65 : Cond.code yJ0_length_8abf5 cJ0_length_8abf5 1 (some .int) ∈ lw_tbl := List.mem_of_getElem? (i := 65) rfl
theorem mw_66 : Cond.methodLink RJ0 335 yJ0_coder_7d493 ∈ lw_tbl := List.mem_of_getElem? (i := 66) (by decide +kernel)
theorem mw_67 : Cond.instanceMethod yJ0_coder_7d493 ∈ lw_tbl := List.mem_of_getElem? (i := 67) (by decide +kernel)
theorem mw_68 : Cond.selects RJ0 yJ0_coder_7d493 yJ0_coder_7d493 ∈ lw_tbl := List.mem_of_getElem? (i := 68) (by decide +kernel)
set_option maxRecDepth 100000 in
theorem mw_69 : Cond.code yJ0_coder_7d493 cJ0_coder_7d493 1 (some .byte) ∈ lw_tbl := List.mem_of_getElem? (i := 69) rfl
theorem mw_70 : Cond.fieldLink RJ0 38 "java/lang/String" "COMPACT_STRINGS" "Z" ∈ lw_tbl := List.mem_of_getElem? (i := 70) (by decide +kernel)
theorem mw_71 : Cond.laysStatic "java/lang/String" "COMPACT_STRINGS" "Z" ∈ lw_tbl := List.mem_of_getElem? (i := 71) (by decide +kernel)
theorem mw_72 : Cond.methodLink RX9 43 yJ0_charAt_5068e ∈ lw_tbl := List.mem_of_getElem? (i := 72) (by decide +kernel)
theorem mw_73 : Cond.instanceMethod yJ0_charAt_5068e ∈ lw_tbl := List.mem_of_getElem? (i := 73) (by decide +kernel)
theorem mw_74 : Cond.selects RJ0 yJ0_charAt_5068e yJ0_charAt_5068e ∈ lw_tbl := List.mem_of_getElem? (i := 74) (by decide +kernel)
set_option maxRecDepth 100000 in
theorem mw_75 : Cond.code yJ0_charAt_5068e cJ0_charAt_5068e 2 (some .char) ∈ lw_tbl := List.mem_of_getElem? (i := 75) rfl
theorem mw_76 : Cond.methodLink RJ0 492 yJ0_isLatin1_aae02 ∈ lw_tbl := List.mem_of_getElem? (i := 76) (by decide +kernel)
theorem mw_77 : Cond.instanceMethod yJ0_isLatin1_aae02 ∈ lw_tbl := List.mem_of_getElem? (i := 77) (by decide +kernel)
theorem mw_78 : Cond.selects RJ0 yJ0_isLatin1_aae02 yJ0_isLatin1_aae02 ∈ lw_tbl := List.mem_of_getElem? (i := 78) (by decide +kernel)
set_option maxRecDepth 100000 in
theorem mw_79 : Cond.code yJ0_isLatin1_aae02 cJ0_isLatin1_aae02 1 (some .boolean) ∈ lw_tbl := List.mem_of_getElem? (i := 79) rfl
theorem mw_80 : Cond.methodLink RJ0 495 yJ1_charAt_3b067 ∈ lw_tbl := List.mem_of_getElem? (i := 80) (by decide +kernel)
theorem mw_81 : Cond.static yJ1_charAt_3b067 ∈ lw_tbl := List.mem_of_getElem? (i := 81) (by decide +kernel)
set_option maxRecDepth 100000 in
theorem mw_82 : Cond.code yJ1_charAt_3b067 cJ1_charAt_3b067 2 (some .char) ∈ lw_tbl := List.mem_of_getElem? (i := 82) rfl
theorem mw_83 : Cond.methodLink RJ1 9 yJ0_checkIndex_df160 ∈ lw_tbl := List.mem_of_getElem? (i := 83) (by decide +kernel)
theorem mw_84 : Cond.static yJ0_checkIndex_df160 ∈ lw_tbl := List.mem_of_getElem? (i := 84) (by decide +kernel)
set_option maxRecDepth 100000 in
theorem mw_85 : Cond.code yJ0_checkIndex_df160 cJ0_checkIndex_df160 2 none ∈ lw_tbl := List.mem_of_getElem? (i := 85) rfl
theorem mw_86 : Cond.fieldLink RJ0 1053 "jdk/internal/util/Preconditions" "SIOOBE_FORMATTER" "Ljava/util/function/BiFunction;" ∈ lw_tbl := List.mem_of_getElem? (i := 86) (by decide +kernel)
theorem mw_87 : Cond.laysStatic "jdk/internal/util/Preconditions" "SIOOBE_FORMATTER" "Ljava/util/function/BiFunction;" ∈ lw_tbl := List.mem_of_getElem? (i := 87) (by decide +kernel)
theorem mw_88 : Cond.methodLink RJ0 1059 yJ3_checkIndex_8e157 ∈ lw_tbl := List.mem_of_getElem? (i := 88) (by decide +kernel)
theorem mw_89 : Cond.static yJ3_checkIndex_8e157 ∈ lw_tbl := List.mem_of_getElem? (i := 89) (by decide +kernel)
set_option maxRecDepth 100000 in
theorem mw_90 : Cond.code yJ3_checkIndex_8e157 cJ3_checkIndex_8e157 3 (some .int) ∈ lw_tbl := List.mem_of_getElem? (i := 90) rfl
theorem mw_110 : Cond.methodLink RX9 47 yX9_longerKey ∈ lw_tbl := List.mem_of_getElem? (i := 110) (by decide +kernel)
theorem mw_111 : Cond.static yX9_longerKey ∈ lw_tbl := List.mem_of_getElem? (i := 111) (by decide +kernel)
set_option maxRecDepth 100000 in
theorem mw_112 : Cond.code yX9_longerKey cX9_longerKey 4 (some .long) ∈ lw_tbl := List.mem_of_getElem? (i := 112) rfl
theorem mw_113 : Cond.fieldLink RX9 11 "PlainJava$Tokens" "place" "[I" ∈ lw_tbl := List.mem_of_getElem? (i := 113) (by decide +kernel)
theorem mw_117 : Cond.fieldLink RX9 15 "PlainJava$Tokens" "size" "[I" ∈ lw_tbl := List.mem_of_getElem? (i := 117) (by decide +kernel)
theorem mw_119 : Cond.fieldLink RX9 18 "PlainJava$Tokens" "code" "[I" ∈ lw_tbl := List.mem_of_getElem? (i := 119) (by decide +kernel)
theorem mw_120 : Cond.fieldLink RX7 48 "PlainJava$Tokens" "code" "[I" ∈ lw_tbl := List.mem_of_getElem? (i := 120) (by decide +kernel)
theorem mw_122 : Cond.fieldLink RX9 21 "PlainJava$Tokens" "meaning" "[I" ∈ lw_tbl := List.mem_of_getElem? (i := 122) (by decide +kernel)
theorem mw_126 : Cond.fieldLink RX9 24 "PlainJava$Tokens" "worth" "[J" ∈ lw_tbl := List.mem_of_getElem? (i := 126) (by decide +kernel)
theorem mw_129 : Cond.fieldLink RX9 60 "PlainJava$Tokens" "count" "I" ∈ lw_tbl := List.mem_of_getElem? (i := 129) (by decide +kernel)
theorem mw_130 : Cond.fieldLink RX11 111 "PlainJava$Tokens" "count" "I" ∈ lw_tbl := List.mem_of_getElem? (i := 130) (by decide +kernel)
theorem mw_131 : Cond.fieldLink RX9 28 "PlainJava$Tokens" "words" "[J" ∈ lw_tbl := List.mem_of_getElem? (i := 131) (by decide +kernel)
theorem mw_132 : Cond.fieldLink RX9 31 "PlainJava$Tokens" "text" "[B" ∈ lw_tbl := List.mem_of_getElem? (i := 132) (by decide +kernel)
theorem mw_133 : Cond.fieldLink RX9 57 "PlainJava$Tokens" "length" "I" ∈ lw_tbl := List.mem_of_getElem? (i := 133) (by decide +kernel)
theorem mw_153 : Cond.arrayClass .byte ∈ lw_tbl := List.mem_of_getElem? (i := 153) (by decide +kernel)
theorem mw_154 : Cond.arrayClass .int ∈ lw_tbl := List.mem_of_getElem? (i := 154) (by decide +kernel)
theorem mw_155 : Cond.arrayClass .long ∈ lw_tbl := List.mem_of_getElem? (i := 155) (by decide +kernel)
theorem mw_156 : Cond.classLink RX6 18 RJx4a65c ∈ lw_tbl := List.mem_of_getElem? (i := 156) (by decide +kernel)
theorem mw_157 : Cond.instantiable RJx4a65c 3 ∈ lw_tbl := List.mem_of_getElem? (i := 157) (by decide +kernel)
theorem mw_158 : Cond.methodLink RX6 20 yJx4a65c_init_da8c8 ∈ lw_tbl := List.mem_of_getElem? (i := 158) (by decide +kernel)
theorem mw_159 : Cond.instanceMethod yJx4a65c_init_da8c8 ∈ lw_tbl := List.mem_of_getElem? (i := 159) (by decide +kernel)
set_option maxRecDepth 100000 in
theorem mw_160 : Cond.code yJx4a65c_init_da8c8 cJx4a65c_init_da8c8 1 none ∈ lw_tbl := List.mem_of_getElem? (i := 160) rfl
theorem mw_161 : Cond.methodLink RJx4a65c 1 yJxc12de_init_da8c8 ∈ lw_tbl := List.mem_of_getElem? (i := 161) (by decide +kernel)
theorem mw_162 : Cond.instanceMethod yJxc12de_init_da8c8 ∈ lw_tbl := List.mem_of_getElem? (i := 162) (by decide +kernel)
set_option maxRecDepth 100000 in
theorem mw_163 : Cond.code yJxc12de_init_da8c8 cJxc12de_init_da8c8 1 none ∈ lw_tbl := List.mem_of_getElem? (i := 163) rfl
theorem mw_164 : Cond.methodLink RJxc12de 1 yJxa1e45_init_da8c8 ∈ lw_tbl := List.mem_of_getElem? (i := 164) (by decide +kernel)
theorem mw_165 : Cond.instanceMethod yJxa1e45_init_da8c8 ∈ lw_tbl := List.mem_of_getElem? (i := 165) (by decide +kernel)
set_option maxRecDepth 100000 in
theorem mw_166 : Cond.code yJxa1e45_init_da8c8 cJxa1e45_init_da8c8 1 none ∈ lw_tbl := List.mem_of_getElem? (i := 166) rfl
theorem mw_167 : Cond.methodLink RJxa1e45 1 objectInit ∈ lw_tbl := List.mem_of_getElem? (i := 167) (by decide +kernel)
theorem mw_168 : Cond.fieldLink RJx4a65c 39 "java/util/ArrayList" "DEFAULTCAPACITY_EMPTY_ELEMENTDATA" "[Ljava/lang/Object;" ∈ lw_tbl := List.mem_of_getElem? (i := 168) (by decide +kernel)
theorem mw_169 : Cond.laysStatic "java/util/ArrayList" "DEFAULTCAPACITY_EMPTY_ELEMENTDATA" "[Ljava/lang/Object;" ∈ lw_tbl := List.mem_of_getElem? (i := 169) (by decide +kernel)
theorem mw_170 : Cond.fieldLink RJx4a65c 9 "java/util/ArrayList" "elementData" "[Ljava/lang/Object;" ∈ lw_tbl := List.mem_of_getElem? (i := 170) (by decide +kernel)
theorem mw_171 : Cond.fieldLink RJx4a65c 48 "java/util/ArrayList" "size" "I" ∈ lw_tbl := List.mem_of_getElem? (i := 171) (by decide +kernel)
theorem mw_172 : Cond.fieldLink RJxc12de 7 "java/util/AbstractList" "modCount" "I" ∈ lw_tbl := List.mem_of_getElem? (i := 172) (by decide +kernel)
theorem mw_173 : Cond.fieldLink RJx4a65c 63 "java/util/ArrayList" "modCount" "I" ∈ lw_tbl := List.mem_of_getElem? (i := 173) (by decide +kernel)
theorem mw_174 : Cond.sameField "java/util/ArrayList" "java/util/AbstractList" "modCount" "I" ∈ lw_tbl := List.mem_of_getElem? (i := 174) (by decide +kernel)
theorem mw_182 : Cond.classLink RX6 34 RX5 ∈ lw_tbl := List.mem_of_getElem? (i := 182) (by decide +kernel)
theorem mw_183 : Cond.instantiable RX5 7 ∈ lw_tbl := List.mem_of_getElem? (i := 183) (by decide +kernel)
theorem mw_184 : Cond.stringRef "PlainJava$Program" 36 "out" ∈ lw_tbl := List.mem_of_getElem? (i := 184) (by decide +kernel)
theorem mw_185 : Cond.methodLink RX6 38 yX9_keyOf ∈ lw_tbl := List.mem_of_getElem? (i := 185) (by decide +kernel)
theorem mw_186 : Cond.static yX9_keyOf ∈ lw_tbl := List.mem_of_getElem? (i := 186) (by decide +kernel)
set_option maxRecDepth 100000 in
theorem mw_187 : Cond.code yX9_keyOf cX9_keyOf 4 (some .long) ∈ lw_tbl := List.mem_of_getElem? (i := 187) rfl
theorem mw_188 : Cond.methodLink RX6 42 yX5_init ∈ lw_tbl := List.mem_of_getElem? (i := 188) (by decide +kernel)
theorem mw_189 : Cond.instanceMethod yX5_init ∈ lw_tbl := List.mem_of_getElem? (i := 189) (by decide +kernel)
set_option maxRecDepth 100000 in
theorem mw_190 : Cond.code yX5_init cX5_init 6 none ∈ lw_tbl := List.mem_of_getElem? (i := 190) rfl
theorem mw_191 : Cond.methodLink RX5 3 objectInit ∈ lw_tbl := List.mem_of_getElem? (i := 191) (by decide +kernel)
theorem mw_192 : Cond.classLink RX5 15 RX8 ∈ lw_tbl := List.mem_of_getElem? (i := 192) (by decide +kernel)
theorem mw_193 : Cond.instantiable RX8 21 ∈ lw_tbl := List.mem_of_getElem? (i := 193) (by decide +kernel)
theorem mw_194 : Cond.methodLink RX5 17 yX8_init ∈ lw_tbl := List.mem_of_getElem? (i := 194) (by decide +kernel)
theorem mw_195 : Cond.instanceMethod yX8_init ∈ lw_tbl := List.mem_of_getElem? (i := 195) (by decide +kernel)
set_option maxRecDepth 100000 in
theorem mw_196 : Cond.code yX8_init cX8_init 7 none ∈ lw_tbl := List.mem_of_getElem? (i := 196) rfl
theorem mw_197 : Cond.methodLink RX8 3 objectInit ∈ lw_tbl := List.mem_of_getElem? (i := 197) (by decide +kernel)
theorem mw_198 : Cond.constantLong RX8 15 (-1) ∈ lw_tbl := List.mem_of_getElem? (i := 198) (by decide +kernel)
theorem mw_199 : Cond.fieldLink RX8 24 "PlainJava$Statement" "kind" "I" ∈ lw_tbl := List.mem_of_getElem? (i := 199) (by decide +kernel)
theorem mw_205 : Cond.fieldLink RX8 27 "PlainJava$Statement" "first" "I" ∈ lw_tbl := List.mem_of_getElem? (i := 205) (by decide +kernel)
theorem mw_211 : Cond.fieldLink RX8 30 "PlainJava$Statement" "level" "I" ∈ lw_tbl := List.mem_of_getElem? (i := 211) (by decide +kernel)
theorem mw_215 : Cond.fieldLink RX8 33 "PlainJava$Statement" "parent" "LPlainJava$Statement;" ∈ lw_tbl := List.mem_of_getElem? (i := 215) (by decide +kernel)
theorem mw_219 : Cond.fieldLink RX8 37 "PlainJava$Statement" "known" "J" ∈ lw_tbl := List.mem_of_getElem? (i := 219) (by decide +kernel)
theorem mw_248 : Cond.fieldLink RX8 9 "PlainJava$Statement" "link" "I" ∈ lw_tbl := List.mem_of_getElem? (i := 248) (by decide +kernel)
theorem mw_264 : Cond.fieldLink RX8 17 "PlainJava$Statement" "breaks" "J" ∈ lw_tbl := List.mem_of_getElem? (i := 264) (by decide +kernel)
theorem mw_266 : Cond.fieldLink RX8 21 "PlainJava$Statement" "continues" "J" ∈ lw_tbl := List.mem_of_getElem? (i := 266) (by decide +kernel)
theorem mw_315 : Cond.fieldLink RX5 24 "PlainJava$Method" "name" "I" ∈ lw_tbl := List.mem_of_getElem? (i := 315) (by decide +kernel)
theorem mw_319 : Cond.fieldLink RX5 28 "PlainJava$Method" "key" "J" ∈ lw_tbl := List.mem_of_getElem? (i := 319) (by decide +kernel)
theorem mw_321 : Cond.fieldLink RX5 32 "PlainJava$Method" "type" "I" ∈ lw_tbl := List.mem_of_getElem? (i := 321) (by decide +kernel)
theorem mw_326 : Cond.fieldLink RX5 9 "PlainJava$Method" "paramTypes" "[I" ∈ lw_tbl := List.mem_of_getElem? (i := 326) (by decide +kernel)
theorem mw_329 : Cond.fieldLink RX5 35 "PlainJava$Method" "firstVariable" "I" ∈ lw_tbl := List.mem_of_getElem? (i := 329) (by decide +kernel)
theorem mw_332 : Cond.fieldLink RX5 38 "PlainJava$Method" "params" "I" ∈ lw_tbl := List.mem_of_getElem? (i := 332) (by decide +kernel)
theorem mw_337 : Cond.fieldLink RX5 20 "PlainJava$Method" "body" "LPlainJava$Statement;" ∈ lw_tbl := List.mem_of_getElem? (i := 337) (by decide +kernel)
theorem mw_357 : Cond.stringRef "PlainJava$Program" 48 "in" ∈ lw_tbl := List.mem_of_getElem? (i := 357) (by decide +kernel)
theorem mw_358 : Cond.methodLink RX6 52 yX5_addParam ∈ lw_tbl := List.mem_of_getElem? (i := 358) (by decide +kernel)
theorem mw_359 : Cond.instanceMethod yX5_addParam ∈ lw_tbl := List.mem_of_getElem? (i := 359) (by decide +kernel)
theorem mw_360 : Cond.selects RX5 yX5_addParam yX5_addParam ∈ lw_tbl := List.mem_of_getElem? (i := 360) (by decide +kernel)
set_option maxRecDepth 100000 in
theorem mw_361 : Cond.code yX5_addParam cX5_addParam 2 none ∈ lw_tbl := List.mem_of_getElem? (i := 361) rfl
theorem mw_362 : Cond.fieldLink RX7 15 "PlainJava$Program" "tokens" "LPlainJava$Tokens;" ∈ lw_tbl := List.mem_of_getElem? (i := 362) (by decide +kernel)
theorem mw_363 : Cond.fieldLink RX6 12 "PlainJava$Program" "tokens" "LPlainJava$Tokens;" ∈ lw_tbl := List.mem_of_getElem? (i := 363) (by decide +kernel)
theorem mw_364 : Cond.fieldLink RX11 107 "PlainJava$Program" "tokens" "LPlainJava$Tokens;" ∈ lw_tbl := List.mem_of_getElem? (i := 364) (by decide +kernel)
theorem mw_366 : Cond.fieldLink RX6 21 "PlainJava$Program" "methods" "Ljava/util/ArrayList;" ∈ lw_tbl := List.mem_of_getElem? (i := 366) (by decide +kernel)
theorem mw_367 : Cond.fieldLink RX3 24 "PlainJava$Program" "methods" "Ljava/util/ArrayList;" ∈ lw_tbl := List.mem_of_getElem? (i := 367) (by decide +kernel)
theorem mw_368 : Cond.fieldLink RX2 19 "PlainJava$Program" "methods" "Ljava/util/ArrayList;" ∈ lw_tbl := List.mem_of_getElem? (i := 368) (by decide +kernel)
theorem mw_369 : Cond.fieldLink RX0 45 "PlainJava$Program" "methods" "Ljava/util/ArrayList;" ∈ lw_tbl := List.mem_of_getElem? (i := 369) (by decide +kernel)
theorem mw_370 : Cond.fieldLink RX11 95 "PlainJava$Program" "methods" "Ljava/util/ArrayList;" ∈ lw_tbl := List.mem_of_getElem? (i := 370) (by decide +kernel)
theorem mw_372 : Cond.fieldLink RX6 25 "PlainJava$Program" "variables" "Ljava/util/ArrayList;" ∈ lw_tbl := List.mem_of_getElem? (i := 372) (by decide +kernel)
theorem mw_373 : Cond.fieldLink RX3 40 "PlainJava$Program" "variables" "Ljava/util/ArrayList;" ∈ lw_tbl := List.mem_of_getElem? (i := 373) (by decide +kernel)
theorem mw_374 : Cond.fieldLink RX11 116 "PlainJava$Program" "variables" "Ljava/util/ArrayList;" ∈ lw_tbl := List.mem_of_getElem? (i := 374) (by decide +kernel)
theorem mw_376 : Cond.fieldLink RX6 28 "PlainJava$Program" "exps" "Ljava/util/ArrayList;" ∈ lw_tbl := List.mem_of_getElem? (i := 376) (by decide +kernel)
theorem mw_377 : Cond.fieldLink RX3 61 "PlainJava$Program" "exps" "Ljava/util/ArrayList;" ∈ lw_tbl := List.mem_of_getElem? (i := 377) (by decide +kernel)
theorem mw_381 : Cond.fieldLink RX6 31 "PlainJava$Program" "statements" "Ljava/util/ArrayList;" ∈ lw_tbl := List.mem_of_getElem? (i := 381) (by decide +kernel)
theorem mw_382 : Cond.fieldLink RX3 70 "PlainJava$Program" "statements" "Ljava/util/ArrayList;" ∈ lw_tbl := List.mem_of_getElem? (i := 382) (by decide +kernel)
theorem mw_384 : Cond.fieldLink RX6 45 "PlainJava$Program" "out" "LPlainJava$Method;" ∈ lw_tbl := List.mem_of_getElem? (i := 384) (by decide +kernel)
theorem mw_385 : Cond.fieldLink RX6 50 "PlainJava$Program" "in" "LPlainJava$Method;" ∈ lw_tbl := List.mem_of_getElem? (i := 385) (by decide +kernel)
theorem mw_386 : Cond.fieldLink RX6 59 "PlainJava$Program" "error" "I" ∈ lw_tbl := List.mem_of_getElem? (i := 386) (by decide +kernel)
theorem mw_387 : Cond.fieldLink RX3 79 "PlainJava$Program" "error" "I" ∈ lw_tbl := List.mem_of_getElem? (i := 387) (by decide +kernel)
theorem mw_388 : Cond.fieldLink RX11 89 "PlainJava$Program" "error" "I" ∈ lw_tbl := List.mem_of_getElem? (i := 388) (by decide +kernel)
theorem mw_389 : Cond.fieldLink RX6 63 "PlainJava$Program" "errorPlace" "I" ∈ lw_tbl := List.mem_of_getElem? (i := 389) (by decide +kernel)
theorem mw_410 : Cond.classLink RX11 31 RX7 ∈ lw_tbl := List.mem_of_getElem? (i := 410) (by decide +kernel)
theorem mw_411 : Cond.instantiable RX7 7 ∈ lw_tbl := List.mem_of_getElem? (i := 411) (by decide +kernel)
theorem mw_412 : Cond.methodLink RX11 33 yX7_init ∈ lw_tbl := List.mem_of_getElem? (i := 412) (by decide +kernel)
theorem mw_413 : Cond.instanceMethod yX7_init ∈ lw_tbl := List.mem_of_getElem? (i := 413) (by decide +kernel)
set_option maxRecDepth 100000 in
theorem mw_414 : Cond.code yX7_init cX7_init 2 none ∈ lw_tbl := List.mem_of_getElem? (i := 414) rfl
theorem mw_415 : Cond.methodLink RX7 3 objectInit ∈ lw_tbl := List.mem_of_getElem? (i := 415) (by decide +kernel)
theorem mw_416 : Cond.fieldLink RX7 9 "PlainJava$Reader" "program" "LPlainJava$Program;" ∈ lw_tbl := List.mem_of_getElem? (i := 416) (by decide +kernel)
theorem mw_417 : Cond.fieldLink RX7 21 "PlainJava$Reader" "tokens" "LPlainJava$Tokens;" ∈ lw_tbl := List.mem_of_getElem? (i := 417) (by decide +kernel)
theorem mw_418 : Cond.fieldLink RX7 31 "PlainJava$Reader" "at" "I" ∈ lw_tbl := List.mem_of_getElem? (i := 418) (by decide +kernel)
theorem mw_419 : Cond.fieldLink RX7 35 "PlainJava$Reader" "fault" "I" ∈ lw_tbl := List.mem_of_getElem? (i := 419) (by decide +kernel)
theorem mw_438 : Cond.classLink RX11 40 RX3 ∈ lw_tbl := List.mem_of_getElem? (i := 438) (by decide +kernel)
theorem mw_439 : Cond.instantiable RX3 2 ∈ lw_tbl := List.mem_of_getElem? (i := 439) (by decide +kernel)
theorem mw_440 : Cond.methodLink RX11 42 yX3_init ∈ lw_tbl := List.mem_of_getElem? (i := 440) (by decide +kernel)
theorem mw_441 : Cond.instanceMethod yX3_init ∈ lw_tbl := List.mem_of_getElem? (i := 441) (by decide +kernel)
set_option maxRecDepth 100000 in
theorem mw_442 : Cond.code yX3_init cX3_init 2 none ∈ lw_tbl := List.mem_of_getElem? (i := 442) rfl
theorem mw_443 : Cond.methodLink RX3 3 objectInit ∈ lw_tbl := List.mem_of_getElem? (i := 443) (by decide +kernel)
theorem mw_444 : Cond.classLink RX3 15 RX2 ∈ lw_tbl := List.mem_of_getElem? (i := 444) (by decide +kernel)
theorem mw_445 : Cond.instantiable RX2 5 ∈ lw_tbl := List.mem_of_getElem? (i := 445) (by decide +kernel)
theorem mw_446 : Cond.methodLink RX3 17 yX2_init ∈ lw_tbl := List.mem_of_getElem? (i := 446) (by decide +kernel)
theorem mw_447 : Cond.instanceMethod yX2_init ∈ lw_tbl := List.mem_of_getElem? (i := 447) (by decide +kernel)
set_option maxRecDepth 100000 in
theorem mw_448 : Cond.code yX2_init cX2_init 2 none ∈ lw_tbl := List.mem_of_getElem? (i := 448) rfl
theorem mw_449 : Cond.methodLink RX2 3 objectInit ∈ lw_tbl := List.mem_of_getElem? (i := 449) (by decide +kernel)
theorem mw_450 : Cond.fieldLink RX2 15 "PlainJava$Flow" "program" "LPlainJava$Program;" ∈ lw_tbl := List.mem_of_getElem? (i := 450) (by decide +kernel)
theorem mw_453 : Cond.fieldLink RX2 9 "PlainJava$Flow" "aside" "[J" ∈ lw_tbl := List.mem_of_getElem? (i := 453) (by decide +kernel)
theorem mw_466 : Cond.fieldLink RX3 20 "PlainJava$Judge" "flow" "LPlainJava$Flow;" ∈ lw_tbl := List.mem_of_getElem? (i := 466) (by decide +kernel)
theorem mw_467 : Cond.fieldLink RX3 9 "PlainJava$Judge" "program" "LPlainJava$Program;" ∈ lw_tbl := List.mem_of_getElem? (i := 467) (by decide +kernel)
theorem mw_473 : Cond.classLink RX11 47 RX0 ∈ lw_tbl := List.mem_of_getElem? (i := 473) (by decide +kernel)
theorem mw_474 : Cond.instantiable RX0 7 ∈ lw_tbl := List.mem_of_getElem? (i := 474) (by decide +kernel)
theorem mw_475 : Cond.methodLink RX11 49 yX0_init ∈ lw_tbl := List.mem_of_getElem? (i := 475) (by decide +kernel)
theorem mw_476 : Cond.instanceMethod yX0_init ∈ lw_tbl := List.mem_of_getElem? (i := 476) (by decide +kernel)
set_option maxRecDepth 100000 in
theorem mw_477 : Cond.code yX0_init cX0_init 2 none ∈ lw_tbl := List.mem_of_getElem? (i := 477) rfl
theorem mw_478 : Cond.methodLink RX0 3 objectInit ∈ lw_tbl := List.mem_of_getElem? (i := 478) (by decide +kernel)
theorem mw_479 : Cond.classLink RX0 18 RX1 ∈ lw_tbl := List.mem_of_getElem? (i := 479) (by decide +kernel)
theorem mw_480 : Cond.arrayOver (.object "PlainJava$Exp") ∈ lw_tbl := List.mem_of_getElem? (i := 480) (by decide +kernel)
theorem mw_481 : Cond.classLink RX0 24 RX8 ∈ lw_tbl := List.mem_of_getElem? (i := 481) (by decide +kernel)
theorem mw_482 : Cond.arrayOver (.object "PlainJava$Statement") ∈ lw_tbl := List.mem_of_getElem? (i := 482) (by decide +kernel)
theorem mw_483 : Cond.methodLink RX0 30 yX8_init ∈ lw_tbl := List.mem_of_getElem? (i := 483) (by decide +kernel)
theorem mw_484 : Cond.fieldLink RX0 11 "PlainJava$Code" "order" "[I" ∈ lw_tbl := List.mem_of_getElem? (i := 484) (by decide +kernel)
theorem mw_486 : Cond.fieldLink RX0 15 "PlainJava$Code" "target" "[I" ∈ lw_tbl := List.mem_of_getElem? (i := 486) (by decide +kernel)
theorem mw_488 : Cond.fieldLink RX0 20 "PlainJava$Code" "exp" "[LPlainJava$Exp;" ∈ lw_tbl := List.mem_of_getElem? (i := 488) (by decide +kernel)
theorem mw_490 : Cond.fieldLink RX0 26 "PlainJava$Code" "owner" "[LPlainJava$Statement;" ∈ lw_tbl := List.mem_of_getElem? (i := 490) (by decide +kernel)
theorem mw_492 : Cond.fieldLink RX0 41 "PlainJava$Code" "size" "I" ∈ lw_tbl := List.mem_of_getElem? (i := 492) (by decide +kernel)
theorem mw_494 : Cond.fieldLink RX0 37 "PlainJava$Code" "program" "LPlainJava$Program;" ∈ lw_tbl := List.mem_of_getElem? (i := 494) (by decide +kernel)
theorem mw_496 : Cond.fieldLink RX0 33 "PlainJava$Code" "current" "LPlainJava$Statement;" ∈ lw_tbl := List.mem_of_getElem? (i := 496) (by decide +kernel)
theorem mw_512 : Cond.classLink RX11 54 RX4 ∈ lw_tbl := List.mem_of_getElem? (i := 512) (by decide +kernel)
theorem mw_513 : Cond.instantiable RX4 21 ∈ lw_tbl := List.mem_of_getElem? (i := 513) (by decide +kernel)
theorem mw_514 : Cond.methodLink RX11 56 yX4_init ∈ lw_tbl := List.mem_of_getElem? (i := 514) (by decide +kernel)
theorem mw_515 : Cond.instanceMethod yX4_init ∈ lw_tbl := List.mem_of_getElem? (i := 515) (by decide +kernel)
set_option maxRecDepth 100000 in
theorem mw_516 : Cond.code yX4_init cX4_init 2 none ∈ lw_tbl := List.mem_of_getElem? (i := 516) rfl
theorem mw_517 : Cond.methodLink RX4 3 objectInit ∈ lw_tbl := List.mem_of_getElem? (i := 517) (by decide +kernel)
theorem mw_518 : Cond.classLink RX4 31 RX8 ∈ lw_tbl := List.mem_of_getElem? (i := 518) (by decide +kernel)
theorem mw_519 : Cond.fieldLink RX4 9 "PlainJava$Machine" "values" "[J" ∈ lw_tbl := List.mem_of_getElem? (i := 519) (by decide +kernel)
theorem mw_520 : Cond.fieldLink RX4 15 "PlainJava$Machine" "stack" "[J" ∈ lw_tbl := List.mem_of_getElem? (i := 520) (by decide +kernel)
theorem mw_521 : Cond.fieldLink RX4 18 "PlainJava$Machine" "floors" "[I" ∈ lw_tbl := List.mem_of_getElem? (i := 521) (by decide +kernel)
theorem mw_522 : Cond.fieldLink RX4 22 "PlainJava$Machine" "returns" "[I" ∈ lw_tbl := List.mem_of_getElem? (i := 522) (by decide +kernel)
theorem mw_523 : Cond.fieldLink RX4 25 "PlainJava$Machine" "ways" "[I" ∈ lw_tbl := List.mem_of_getElem? (i := 523) (by decide +kernel)
theorem mw_524 : Cond.fieldLink RX4 28 "PlainJava$Machine" "carried" "[J" ∈ lw_tbl := List.mem_of_getElem? (i := 524) (by decide +kernel)
theorem mw_525 : Cond.fieldLink RX4 33 "PlainJava$Machine" "goals" "[LPlainJava$Statement;" ∈ lw_tbl := List.mem_of_getElem? (i := 525) (by decide +kernel)
theorem mw_526 : Cond.fieldLink RX4 37 "PlainJava$Machine" "numbers" "[J" ∈ lw_tbl := List.mem_of_getElem? (i := 526) (by decide +kernel)
theorem mw_527 : Cond.fieldLink RX4 43 "PlainJava$Machine" "code" "LPlainJava$Code;" ∈ lw_tbl := List.mem_of_getElem? (i := 527) (by decide +kernel)
theorem mw_528 : Cond.fieldLink RX4 40 "PlainJava$Machine" "inputs" "[I" ∈ lw_tbl := List.mem_of_getElem? (i := 528) (by decide +kernel)
theorem mw_583 : Cond.fieldLink RX11 9 "PlainJava" "tape" "[B" ∈ lw_tbl := List.mem_of_getElem? (i := 583) (by decide +kernel)
theorem mw_584 : Cond.fieldLink RX11 13 "PlainJava" "inputs" "[I" ∈ lw_tbl := List.mem_of_getElem? (i := 584) (by decide +kernel)
theorem mw_585 : Cond.fieldLink RX11 17 "PlainJava" "arguments" "[J" ∈ lw_tbl := List.mem_of_getElem? (i := 585) (by decide +kernel)
theorem mw_586 : Cond.fieldLink RX11 24 "PlainJava" "program" "LPlainJava$Program;" ∈ lw_tbl := List.mem_of_getElem? (i := 586) (by decide +kernel)
theorem mw_587 : Cond.fieldLink RX11 28 "PlainJava" "spare" "LPlainJava$Program;" ∈ lw_tbl := List.mem_of_getElem? (i := 587) (by decide +kernel)
theorem mw_588 : Cond.fieldLink RX11 36 "PlainJava" "reader" "LPlainJava$Reader;" ∈ lw_tbl := List.mem_of_getElem? (i := 588) (by decide +kernel)
theorem mw_589 : Cond.fieldLink RX11 43 "PlainJava" "judge" "LPlainJava$Judge;" ∈ lw_tbl := List.mem_of_getElem? (i := 589) (by decide +kernel)
theorem mw_590 : Cond.fieldLink RX11 50 "PlainJava" "code" "LPlainJava$Code;" ∈ lw_tbl := List.mem_of_getElem? (i := 590) (by decide +kernel)
theorem mw_591 : Cond.fieldLink RX11 59 "PlainJava" "machine" "LPlainJava$Machine;" ∈ lw_tbl := List.mem_of_getElem? (i := 591) (by decide +kernel)
theorem mw_592 : Cond.fieldLink RX11 67 "PlainJava" "length" "I" ∈ lw_tbl := List.mem_of_getElem? (i := 592) (by decide +kernel)
theorem mw_593 : Cond.fieldLink RX11 119 "PlainJava" "inputCount" "I" ∈ lw_tbl := List.mem_of_getElem? (i := 593) (by decide +kernel)
theorem mw_594 : Cond.fieldLink RX11 63 "PlainJava" "place" "I" ∈ lw_tbl := List.mem_of_getElem? (i := 594) (by decide +kernel)
theorem mw_595 : Cond.fieldLink RX11 82 "PlainJava" "hasRun" "Z" ∈ lw_tbl := List.mem_of_getElem? (i := 595) (by decide +kernel)
theorem mw_623 : Cond.methodLink RL 13 yX11_feed ∈ lw_tbl := List.mem_of_getElem? (i := 623) (by decide +kernel)
theorem mw_624 : Cond.instanceMethod yX11_feed ∈ lw_tbl := List.mem_of_getElem? (i := 624) (by decide +kernel)
theorem mw_625 : Cond.selects RX11 yX11_feed yX11_feed ∈ lw_tbl := List.mem_of_getElem? (i := 625) (by decide +kernel)
set_option maxRecDepth 100000 in
theorem mw_626 : Cond.code yX11_feed cX11_feed 6 (some .int) ∈ lw_tbl := List.mem_of_getElem? (i := 626) rfl
theorem mw_627 : Cond.methodLink RX11 70 yX11_append ∈ lw_tbl := List.mem_of_getElem? (i := 627) (by decide +kernel)
theorem mw_629 : Cond.instanceMethod yX11_append ∈ lw_tbl := List.mem_of_getElem? (i := 629) (by decide +kernel)
set_option maxRecDepth 100000 in
theorem mw_630 : Cond.code yX11_append cX11_append 3 none ∈ lw_tbl := List.mem_of_getElem? (i := 630) rfl
theorem mw_631 : Cond.methodLink RL 18 yX11_cut ∈ lw_tbl := List.mem_of_getElem? (i := 631) (by decide +kernel)
theorem mw_632 : Cond.instanceMethod yX11_cut ∈ lw_tbl := List.mem_of_getElem? (i := 632) (by decide +kernel)
theorem mw_633 : Cond.selects RX11 yX11_cut yX11_cut ∈ lw_tbl := List.mem_of_getElem? (i := 633) (by decide +kernel)
set_option maxRecDepth 100000 in
theorem mw_634 : Cond.code yX11_cut cX11_cut 2 (some .int) ∈ lw_tbl := List.mem_of_getElem? (i := 634) rfl
theorem mw_635 : Cond.methodLink RL 23 yX11_read ∈ lw_tbl := List.mem_of_getElem? (i := 635) (by decide +kernel)
theorem mw_636 : Cond.instanceMethod yX11_read ∈ lw_tbl := List.mem_of_getElem? (i := 636) (by decide +kernel)
theorem mw_637 : Cond.selects RX11 yX11_read yX11_read ∈ lw_tbl := List.mem_of_getElem? (i := 637) (by decide +kernel)
set_option maxRecDepth 100000 in
theorem mw_638 : Cond.code yX11_read cX11_read 3 (some .int) ∈ lw_tbl := List.mem_of_getElem? (i := 638) rfl
theorem mw_639 : Cond.methodLink RX11 74 yX7_readProgram ∈ lw_tbl := List.mem_of_getElem? (i := 639) (by decide +kernel)
theorem mw_640 : Cond.instanceMethod yX7_readProgram ∈ lw_tbl := List.mem_of_getElem? (i := 640) (by decide +kernel)
theorem mw_641 : Cond.selects RX7 yX7_readProgram yX7_readProgram ∈ lw_tbl := List.mem_of_getElem? (i := 641) (by decide +kernel)
set_option maxRecDepth 100000 in
theorem mw_642 : Cond.code yX7_readProgram cX7_readProgram 5 (some .int) ∈ lw_tbl := List.mem_of_getElem? (i := 642) rfl
theorem mw_643 : Cond.methodLink RX7 22 yX6_clear ∈ lw_tbl := List.mem_of_getElem? (i := 643) (by decide +kernel)
theorem mw_644 : Cond.instanceMethod yX6_clear ∈ lw_tbl := List.mem_of_getElem? (i := 644) (by decide +kernel)
theorem mw_645 : Cond.selects RX6 yX6_clear yX6_clear ∈ lw_tbl := List.mem_of_getElem? (i := 645) (by decide +kernel)
set_option maxRecDepth 100000 in
theorem mw_646 : Cond.code yX6_clear cX6_clear 1 none ∈ lw_tbl := List.mem_of_getElem? (i := 646) rfl
theorem mw_647 : Cond.methodLink RX6 56 yJx4a65c_clear_da8c8 ∈ lw_tbl := List.mem_of_getElem? (i := 647) (by decide +kernel)
theorem mw_648 : Cond.instanceMethod yJx4a65c_clear_da8c8 ∈ lw_tbl := List.mem_of_getElem? (i := 648) (by decide +kernel)
theorem mw_649 : Cond.selects RJx4a65c yJx4a65c_clear_da8c8 yJx4a65c_clear_da8c8 ∈ lw_tbl := List.mem_of_getElem? (i := 649) (by decide +kernel)
set_option maxRecDepth 100000 in
theorem mw_650 : Cond.code yJx4a65c_clear_da8c8 cJx4a65c_clear_da8c8 4 none ∈ lw_tbl := List.mem_of_getElem? (i := 650) rfl
theorem mw_651 : Cond.methodLink RX7 25 yX9_cutText ∈ lw_tbl := List.mem_of_getElem? (i := 651) (by decide +kernel)
theorem mw_652 : Cond.instanceMethod yX9_cutText ∈ lw_tbl := List.mem_of_getElem? (i := 652) (by decide +kernel)
theorem mw_653 : Cond.selects RX9 yX9_cutText yX9_cutText ∈ lw_tbl := List.mem_of_getElem? (i := 653) (by decide +kernel)
set_option maxRecDepth 100000 in
theorem mw_654 : Cond.code yX9_cutText cX9_cutText 6 none ∈ lw_tbl := List.mem_of_getElem? (i := 654) rfl
theorem mw_655 : Cond.methodLink RX9 51 Lib.Math.min.name ∈ lw_tbl := List.mem_of_getElem? (i := 655) (by decide +kernel)
theorem mw_656 : Cond.static Lib.Math.min.name ∈ lw_tbl := List.mem_of_getElem? (i := 656) (by decide +kernel)
set_option maxRecDepth 100000 in
theorem mw_657 : Cond.code Lib.Math.min.name Lib.Math.min.code 2 (some .int) ∈ lw_tbl := List.mem_of_getElem? (i := 657) rfl
theorem mw_658 : Cond.methodLink RX9 63 yX9_behindBlanks ∈ lw_tbl := List.mem_of_getElem? (i := 658) (by decide +kernel)
theorem mw_660 : Cond.instanceMethod yX9_behindBlanks ∈ lw_tbl := List.mem_of_getElem? (i := 660) (by decide +kernel)
set_option maxRecDepth 100000 in
theorem mw_661 : Cond.code yX9_behindBlanks cX9_behindBlanks 5 (some .int) ∈ lw_tbl := List.mem_of_getElem? (i := 661) rfl
theorem mw_698 : Cond.methodLink RX7 38 yX7_code ∈ lw_tbl := List.mem_of_getElem? (i := 698) (by decide +kernel)
theorem mw_700 : Cond.instanceMethod yX7_code ∈ lw_tbl := List.mem_of_getElem? (i := 700) (by decide +kernel)
set_option maxRecDepth 100000 in
theorem mw_701 : Cond.code yX7_code cX7_code 1 (some .int) ∈ lw_tbl := List.mem_of_getElem? (i := 701) rfl
theorem mw_718 : Cond.instanceMethod yJx4a65c_size_8abf5 ∈ lw_tbl := List.mem_of_getElem? (i := 718) (by decide +kernel)
theorem mw_719 : Cond.selects RJx4a65c yJx4a65c_size_8abf5 yJx4a65c_size_8abf5 ∈ lw_tbl := List.mem_of_getElem? (i := 719) (by decide +kernel)
set_option maxRecDepth 100000 in
theorem mw_720 : Cond.code yJx4a65c_size_8abf5 cJx4a65c_size_8abf5 1 (some .int) ∈ lw_tbl := List.mem_of_getElem? (i := 720) rfl
theorem mw_803 : Cond.instantiable RX10 7 ∈ lw_tbl := List.mem_of_getElem? (i := 803) (by decide +kernel)
theorem mw_905 : Cond.instantiable RX1 18 ∈ lw_tbl := List.mem_of_getElem? (i := 905) (by decide +kernel)
theorem mw_1158 : Cond.methodLink RX11 86 yX3_judgeProgram ∈ lw_tbl := List.mem_of_getElem? (i := 1158) (by decide +kernel)
theorem mw_1159 : Cond.instanceMethod yX3_judgeProgram ∈ lw_tbl := List.mem_of_getElem? (i := 1159) (by decide +kernel)
theorem mw_1160 : Cond.selects RX3 yX3_judgeProgram yX3_judgeProgram ∈ lw_tbl := List.mem_of_getElem? (i := 1160) (by decide +kernel)
set_option maxRecDepth 100000 in
theorem mw_1161 : Cond.code yX3_judgeProgram cX3_judgeProgram 3 none ∈ lw_tbl := List.mem_of_getElem? (i := 1161) rfl
theorem mw_1162 : Cond.methodLink RX3 30 yJx4a65c_size_8abf5 ∈ lw_tbl := List.mem_of_getElem? (i := 1162) (by decide +kernel)
theorem mw_1173 : Cond.methodLink RX6 70 yJx4a65c_size_8abf5 ∈ lw_tbl := List.mem_of_getElem? (i := 1173) (by decide +kernel)
theorem mw_1364 : Cond.methodLink RX3 82 yX2_reachAll ∈ lw_tbl := List.mem_of_getElem? (i := 1364) (by decide +kernel)
theorem mw_1365 : Cond.instanceMethod yX2_reachAll ∈ lw_tbl := List.mem_of_getElem? (i := 1365) (by decide +kernel)
theorem mw_1366 : Cond.selects RX2 yX2_reachAll yX2_reachAll ∈ lw_tbl := List.mem_of_getElem? (i := 1366) (by decide +kernel)
set_option maxRecDepth 100000 in
theorem mw_1367 : Cond.code yX2_reachAll cX2_reachAll 4 none ∈ lw_tbl := List.mem_of_getElem? (i := 1367) rfl
theorem mw_1368 : Cond.methodLink RX2 25 yJx4a65c_size_8abf5 ∈ lw_tbl := List.mem_of_getElem? (i := 1368) (by decide +kernel)
theorem mw_1407 : Cond.methodLink RX3 85 yX2_assignAll ∈ lw_tbl := List.mem_of_getElem? (i := 1407) (by decide +kernel)
theorem mw_1408 : Cond.instanceMethod yX2_assignAll ∈ lw_tbl := List.mem_of_getElem? (i := 1408) (by decide +kernel)
theorem mw_1409 : Cond.selects RX2 yX2_assignAll yX2_assignAll ∈ lw_tbl := List.mem_of_getElem? (i := 1409) (by decide +kernel)
set_option maxRecDepth 100000 in
theorem mw_1410 : Cond.code yX2_assignAll cX2_assignAll 7 none ∈ lw_tbl := List.mem_of_getElem? (i := 1410) rfl
theorem mw_1491 : Cond.methodLink RX11 92 yX0_lay ∈ lw_tbl := List.mem_of_getElem? (i := 1491) (by decide +kernel)
theorem mw_1492 : Cond.instanceMethod yX0_lay ∈ lw_tbl := List.mem_of_getElem? (i := 1492) (by decide +kernel)
theorem mw_1493 : Cond.selects RX0 yX0_lay yX0_lay ∈ lw_tbl := List.mem_of_getElem? (i := 1493) (by decide +kernel)
set_option maxRecDepth 100000 in
theorem mw_1494 : Cond.code yX0_lay cX0_lay 4 none ∈ lw_tbl := List.mem_of_getElem? (i := 1494) rfl
theorem mw_1495 : Cond.methodLink RX0 51 yJx4a65c_size_8abf5 ∈ lw_tbl := List.mem_of_getElem? (i := 1495) (by decide +kernel)
theorem mw_1562 : Cond.methodLink RX11 99 yJx4a65c_size_8abf5 ∈ lw_tbl := List.mem_of_getElem? (i := 1562) (by decide +kernel)
theorem mw_1563 : Cond.methodLink RL 28 yX11_place ∈ lw_tbl := List.mem_of_getElem? (i := 1563) (by decide +kernel)
theorem mw_1564 : Cond.instanceMethod yX11_place ∈ lw_tbl := List.mem_of_getElem? (i := 1564) (by decide +kernel)
theorem mw_1565 : Cond.selects RX11 yX11_place yX11_place ∈ lw_tbl := List.mem_of_getElem? (i := 1565) (by decide +kernel)
set_option maxRecDepth 100000 in
theorem mw_1566 : Cond.code yX11_place cX11_place 1 (some .int) ∈ lw_tbl := List.mem_of_getElem? (i := 1566) rfl
theorem mw_1567 : Cond.methodLink RL 32 yX11_judge ∈ lw_tbl := List.mem_of_getElem? (i := 1567) (by decide +kernel)
theorem mw_1568 : Cond.instanceMethod yX11_judge ∈ lw_tbl := List.mem_of_getElem? (i := 1568) (by decide +kernel)
theorem mw_1569 : Cond.selects RX11 yX11_judge yX11_judge ∈ lw_tbl := List.mem_of_getElem? (i := 1569) (by decide +kernel)
set_option maxRecDepth 100000 in
theorem mw_1570 : Cond.code yX11_judge cX11_judge 1 (some .int) ∈ lw_tbl := List.mem_of_getElem? (i := 1570) rfl
theorem mw_1571 : Cond.methodLink RL 36 yX11_told ∈ lw_tbl := List.mem_of_getElem? (i := 1571) (by decide +kernel)
theorem mw_1572 : Cond.instanceMethod yX11_told ∈ lw_tbl := List.mem_of_getElem? (i := 1572) (by decide +kernel)
theorem mw_1573 : Cond.selects RX11 yX11_told yX11_told ∈ lw_tbl := List.mem_of_getElem? (i := 1573) (by decide +kernel)
set_option maxRecDepth 100000 in
theorem mw_1574 : Cond.code yX11_told cX11_told 2 (some .int) ∈ lw_tbl := List.mem_of_getElem? (i := 1574) rfl
theorem mw_1575 : Cond.methodLink RL 40 yX11_token ∈ lw_tbl := List.mem_of_getElem? (i := 1575) (by decide +kernel)
theorem mw_1576 : Cond.instanceMethod yX11_token ∈ lw_tbl := List.mem_of_getElem? (i := 1576) (by decide +kernel)
theorem mw_1577 : Cond.selects RX11 yX11_token yX11_token ∈ lw_tbl := List.mem_of_getElem? (i := 1577) (by decide +kernel)
set_option maxRecDepth 100000 in
theorem mw_1578 : Cond.code yX11_token cX11_token 4 (some .int) ∈ lw_tbl := List.mem_of_getElem? (i := 1578) rfl
theorem mw_1583 : Cond.methodLink RL 45 yX11_method ∈ lw_tbl := List.mem_of_getElem? (i := 1583) (by decide +kernel)
theorem mw_1584 : Cond.instanceMethod yX11_method ∈ lw_tbl := List.mem_of_getElem? (i := 1584) (by decide +kernel)
theorem mw_1585 : Cond.selects RX11 yX11_method yX11_method ∈ lw_tbl := List.mem_of_getElem? (i := 1585) (by decide +kernel)
set_option maxRecDepth 100000 in
theorem mw_1586 : Cond.code yX11_method cX11_method 4 (some .int) ∈ lw_tbl := List.mem_of_getElem? (i := 1586) rfl
theorem mw_1589 : Cond.methodLink RL 49 yX11_variable ∈ lw_tbl := List.mem_of_getElem? (i := 1589) (by decide +kernel)
theorem mw_1590 : Cond.instanceMethod yX11_variable ∈ lw_tbl := List.mem_of_getElem? (i := 1590) (by decide +kernel)
theorem mw_1591 : Cond.selects RX11 yX11_variable yX11_variable ∈ lw_tbl := List.mem_of_getElem? (i := 1591) (by decide +kernel)
set_option maxRecDepth 100000 in
theorem mw_1592 : Cond.code yX11_variable cX11_variable 4 (some .int) ∈ lw_tbl := List.mem_of_getElem? (i := 1592) rfl
theorem mw_1594 : Cond.methodLink RL 53 yX11_means ∈ lw_tbl := List.mem_of_getElem? (i := 1594) (by decide +kernel)
theorem mw_1595 : Cond.instanceMethod yX11_means ∈ lw_tbl := List.mem_of_getElem? (i := 1595) (by decide +kernel)
theorem mw_1596 : Cond.selects RX11 yX11_means yX11_means ∈ lw_tbl := List.mem_of_getElem? (i := 1596) (by decide +kernel)
set_option maxRecDepth 100000 in
theorem mw_1597 : Cond.code yX11_means cX11_means 3 (some .int) ∈ lw_tbl := List.mem_of_getElem? (i := 1597) rfl
theorem mw_1598 : Cond.methodLink RL 57 yX11_type ∈ lw_tbl := List.mem_of_getElem? (i := 1598) (by decide +kernel)
theorem mw_1599 : Cond.instanceMethod yX11_type ∈ lw_tbl := List.mem_of_getElem? (i := 1599) (by decide +kernel)
theorem mw_1600 : Cond.selects RX11 yX11_type yX11_type ∈ lw_tbl := List.mem_of_getElem? (i := 1600) (by decide +kernel)
set_option maxRecDepth 100000 in
theorem mw_1601 : Cond.code yX11_type cX11_type 4 (some .int) ∈ lw_tbl := List.mem_of_getElem? (i := 1601) rfl
theorem mw_1602 : Cond.methodLink RX11 163 yX6_expAt ∈ lw_tbl := List.mem_of_getElem? (i := 1602) (by decide +kernel)
theorem mw_1603 : Cond.instanceMethod yX6_expAt ∈ lw_tbl := List.mem_of_getElem? (i := 1603) (by decide +kernel)
theorem mw_1604 : Cond.selects RX6 yX6_expAt yX6_expAt ∈ lw_tbl := List.mem_of_getElem? (i := 1604) (by decide +kernel)
set_option maxRecDepth 100000 in
theorem mw_1605 : Cond.code yX6_expAt cX6_expAt 5 (some (.object "PlainJava$Exp")) ∈ lw_tbl := List.mem_of_getElem? (i := 1605) rfl
theorem mw_1607 : Cond.methodLink RL 61 yX11_constant ∈ lw_tbl := List.mem_of_getElem? (i := 1607) (by decide +kernel)
theorem mw_1608 : Cond.instanceMethod yX11_constant ∈ lw_tbl := List.mem_of_getElem? (i := 1608) (by decide +kernel)
theorem mw_1609 : Cond.selects RX11 yX11_constant yX11_constant ∈ lw_tbl := List.mem_of_getElem? (i := 1609) (by decide +kernel)
set_option maxRecDepth 100000 in
theorem mw_1610 : Cond.code yX11_constant cX11_constant 4 (some .long) ∈ lw_tbl := List.mem_of_getElem? (i := 1610) rfl
theorem mw_1611 : Cond.constantLong RX11 170 (-1234567890123) ∈ lw_tbl := List.mem_of_getElem? (i := 1611) (by decide +kernel)
theorem mw_1612 : Cond.methodLink RL 66 yX11_ends ∈ lw_tbl := List.mem_of_getElem? (i := 1612) (by decide +kernel)
theorem mw_1613 : Cond.instanceMethod yX11_ends ∈ lw_tbl := List.mem_of_getElem? (i := 1613) (by decide +kernel)
theorem mw_1614 : Cond.selects RX11 yX11_ends yX11_ends ∈ lw_tbl := List.mem_of_getElem? (i := 1614) (by decide +kernel)
set_option maxRecDepth 100000 in
theorem mw_1615 : Cond.code yX11_ends cX11_ends 3 (some .int) ∈ lw_tbl := List.mem_of_getElem? (i := 1615) rfl
theorem mw_1616 : Cond.methodLink RX11 179 yX6_statementAt ∈ lw_tbl := List.mem_of_getElem? (i := 1616) (by decide +kernel)
theorem mw_1617 : Cond.instanceMethod yX6_statementAt ∈ lw_tbl := List.mem_of_getElem? (i := 1617) (by decide +kernel)
theorem mw_1618 : Cond.selects RX6 yX6_statementAt yX6_statementAt ∈ lw_tbl := List.mem_of_getElem? (i := 1618) (by decide +kernel)
set_option maxRecDepth 100000 in
theorem mw_1619 : Cond.code yX6_statementAt cX6_statementAt 4 (some (.object "PlainJava$Statement")) ∈ lw_tbl := List.mem_of_getElem? (i := 1619) rfl
theorem mw_1622 : Cond.methodLink RL 70 yX11_assigned ∈ lw_tbl := List.mem_of_getElem? (i := 1622) (by decide +kernel)
theorem mw_1623 : Cond.instanceMethod yX11_assigned ∈ lw_tbl := List.mem_of_getElem? (i := 1623) (by decide +kernel)
theorem mw_1624 : Cond.selects RX11 yX11_assigned yX11_assigned ∈ lw_tbl := List.mem_of_getElem? (i := 1624) (by decide +kernel)
set_option maxRecDepth 100000 in
theorem mw_1625 : Cond.code yX11_assigned cX11_assigned 4 (some .int) ∈ lw_tbl := List.mem_of_getElem? (i := 1625) rfl
theorem mw_1627 : Cond.methodLink RL 76 yX11_argument ∈ lw_tbl := List.mem_of_getElem? (i := 1627) (by decide +kernel)
theorem mw_1628 : Cond.instanceMethod yX11_argument ∈ lw_tbl := List.mem_of_getElem? (i := 1628) (by decide +kernel)
theorem mw_1629 : Cond.selects RX11 yX11_argument yX11_argument ∈ lw_tbl := List.mem_of_getElem? (i := 1629) (by decide +kernel)
set_option maxRecDepth 100000 in
theorem mw_1630 : Cond.code yX11_argument cX11_argument 4 (some .int) ∈ lw_tbl := List.mem_of_getElem? (i := 1630) rfl
theorem mw_1631 : Cond.methodLink RL 81 yX11_input ∈ lw_tbl := List.mem_of_getElem? (i := 1631) (by decide +kernel)
theorem mw_1632 : Cond.instanceMethod yX11_input ∈ lw_tbl := List.mem_of_getElem? (i := 1632) (by decide +kernel)
theorem mw_1633 : Cond.selects RX11 yX11_input yX11_input ∈ lw_tbl := List.mem_of_getElem? (i := 1633) (by decide +kernel)
set_option maxRecDepth 100000 in
theorem mw_1634 : Cond.code yX11_input cX11_input 2 (some .int) ∈ lw_tbl := List.mem_of_getElem? (i := 1634) rfl
theorem mw_1635 : Cond.methodLink RL 85 yX11_drain ∈ lw_tbl := List.mem_of_getElem? (i := 1635) (by decide +kernel)
theorem mw_1636 : Cond.instanceMethod yX11_drain ∈ lw_tbl := List.mem_of_getElem? (i := 1636) (by decide +kernel)
theorem mw_1637 : Cond.selects RX11 yX11_drain yX11_drain ∈ lw_tbl := List.mem_of_getElem? (i := 1637) (by decide +kernel)
set_option maxRecDepth 100000 in
theorem mw_1638 : Cond.code yX11_drain cX11_drain 2 (some .int) ∈ lw_tbl := List.mem_of_getElem? (i := 1638) rfl
theorem mw_1639 : Cond.methodLink RL 89 yX11_run ∈ lw_tbl := List.mem_of_getElem? (i := 1639) (by decide +kernel)
theorem mw_1640 : Cond.instanceMethod yX11_run ∈ lw_tbl := List.mem_of_getElem? (i := 1640) (by decide +kernel)
theorem mw_1641 : Cond.selects RX11 yX11_run yX11_run ∈ lw_tbl := List.mem_of_getElem? (i := 1641) (by decide +kernel)
set_option maxRecDepth 100000 in
theorem mw_1642 : Cond.code yX11_run cX11_run 3 (some .int) ∈ lw_tbl := List.mem_of_getElem? (i := 1642) rfl
theorem mw_1744 : Cond.methodLink RL 93 yX11_ran ∈ lw_tbl := List.mem_of_getElem? (i := 1744) (by decide +kernel)
theorem mw_1745 : Cond.instanceMethod yX11_ran ∈ lw_tbl := List.mem_of_getElem? (i := 1745) (by decide +kernel)
theorem mw_1746 : Cond.selects RX11 yX11_ran yX11_ran ∈ lw_tbl := List.mem_of_getElem? (i := 1746) (by decide +kernel)
set_option maxRecDepth 100000 in
theorem mw_1747 : Cond.code yX11_ran cX11_ran 2 (some .long) ∈ lw_tbl := List.mem_of_getElem? (i := 1747) rfl
theorem mw_1753 : Cond.classLink RL 10 RX12 ∈ lw_tbl := List.mem_of_getElem? (i := 1753) (by decide +kernel)
theorem mw_1754 : Cond.instantiable RX12 150 ∈ lw_tbl := List.mem_of_getElem? (i := 1754) (by decide +kernel)
theorem mw_1755 : Cond.methodLink RL 12 yX12_init ∈ lw_tbl := List.mem_of_getElem? (i := 1755) (by decide +kernel)
theorem mw_1756 : Cond.instanceMethod yX12_init ∈ lw_tbl := List.mem_of_getElem? (i := 1756) (by decide +kernel)
set_option maxRecDepth 100000 in
theorem mw_1757 : Cond.code yX12_init cX12_init 1 none ∈ lw_tbl := List.mem_of_getElem? (i := 1757) rfl
theorem mw_1758 : Cond.methodLink RX12 1 objectInit ∈ lw_tbl := List.mem_of_getElem? (i := 1758) (by decide +kernel)
theorem mw_1759 : Cond.fieldLink RX12 7 "PlainJavaModel" "tape" "[I" ∈ lw_tbl := List.mem_of_getElem? (i := 1759) (by decide +kernel)
theorem mw_1760 : Cond.fieldLink RX12 310 "PlainJavaModel" "taped" "I" ∈ lw_tbl := List.mem_of_getElem? (i := 1760) (by decide +kernel)
theorem mw_1761 : Cond.fieldLink RX12 323 "PlainJavaModel" "count" "I" ∈ lw_tbl := List.mem_of_getElem? (i := 1761) (by decide +kernel)
theorem mw_1762 : Cond.fieldLink RX12 13 "PlainJavaModel" "tKind" "[I" ∈ lw_tbl := List.mem_of_getElem? (i := 1762) (by decide +kernel)
theorem mw_1763 : Cond.fieldLink RX12 16 "PlainJavaModel" "tAt" "[I" ∈ lw_tbl := List.mem_of_getElem? (i := 1763) (by decide +kernel)
theorem mw_1764 : Cond.fieldLink RX12 19 "PlainJavaModel" "tSize" "[I" ∈ lw_tbl := List.mem_of_getElem? (i := 1764) (by decide +kernel)
theorem mw_1765 : Cond.fieldLink RX12 22 "PlainJavaModel" "tWhat" "[I" ∈ lw_tbl := List.mem_of_getElem? (i := 1765) (by decide +kernel)
theorem mw_1766 : Cond.fieldLink RX12 25 "PlainJavaModel" "tHigh" "[J" ∈ lw_tbl := List.mem_of_getElem? (i := 1766) (by decide +kernel)
theorem mw_1767 : Cond.fieldLink RX12 29 "PlainJavaModel" "tLow" "[I" ∈ lw_tbl := List.mem_of_getElem? (i := 1767) (by decide +kernel)
theorem mw_1768 : Cond.fieldLink RX12 32 "PlainJavaModel" "tValue" "[J" ∈ lw_tbl := List.mem_of_getElem? (i := 1768) (by decide +kernel)
theorem mw_1769 : Cond.fieldLink RX12 35 "PlainJavaModel" "tLong" "[Z" ∈ lw_tbl := List.mem_of_getElem? (i := 1769) (by decide +kernel)
theorem mw_1770 : Cond.fieldLink RX12 39 "PlainJavaModel" "tGreat" "[I" ∈ lw_tbl := List.mem_of_getElem? (i := 1770) (by decide +kernel)
theorem mw_1771 : Cond.fieldLink RX12 317 "PlainJavaModel" "end" "I" ∈ lw_tbl := List.mem_of_getElem? (i := 1771) (by decide +kernel)
theorem mw_1772 : Cond.fieldLink RX12 320 "PlainJavaModel" "scan" "I" ∈ lw_tbl := List.mem_of_getElem? (i := 1772) (by decide +kernel)
theorem mw_1773 : Cond.fieldLink RX12 413 "PlainJavaModel" "pos" "I" ∈ lw_tbl := List.mem_of_getElem? (i := 1773) (by decide +kernel)
theorem mw_1774 : Cond.fieldLink RX12 407 "PlainJavaModel" "fault" "I" ∈ lw_tbl := List.mem_of_getElem? (i := 1774) (by decide +kernel)
theorem mw_1776 : Cond.fieldLink RX12 430 "PlainJavaModel" "deep" "I" ∈ lw_tbl := List.mem_of_getElem? (i := 1776) (by decide +kernel)
theorem mw_1777 : Cond.fieldLink RX12 433 "PlainJavaModel" "codes" "I" ∈ lw_tbl := List.mem_of_getElem? (i := 1777) (by decide +kernel)
theorem mw_1778 : Cond.fieldLink RX12 42 "PlainJavaModel" "cOp" "[I" ∈ lw_tbl := List.mem_of_getElem? (i := 1778) (by decide +kernel)
theorem mw_1779 : Cond.fieldLink RX12 45 "PlainJavaModel" "cA" "[I" ∈ lw_tbl := List.mem_of_getElem? (i := 1779) (by decide +kernel)
theorem mw_1780 : Cond.fieldLink RX12 48 "PlainJavaModel" "cB" "[I" ∈ lw_tbl := List.mem_of_getElem? (i := 1780) (by decide +kernel)
theorem mw_1781 : Cond.fieldLink RX12 51 "PlainJavaModel" "cTok" "[I" ∈ lw_tbl := List.mem_of_getElem? (i := 1781) (by decide +kernel)
theorem mw_1782 : Cond.fieldLink RX12 54 "PlainJavaModel" "cFirst" "[I" ∈ lw_tbl := List.mem_of_getElem? (i := 1782) (by decide +kernel)
theorem mw_1783 : Cond.fieldLink RX12 57 "PlainJavaModel" "cLast" "[I" ∈ lw_tbl := List.mem_of_getElem? (i := 1783) (by decide +kernel)
theorem mw_1784 : Cond.fieldLink RX12 60 "PlainJavaModel" "oSort" "[I" ∈ lw_tbl := List.mem_of_getElem? (i := 1784) (by decide +kernel)
theorem mw_1785 : Cond.fieldLink RX12 63 "PlainJavaModel" "oSign" "[I" ∈ lw_tbl := List.mem_of_getElem? (i := 1785) (by decide +kernel)
theorem mw_1786 : Cond.fieldLink RX12 66 "PlainJavaModel" "oToken" "[I" ∈ lw_tbl := List.mem_of_getElem? (i := 1786) (by decide +kernel)
theorem mw_1787 : Cond.fieldLink RX12 69 "PlainJavaModel" "oArgs" "[I" ∈ lw_tbl := List.mem_of_getElem? (i := 1787) (by decide +kernel)
theorem mw_1789 : Cond.fieldLink RX12 72 "PlainJavaModel" "vFirst" "[I" ∈ lw_tbl := List.mem_of_getElem? (i := 1789) (by decide +kernel)
theorem mw_1795 : Cond.fieldLink RX12 516 "PlainJavaModel" "methods" "I" ∈ lw_tbl := List.mem_of_getElem? (i := 1795) (by decide +kernel)
theorem mw_1796 : Cond.fieldLink RX12 75 "PlainJavaModel" "mToken" "[I" ∈ lw_tbl := List.mem_of_getElem? (i := 1796) (by decide +kernel)
theorem mw_1797 : Cond.fieldLink RX12 78 "PlainJavaModel" "mType" "[I" ∈ lw_tbl := List.mem_of_getElem? (i := 1797) (by decide +kernel)
theorem mw_1798 : Cond.fieldLink RX12 81 "PlainJavaModel" "mParams" "[I" ∈ lw_tbl := List.mem_of_getElem? (i := 1798) (by decide +kernel)
theorem mw_1799 : Cond.fieldLink RX12 84 "PlainJavaModel" "mFirst" "[I" ∈ lw_tbl := List.mem_of_getElem? (i := 1799) (by decide +kernel)
theorem mw_1800 : Cond.fieldLink RX12 87 "PlainJavaModel" "mCode" "[I" ∈ lw_tbl := List.mem_of_getElem? (i := 1800) (by decide +kernel)
theorem mw_1801 : Cond.fieldLink RX12 519 "PlainJavaModel" "variables" "I" ∈ lw_tbl := List.mem_of_getElem? (i := 1801) (by decide +kernel)
theorem mw_1802 : Cond.fieldLink RX12 90 "PlainJavaModel" "vToken" "[I" ∈ lw_tbl := List.mem_of_getElem? (i := 1802) (by decide +kernel)
theorem mw_1803 : Cond.fieldLink RX12 93 "PlainJavaModel" "vType" "[I" ∈ lw_tbl := List.mem_of_getElem? (i := 1803) (by decide +kernel)
theorem mw_1804 : Cond.fieldLink RX12 96 "PlainJavaModel" "vFinal" "[Z" ∈ lw_tbl := List.mem_of_getElem? (i := 1804) (by decide +kernel)
theorem mw_1805 : Cond.fieldLink RX12 99 "PlainJavaModel" "vMethod" "[I" ∈ lw_tbl := List.mem_of_getElem? (i := 1805) (by decide +kernel)
theorem mw_1806 : Cond.fieldLink RX12 102 "PlainJavaModel" "vFrame" "[I" ∈ lw_tbl := List.mem_of_getElem? (i := 1806) (by decide +kernel)
theorem mw_1807 : Cond.fieldLink RX12 105 "PlainJavaModel" "vEnd" "[I" ∈ lw_tbl := List.mem_of_getElem? (i := 1807) (by decide +kernel)
theorem mw_1808 : Cond.fieldLink RX12 510 "PlainJavaModel" "things" "I" ∈ lw_tbl := List.mem_of_getElem? (i := 1808) (by decide +kernel)
theorem mw_1809 : Cond.fieldLink RX12 108 "PlainJavaModel" "kSort" "[I" ∈ lw_tbl := List.mem_of_getElem? (i := 1809) (by decide +kernel)
theorem mw_1810 : Cond.fieldLink RX12 111 "PlainJavaModel" "kFrom" "[I" ∈ lw_tbl := List.mem_of_getElem? (i := 1810) (by decide +kernel)
theorem mw_1811 : Cond.fieldLink RX12 114 "PlainJavaModel" "kCond" "[I" ∈ lw_tbl := List.mem_of_getElem? (i := 1811) (by decide +kernel)
theorem mw_1812 : Cond.fieldLink RX12 117 "PlainJavaModel" "kUpdate" "[I" ∈ lw_tbl := List.mem_of_getElem? (i := 1812) (by decide +kernel)
theorem mw_1813 : Cond.fieldLink RX12 120 "PlainJavaModel" "kBody" "[I" ∈ lw_tbl := List.mem_of_getElem? (i := 1813) (by decide +kernel)
theorem mw_1814 : Cond.fieldLink RX12 123 "PlainJavaModel" "kEnd" "[I" ∈ lw_tbl := List.mem_of_getElem? (i := 1814) (by decide +kernel)
theorem mw_1815 : Cond.fieldLink RX12 126 "PlainJavaModel" "kElse" "[I" ∈ lw_tbl := List.mem_of_getElem? (i := 1815) (by decide +kernel)
theorem mw_1816 : Cond.fieldLink RX12 129 "PlainJavaModel" "kCatch" "[I" ∈ lw_tbl := List.mem_of_getElem? (i := 1816) (by decide +kernel)
theorem mw_1817 : Cond.fieldLink RX12 132 "PlainJavaModel" "kFinally" "[I" ∈ lw_tbl := List.mem_of_getElem? (i := 1817) (by decide +kernel)
theorem mw_1818 : Cond.fieldLink RX12 135 "PlainJavaModel" "kDefault" "[I" ∈ lw_tbl := List.mem_of_getElem? (i := 1818) (by decide +kernel)
theorem mw_1819 : Cond.fieldLink RX12 138 "PlainJavaModel" "kToken" "[I" ∈ lw_tbl := List.mem_of_getElem? (i := 1819) (by decide +kernel)
theorem mw_1820 : Cond.fieldLink RX12 141 "PlainJavaModel" "kVariable" "[I" ∈ lw_tbl := List.mem_of_getElem? (i := 1820) (by decide +kernel)
theorem mw_1822 : Cond.fieldLink RX12 144 "PlainJavaModel" "fSort" "[I" ∈ lw_tbl := List.mem_of_getElem? (i := 1822) (by decide +kernel)
theorem mw_1823 : Cond.fieldLink RX12 147 "PlainJavaModel" "fThing" "[I" ∈ lw_tbl := List.mem_of_getElem? (i := 1823) (by decide +kernel)
theorem mw_1824 : Cond.fieldLink RX12 150 "PlainJavaModel" "fStep" "[I" ∈ lw_tbl := List.mem_of_getElem? (i := 1824) (by decide +kernel)
theorem mw_1825 : Cond.fieldLink RX12 634 "PlainJavaModel" "error" "I" ∈ lw_tbl := List.mem_of_getElem? (i := 1825) (by decide +kernel)
theorem mw_1826 : Cond.fieldLink RX12 637 "PlainJavaModel" "errorAt" "I" ∈ lw_tbl := List.mem_of_getElem? (i := 1826) (by decide +kernel)
theorem mw_1827 : Cond.fieldLink RX12 675 "PlainJavaModel" "judged" "Z" ∈ lw_tbl := List.mem_of_getElem? (i := 1827) (by decide +kernel)
theorem mw_1828 : Cond.fieldLink RX12 656 "PlainJavaModel" "lies" "I" ∈ lw_tbl := List.mem_of_getElem? (i := 1828) (by decide +kernel)
theorem mw_1829 : Cond.fieldLink RX12 153 "PlainJavaModel" "sType" "[I" ∈ lw_tbl := List.mem_of_getElem? (i := 1829) (by decide +kernel)
theorem mw_1830 : Cond.fieldLink RX12 156 "PlainJavaModel" "sSure" "[Z" ∈ lw_tbl := List.mem_of_getElem? (i := 1830) (by decide +kernel)
theorem mw_1831 : Cond.fieldLink RX12 159 "PlainJavaModel" "sValue" "[J" ∈ lw_tbl := List.mem_of_getElem? (i := 1831) (by decide +kernel)
theorem mw_1832 : Cond.fieldLink RX12 162 "PlainJavaModel" "sFirst" "[I" ∈ lw_tbl := List.mem_of_getElem? (i := 1832) (by decide +kernel)
theorem mw_1833 : Cond.fieldLink RX12 659 "PlainJavaModel" "exps0" "I" ∈ lw_tbl := List.mem_of_getElem? (i := 1833) (by decide +kernel)
theorem mw_1834 : Cond.fieldLink RX12 165 "PlainJavaModel" "xFirst" "[I" ∈ lw_tbl := List.mem_of_getElem? (i := 1834) (by decide +kernel)
theorem mw_1835 : Cond.fieldLink RX12 168 "PlainJavaModel" "xLast" "[I" ∈ lw_tbl := List.mem_of_getElem? (i := 1835) (by decide +kernel)
theorem mw_1836 : Cond.fieldLink RX12 171 "PlainJavaModel" "xType" "[I" ∈ lw_tbl := List.mem_of_getElem? (i := 1836) (by decide +kernel)
theorem mw_1837 : Cond.fieldLink RX12 174 "PlainJavaModel" "xSure" "[Z" ∈ lw_tbl := List.mem_of_getElem? (i := 1837) (by decide +kernel)
theorem mw_1838 : Cond.fieldLink RX12 177 "PlainJavaModel" "xValue" "[J" ∈ lw_tbl := List.mem_of_getElem? (i := 1838) (by decide +kernel)
theorem mw_1839 : Cond.fieldLink RX12 180 "PlainJavaModel" "tMean" "[I" ∈ lw_tbl := List.mem_of_getElem? (i := 1839) (by decide +kernel)
theorem mw_1840 : Cond.fieldLink RX12 183 "PlainJavaModel" "cType" "[I" ∈ lw_tbl := List.mem_of_getElem? (i := 1840) (by decide +kernel)
theorem mw_1841 : Cond.fieldLink RX12 186 "PlainJavaModel" "cWork" "[I" ∈ lw_tbl := List.mem_of_getElem? (i := 1841) (by decide +kernel)
theorem mw_1842 : Cond.fieldLink RX12 189 "PlainJavaModel" "cWhat" "[I" ∈ lw_tbl := List.mem_of_getElem? (i := 1842) (by decide +kernel)
theorem mw_1843 : Cond.fieldLink RX12 192 "PlainJavaModel" "cSure" "[Z" ∈ lw_tbl := List.mem_of_getElem? (i := 1843) (by decide +kernel)
theorem mw_1844 : Cond.fieldLink RX12 195 "PlainJavaModel" "cValue" "[J" ∈ lw_tbl := List.mem_of_getElem? (i := 1844) (by decide +kernel)
theorem mw_1845 : Cond.fieldLink RX12 198 "PlainJavaModel" "vSure" "[Z" ∈ lw_tbl := List.mem_of_getElem? (i := 1845) (by decide +kernel)
theorem mw_1846 : Cond.fieldLink RX12 201 "PlainJavaModel" "vValue" "[J" ∈ lw_tbl := List.mem_of_getElem? (i := 1846) (by decide +kernel)
theorem mw_1847 : Cond.fieldLink RX12 204 "PlainJavaModel" "kType" "[I" ∈ lw_tbl := List.mem_of_getElem? (i := 1847) (by decide +kernel)
theorem mw_1848 : Cond.fieldLink RX12 640 "PlainJavaModel" "inMethod" "I" ∈ lw_tbl := List.mem_of_getElem? (i := 1848) (by decide +kernel)
theorem mw_1849 : Cond.fieldLink RX12 207 "PlainJavaModel" "labels" "[I" ∈ lw_tbl := List.mem_of_getElem? (i := 1849) (by decide +kernel)
theorem mw_1851 : Cond.fieldLink RX12 833 "PlainJavaModel" "alive" "Z" ∈ lw_tbl := List.mem_of_getElem? (i := 1851) (by decide +kernel)
theorem mw_1852 : Cond.fieldLink RX12 802 "PlainJavaModel" "whenTrue" "J" ∈ lw_tbl := List.mem_of_getElem? (i := 1852) (by decide +kernel)
theorem mw_1853 : Cond.fieldLink RX12 806 "PlainJavaModel" "whenFalse" "J" ∈ lw_tbl := List.mem_of_getElem? (i := 1853) (by decide +kernel)
theorem mw_1854 : Cond.fieldLink RX12 210 "PlainJavaModel" "kAlive" "[Z" ∈ lw_tbl := List.mem_of_getElem? (i := 1854) (by decide +kernel)
theorem mw_1855 : Cond.fieldLink RX12 213 "PlainJavaModel" "kBits" "[J" ∈ lw_tbl := List.mem_of_getElem? (i := 1855) (by decide +kernel)
theorem mw_1856 : Cond.fieldLink RX12 216 "PlainJavaModel" "kOther" "[Z" ∈ lw_tbl := List.mem_of_getElem? (i := 1856) (by decide +kernel)
theorem mw_1857 : Cond.fieldLink RX12 219 "PlainJavaModel" "kOtherBits" "[J" ∈ lw_tbl := List.mem_of_getElem? (i := 1857) (by decide +kernel)
theorem mw_1858 : Cond.fieldLink RX12 222 "PlainJavaModel" "kBefore" "[J" ∈ lw_tbl := List.mem_of_getElem? (i := 1858) (by decide +kernel)
theorem mw_1859 : Cond.fieldLink RX12 815 "PlainJavaModel" "opened" "I" ∈ lw_tbl := List.mem_of_getElem? (i := 1859) (by decide +kernel)
theorem mw_1860 : Cond.fieldLink RX12 225 "PlainJavaModel" "openTrue" "[J" ∈ lw_tbl := List.mem_of_getElem? (i := 1860) (by decide +kernel)
theorem mw_1861 : Cond.fieldLink RX12 228 "PlainJavaModel" "openFalse" "[J" ∈ lw_tbl := List.mem_of_getElem? (i := 1861) (by decide +kernel)
theorem mw_1862 : Cond.fieldLink RX12 812 "PlainJavaModel" "jumps" "I" ∈ lw_tbl := List.mem_of_getElem? (i := 1862) (by decide +kernel)
theorem mw_1863 : Cond.fieldLink RX12 231 "PlainJavaModel" "jTo" "[I" ∈ lw_tbl := List.mem_of_getElem? (i := 1863) (by decide +kernel)
theorem mw_1864 : Cond.fieldLink RX12 234 "PlainJavaModel" "jOn" "[Z" ∈ lw_tbl := List.mem_of_getElem? (i := 1864) (by decide +kernel)
theorem mw_1865 : Cond.fieldLink RX12 237 "PlainJavaModel" "jFrom" "[I" ∈ lw_tbl := List.mem_of_getElem? (i := 1865) (by decide +kernel)
theorem mw_1866 : Cond.fieldLink RX12 240 "PlainJavaModel" "jAlive" "[Z" ∈ lw_tbl := List.mem_of_getElem? (i := 1866) (by decide +kernel)
theorem mw_1867 : Cond.fieldLink RX12 243 "PlainJavaModel" "jBits" "[J" ∈ lw_tbl := List.mem_of_getElem? (i := 1867) (by decide +kernel)
theorem mw_1868 : Cond.fieldLink RX12 246 "PlainJavaModel" "isS" "[Z" ∈ lw_tbl := List.mem_of_getElem? (i := 1868) (by decide +kernel)
theorem mw_1869 : Cond.fieldLink RX12 249 "PlainJavaModel" "sBits" "[J" ∈ lw_tbl := List.mem_of_getElem? (i := 1869) (by decide +kernel)
theorem mw_1870 : Cond.fieldLink RX12 252 "PlainJavaModel" "sEnds" "[Z" ∈ lw_tbl := List.mem_of_getElem? (i := 1870) (by decide +kernel)
theorem mw_1871 : Cond.fieldLink RX12 796 "PlainJavaModel" "late" "I" ∈ lw_tbl := List.mem_of_getElem? (i := 1871) (by decide +kernel)
theorem mw_1873 : Cond.fieldLink RX12 809 "PlainJavaModel" "unset" "I" ∈ lw_tbl := List.mem_of_getElem? (i := 1873) (by decide +kernel)
theorem mw_1876 : Cond.fieldLink RX12 818 "PlainJavaModel" "deadStep" "I" ∈ lw_tbl := List.mem_of_getElem? (i := 1876) (by decide +kernel)
theorem mw_1877 : Cond.fieldLink RX12 255 "PlainJavaModel" "kept" "[I" ∈ lw_tbl := List.mem_of_getElem? (i := 1877) (by decide +kernel)
theorem mw_1878 : Cond.fieldLink RX12 875 "PlainJavaModel" "keptSize" "I" ∈ lw_tbl := List.mem_of_getElem? (i := 1878) (by decide +kernel)
theorem mw_1879 : Cond.fieldLink RX12 258 "PlainJavaModel" "placed" "I" ∈ lw_tbl := List.mem_of_getElem? (i := 1879) (by decide +kernel)
theorem mw_1880 : Cond.fieldLink RX12 878 "PlainJavaModel" "ran" "Z" ∈ lw_tbl := List.mem_of_getElem? (i := 1880) (by decide +kernel)
theorem mw_1881 : Cond.fieldLink RX12 262 "PlainJavaModel" "input" "[I" ∈ lw_tbl := List.mem_of_getElem? (i := 1881) (by decide +kernel)
theorem mw_1882 : Cond.fieldLink RX12 890 "PlainJavaModel" "inputs" "I" ∈ lw_tbl := List.mem_of_getElem? (i := 1882) (by decide +kernel)
theorem mw_1883 : Cond.fieldLink RX12 265 "PlainJavaModel" "argument" "[J" ∈ lw_tbl := List.mem_of_getElem? (i := 1883) (by decide +kernel)
theorem mw_1884 : Cond.fieldLink RX12 268 "PlainJavaModel" "cLink" "[I" ∈ lw_tbl := List.mem_of_getElem? (i := 1884) (by decide +kernel)
theorem mw_1885 : Cond.fieldLink RX12 271 "PlainJavaModel" "linked" "[I" ∈ lw_tbl := List.mem_of_getElem? (i := 1885) (by decide +kernel)
theorem mw_1886 : Cond.fieldLink RX12 274 "PlainJavaModel" "pile" "[J" ∈ lw_tbl := List.mem_of_getElem? (i := 1886) (by decide +kernel)
theorem mw_1889 : Cond.fieldLink RX12 277 "PlainJavaModel" "own" "[J" ∈ lw_tbl := List.mem_of_getElem? (i := 1889) (by decide +kernel)
theorem mw_1890 : Cond.fieldLink RX12 280 "PlainJavaModel" "backTo" "[I" ∈ lw_tbl := List.mem_of_getElem? (i := 1890) (by decide +kernel)
theorem mw_1891 : Cond.fieldLink RX12 283 "PlainJavaModel" "callOf" "[I" ∈ lw_tbl := List.mem_of_getElem? (i := 1891) (by decide +kernel)
theorem mw_1893 : Cond.fieldLink RX12 286 "PlainJavaModel" "yThing" "[I" ∈ lw_tbl := List.mem_of_getElem? (i := 1893) (by decide +kernel)
theorem mw_1894 : Cond.fieldLink RX12 289 "PlainJavaModel" "yCall" "[I" ∈ lw_tbl := List.mem_of_getElem? (i := 1894) (by decide +kernel)
theorem mw_1895 : Cond.fieldLink RX12 292 "PlainJavaModel" "yHeight" "[I" ∈ lw_tbl := List.mem_of_getElem? (i := 1895) (by decide +kernel)
theorem mw_1896 : Cond.fieldLink RX12 295 "PlainJavaModel" "yState" "[I" ∈ lw_tbl := List.mem_of_getElem? (i := 1896) (by decide +kernel)
theorem mw_1897 : Cond.fieldLink RX12 298 "PlainJavaModel" "yKind" "[I" ∈ lw_tbl := List.mem_of_getElem? (i := 1897) (by decide +kernel)
theorem mw_1898 : Cond.fieldLink RX12 301 "PlainJavaModel" "yTo" "[I" ∈ lw_tbl := List.mem_of_getElem? (i := 1898) (by decide +kernel)
theorem mw_1899 : Cond.fieldLink RX12 304 "PlainJavaModel" "yValue" "[J" ∈ lw_tbl := List.mem_of_getElem? (i := 1899) (by decide +kernel)
theorem mw_1908 : Cond.fieldLink RX12 307 "PlainJavaModel" "toldNumber" "[J" ∈ lw_tbl := List.mem_of_getElem? (i := 1908) (by decide +kernel)
theorem mw_2210 : Cond.arrayClass .boolean ∈ lw_tbl := List.mem_of_getElem? (i := 2210) (by decide +kernel)
theorem mw_2211 : Cond.methodLink RL 17 yX12_feed ∈ lw_tbl := List.mem_of_getElem? (i := 2211) (by decide +kernel)
theorem mw_2212 : Cond.instanceMethod yX12_feed ∈ lw_tbl := List.mem_of_getElem? (i := 2212) (by decide +kernel)
theorem mw_2213 : Cond.selects RX12 yX12_feed yX12_feed ∈ lw_tbl := List.mem_of_getElem? (i := 2213) (by decide +kernel)
set_option maxRecDepth 100000 in
theorem mw_2214 : Cond.code yX12_feed cX12_feed 6 (some .int) ∈ lw_tbl := List.mem_of_getElem? (i := 2214) rfl
theorem mw_2215 : Cond.methodLink RX12 313 yX12_lay ∈ lw_tbl := List.mem_of_getElem? (i := 2215) (by decide +kernel)
theorem mw_2217 : Cond.instanceMethod yX12_lay ∈ lw_tbl := List.mem_of_getElem? (i := 2217) (by decide +kernel)
set_option maxRecDepth 100000 in
theorem mw_2218 : Cond.code yX12_lay cX12_lay 3 none ∈ lw_tbl := List.mem_of_getElem? (i := 2218) rfl
theorem mw_2219 : Cond.methodLink RL 22 yX12_cut ∈ lw_tbl := List.mem_of_getElem? (i := 2219) (by decide +kernel)
theorem mw_2220 : Cond.instanceMethod yX12_cut ∈ lw_tbl := List.mem_of_getElem? (i := 2220) (by decide +kernel)
theorem mw_2221 : Cond.selects RX12 yX12_cut yX12_cut ∈ lw_tbl := List.mem_of_getElem? (i := 2221) (by decide +kernel)
set_option maxRecDepth 100000 in
theorem mw_2222 : Cond.code yX12_cut cX12_cut 2 (some .int) ∈ lw_tbl := List.mem_of_getElem? (i := 2222) rfl
theorem mw_2223 : Cond.methodLink RL 27 yX12_read ∈ lw_tbl := List.mem_of_getElem? (i := 2223) (by decide +kernel)
theorem mw_2224 : Cond.instanceMethod yX12_read ∈ lw_tbl := List.mem_of_getElem? (i := 2224) (by decide +kernel)
theorem mw_2225 : Cond.selects RX12 yX12_read yX12_read ∈ lw_tbl := List.mem_of_getElem? (i := 2225) (by decide +kernel)
set_option maxRecDepth 100000 in
theorem mw_2226 : Cond.code yX12_read cX12_read 5 (some .int) ∈ lw_tbl := List.mem_of_getElem? (i := 2226) rfl
theorem mw_2227 : Cond.methodLink RX12 869 yX12_lexer ∈ lw_tbl := List.mem_of_getElem? (i := 2227) (by decide +kernel)
theorem mw_2229 : Cond.instanceMethod yX12_lexer ∈ lw_tbl := List.mem_of_getElem? (i := 2229) (by decide +kernel)
set_option maxRecDepth 100000 in
theorem mw_2230 : Cond.code yX12_lexer cX12_lexer 4 none ∈ lw_tbl := List.mem_of_getElem? (i := 2230) rfl
theorem mw_2290 : Cond.methodLink RX12 872 yX12_parse ∈ lw_tbl := List.mem_of_getElem? (i := 2290) (by decide +kernel)
theorem mw_2292 : Cond.instanceMethod yX12_parse ∈ lw_tbl := List.mem_of_getElem? (i := 2292) (by decide +kernel)
set_option maxRecDepth 100000 in
theorem mw_2293 : Cond.code yX12_parse cX12_parse 1 (some .boolean) ∈ lw_tbl := List.mem_of_getElem? (i := 2293) rfl
theorem mw_2522 : Cond.methodLink RX12 881 yX12_judgeAll ∈ lw_tbl := List.mem_of_getElem? (i := 2522) (by decide +kernel)
theorem mw_2524 : Cond.instanceMethod yX12_judgeAll ∈ lw_tbl := List.mem_of_getElem? (i := 2524) (by decide +kernel)
set_option maxRecDepth 100000 in
theorem mw_2525 : Cond.code yX12_judgeAll cX12_judgeAll 2 none ∈ lw_tbl := List.mem_of_getElem? (i := 2525) rfl
theorem mw_2526 : Cond.methodLink RX12 678 yX12_methodsTold ∈ lw_tbl := List.mem_of_getElem? (i := 2526) (by decide +kernel)
theorem mw_2528 : Cond.instanceMethod yX12_methodsTold ∈ lw_tbl := List.mem_of_getElem? (i := 2528) (by decide +kernel)
set_option maxRecDepth 100000 in
theorem mw_2529 : Cond.code yX12_methodsTold cX12_methodsTold 6 none ∈ lw_tbl := List.mem_of_getElem? (i := 2529) rfl
theorem mw_2690 : Cond.methodLink RX12 690 yX12_flow ∈ lw_tbl := List.mem_of_getElem? (i := 2690) (by decide +kernel)
theorem mw_2692 : Cond.instanceMethod yX12_flow ∈ lw_tbl := List.mem_of_getElem? (i := 2692) (by decide +kernel)
set_option maxRecDepth 100000 in
theorem mw_2693 : Cond.code yX12_flow cX12_flow 3 none ∈ lw_tbl := List.mem_of_getElem? (i := 2693) rfl
theorem mw_2694 : Cond.methodLink RX12 821 yX12_start ∈ lw_tbl := List.mem_of_getElem? (i := 2694) (by decide +kernel)
theorem mw_2696 : Cond.instanceMethod yX12_start ∈ lw_tbl := List.mem_of_getElem? (i := 2696) (by decide +kernel)
set_option maxRecDepth 100000 in
theorem mw_2697 : Cond.code yX12_start cX12_start 5 none ∈ lw_tbl := List.mem_of_getElem? (i := 2697) rfl
theorem mw_2698 : Cond.methodLink RX12 836 yX12_be ∈ lw_tbl := List.mem_of_getElem? (i := 2698) (by decide +kernel)
theorem mw_2700 : Cond.instanceMethod yX12_be ∈ lw_tbl := List.mem_of_getElem? (i := 2700) (by decide +kernel)
set_option maxRecDepth 100000 in
theorem mw_2701 : Cond.code yX12_be cX12_be 3 none ∈ lw_tbl := List.mem_of_getElem? (i := 2701) rfl
theorem mw_2742 : Cond.methodLink RL 31 yX12_place ∈ lw_tbl := List.mem_of_getElem? (i := 2742) (by decide +kernel)
theorem mw_2743 : Cond.instanceMethod yX12_place ∈ lw_tbl := List.mem_of_getElem? (i := 2743) (by decide +kernel)
theorem mw_2744 : Cond.selects RX12 yX12_place yX12_place ∈ lw_tbl := List.mem_of_getElem? (i := 2744) (by decide +kernel)
set_option maxRecDepth 100000 in
theorem mw_2745 : Cond.code yX12_place cX12_place 1 (some .int) ∈ lw_tbl := List.mem_of_getElem? (i := 2745) rfl
theorem mw_2746 : Cond.methodLink RL 35 yX12_judge ∈ lw_tbl := List.mem_of_getElem? (i := 2746) (by decide +kernel)
theorem mw_2747 : Cond.instanceMethod yX12_judge ∈ lw_tbl := List.mem_of_getElem? (i := 2747) (by decide +kernel)
theorem mw_2748 : Cond.selects RX12 yX12_judge yX12_judge ∈ lw_tbl := List.mem_of_getElem? (i := 2748) (by decide +kernel)
set_option maxRecDepth 100000 in
theorem mw_2749 : Cond.code yX12_judge cX12_judge 2 (some .int) ∈ lw_tbl := List.mem_of_getElem? (i := 2749) rfl
theorem mw_2750 : Cond.methodLink RX12 884 yX12_isGood ∈ lw_tbl := List.mem_of_getElem? (i := 2750) (by decide +kernel)
theorem mw_2752 : Cond.instanceMethod yX12_isGood ∈ lw_tbl := List.mem_of_getElem? (i := 2752) (by decide +kernel)
set_option maxRecDepth 100000 in
theorem mw_2753 : Cond.code yX12_isGood cX12_isGood 1 (some .boolean) ∈ lw_tbl := List.mem_of_getElem? (i := 2753) rfl
theorem mw_2754 : Cond.methodLink RL 39 yX12_told_ ∈ lw_tbl := List.mem_of_getElem? (i := 2754) (by decide +kernel)
theorem mw_2755 : Cond.instanceMethod yX12_told_ ∈ lw_tbl := List.mem_of_getElem? (i := 2755) (by decide +kernel)
theorem mw_2756 : Cond.selects RX12 yX12_told_ yX12_told_ ∈ lw_tbl := List.mem_of_getElem? (i := 2756) (by decide +kernel)
set_option maxRecDepth 100000 in
theorem mw_2757 : Cond.code yX12_told_ cX12_told_ 2 (some .int) ∈ lw_tbl := List.mem_of_getElem? (i := 2757) rfl
theorem mw_2758 : Cond.methodLink RX12 887 yX12_tokens ∈ lw_tbl := List.mem_of_getElem? (i := 2758) (by decide +kernel)
theorem mw_2760 : Cond.instanceMethod yX12_tokens ∈ lw_tbl := List.mem_of_getElem? (i := 2760) (by decide +kernel)
set_option maxRecDepth 100000 in
theorem mw_2761 : Cond.code yX12_tokens cX12_tokens 1 (some .int) ∈ lw_tbl := List.mem_of_getElem? (i := 2761) rfl
theorem mw_2762 : Cond.methodLink RL 44 yX12_token ∈ lw_tbl := List.mem_of_getElem? (i := 2762) (by decide +kernel)
theorem mw_2763 : Cond.instanceMethod yX12_token ∈ lw_tbl := List.mem_of_getElem? (i := 2763) (by decide +kernel)
theorem mw_2764 : Cond.selects RX12 yX12_token yX12_token ∈ lw_tbl := List.mem_of_getElem? (i := 2764) (by decide +kernel)
set_option maxRecDepth 100000 in
theorem mw_2765 : Cond.code yX12_token cX12_token 3 (some .int) ∈ lw_tbl := List.mem_of_getElem? (i := 2765) rfl
theorem mw_2766 : Cond.methodLink RX12 893 yX12_isToken ∈ lw_tbl := List.mem_of_getElem? (i := 2766) (by decide +kernel)
theorem mw_2768 : Cond.instanceMethod yX12_isToken ∈ lw_tbl := List.mem_of_getElem? (i := 2768) (by decide +kernel)
set_option maxRecDepth 100000 in
theorem mw_2769 : Cond.code yX12_isToken cX12_isToken 2 (some .boolean) ∈ lw_tbl := List.mem_of_getElem? (i := 2769) rfl
theorem mw_2770 : Cond.methodLink RL 48 yX12_method_ ∈ lw_tbl := List.mem_of_getElem? (i := 2770) (by decide +kernel)
theorem mw_2771 : Cond.instanceMethod yX12_method_ ∈ lw_tbl := List.mem_of_getElem? (i := 2771) (by decide +kernel)
theorem mw_2772 : Cond.selects RX12 yX12_method_ yX12_method_ ∈ lw_tbl := List.mem_of_getElem? (i := 2772) (by decide +kernel)
set_option maxRecDepth 100000 in
theorem mw_2773 : Cond.code yX12_method_ cX12_method_ 3 (some .int) ∈ lw_tbl := List.mem_of_getElem? (i := 2773) rfl
theorem mw_2774 : Cond.methodLink RL 52 yX12_variable_ ∈ lw_tbl := List.mem_of_getElem? (i := 2774) (by decide +kernel)
theorem mw_2775 : Cond.instanceMethod yX12_variable_ ∈ lw_tbl := List.mem_of_getElem? (i := 2775) (by decide +kernel)
theorem mw_2776 : Cond.selects RX12 yX12_variable_ yX12_variable_ ∈ lw_tbl := List.mem_of_getElem? (i := 2776) (by decide +kernel)
set_option maxRecDepth 100000 in
theorem mw_2777 : Cond.code yX12_variable_ cX12_variable_ 3 (some .int) ∈ lw_tbl := List.mem_of_getElem? (i := 2777) rfl
theorem mw_2778 : Cond.methodLink RL 56 yX12_means ∈ lw_tbl := List.mem_of_getElem? (i := 2778) (by decide +kernel)
theorem mw_2779 : Cond.instanceMethod yX12_means ∈ lw_tbl := List.mem_of_getElem? (i := 2779) (by decide +kernel)
theorem mw_2780 : Cond.selects RX12 yX12_means yX12_means ∈ lw_tbl := List.mem_of_getElem? (i := 2780) (by decide +kernel)
set_option maxRecDepth 100000 in
theorem mw_2781 : Cond.code yX12_means cX12_means 2 (some .int) ∈ lw_tbl := List.mem_of_getElem? (i := 2781) rfl
theorem mw_2782 : Cond.methodLink RL 60 yX12_type ∈ lw_tbl := List.mem_of_getElem? (i := 2782) (by decide +kernel)
theorem mw_2783 : Cond.instanceMethod yX12_type ∈ lw_tbl := List.mem_of_getElem? (i := 2783) (by decide +kernel)
theorem mw_2784 : Cond.selects RX12 yX12_type yX12_type ∈ lw_tbl := List.mem_of_getElem? (i := 2784) (by decide +kernel)
set_option maxRecDepth 100000 in
theorem mw_2785 : Cond.code yX12_type cX12_type 4 (some .int) ∈ lw_tbl := List.mem_of_getElem? (i := 2785) rfl
theorem mw_2786 : Cond.methodLink RX12 896 yX12_expAt ∈ lw_tbl := List.mem_of_getElem? (i := 2786) (by decide +kernel)
theorem mw_2788 : Cond.instanceMethod yX12_expAt ∈ lw_tbl := List.mem_of_getElem? (i := 2788) (by decide +kernel)
set_option maxRecDepth 100000 in
theorem mw_2789 : Cond.code yX12_expAt cX12_expAt 5 (some .int) ∈ lw_tbl := List.mem_of_getElem? (i := 2789) rfl
theorem mw_2790 : Cond.methodLink RL 65 yX12_constant ∈ lw_tbl := List.mem_of_getElem? (i := 2790) (by decide +kernel)
theorem mw_2791 : Cond.instanceMethod yX12_constant ∈ lw_tbl := List.mem_of_getElem? (i := 2791) (by decide +kernel)
theorem mw_2792 : Cond.selects RX12 yX12_constant yX12_constant ∈ lw_tbl := List.mem_of_getElem? (i := 2792) (by decide +kernel)
set_option maxRecDepth 100000 in
theorem mw_2793 : Cond.code yX12_constant cX12_constant 4 (some .long) ∈ lw_tbl := List.mem_of_getElem? (i := 2793) rfl
theorem mw_2794 : Cond.constantLong RX12 899 (-1234567890123) ∈ lw_tbl := List.mem_of_getElem? (i := 2794) (by decide +kernel)
theorem mw_2795 : Cond.methodLink RL 69 yX12_ends ∈ lw_tbl := List.mem_of_getElem? (i := 2795) (by decide +kernel)
theorem mw_2796 : Cond.instanceMethod yX12_ends ∈ lw_tbl := List.mem_of_getElem? (i := 2796) (by decide +kernel)
theorem mw_2797 : Cond.selects RX12 yX12_ends yX12_ends ∈ lw_tbl := List.mem_of_getElem? (i := 2797) (by decide +kernel)
set_option maxRecDepth 100000 in
theorem mw_2798 : Cond.code yX12_ends cX12_ends 2 (some .int) ∈ lw_tbl := List.mem_of_getElem? (i := 2798) rfl
theorem mw_2799 : Cond.methodLink RL 73 yX12_assigned ∈ lw_tbl := List.mem_of_getElem? (i := 2799) (by decide +kernel)
theorem mw_2800 : Cond.instanceMethod yX12_assigned ∈ lw_tbl := List.mem_of_getElem? (i := 2800) (by decide +kernel)
theorem mw_2801 : Cond.selects RX12 yX12_assigned yX12_assigned ∈ lw_tbl := List.mem_of_getElem? (i := 2801) (by decide +kernel)
set_option maxRecDepth 100000 in
theorem mw_2802 : Cond.code yX12_assigned cX12_assigned 3 (some .int) ∈ lw_tbl := List.mem_of_getElem? (i := 2802) rfl
theorem mw_2803 : Cond.methodLink RL 80 yX12_argument ∈ lw_tbl := List.mem_of_getElem? (i := 2803) (by decide +kernel)
theorem mw_2804 : Cond.instanceMethod yX12_argument ∈ lw_tbl := List.mem_of_getElem? (i := 2804) (by decide +kernel)
theorem mw_2805 : Cond.selects RX12 yX12_argument yX12_argument ∈ lw_tbl := List.mem_of_getElem? (i := 2805) (by decide +kernel)
set_option maxRecDepth 100000 in
theorem mw_2806 : Cond.code yX12_argument cX12_argument 4 (some .int) ∈ lw_tbl := List.mem_of_getElem? (i := 2806) rfl
theorem mw_2807 : Cond.methodLink RL 84 yX12_input ∈ lw_tbl := List.mem_of_getElem? (i := 2807) (by decide +kernel)
theorem mw_2808 : Cond.instanceMethod yX12_input ∈ lw_tbl := List.mem_of_getElem? (i := 2808) (by decide +kernel)
theorem mw_2809 : Cond.selects RX12 yX12_input yX12_input ∈ lw_tbl := List.mem_of_getElem? (i := 2809) (by decide +kernel)
set_option maxRecDepth 100000 in
theorem mw_2810 : Cond.code yX12_input cX12_input 2 (some .int) ∈ lw_tbl := List.mem_of_getElem? (i := 2810) rfl
theorem mw_2811 : Cond.methodLink RL 88 yX12_drain ∈ lw_tbl := List.mem_of_getElem? (i := 2811) (by decide +kernel)
theorem mw_2812 : Cond.instanceMethod yX12_drain ∈ lw_tbl := List.mem_of_getElem? (i := 2812) (by decide +kernel)
theorem mw_2813 : Cond.selects RX12 yX12_drain yX12_drain ∈ lw_tbl := List.mem_of_getElem? (i := 2813) (by decide +kernel)
set_option maxRecDepth 100000 in
theorem mw_2814 : Cond.code yX12_drain cX12_drain 2 (some .int) ∈ lw_tbl := List.mem_of_getElem? (i := 2814) rfl
theorem mw_2815 : Cond.methodLink RL 92 yX12_run ∈ lw_tbl := List.mem_of_getElem? (i := 2815) (by decide +kernel)
theorem mw_2816 : Cond.instanceMethod yX12_run ∈ lw_tbl := List.mem_of_getElem? (i := 2816) (by decide +kernel)
theorem mw_2817 : Cond.selects RX12 yX12_run yX12_run ∈ lw_tbl := List.mem_of_getElem? (i := 2817) (by decide +kernel)
set_option maxRecDepth 100000 in
theorem mw_2818 : Cond.code yX12_run cX12_run 4 (some .int) ∈ lw_tbl := List.mem_of_getElem? (i := 2818) rfl
theorem mw_2887 : Cond.methodLink RL 97 yX12_ran ∈ lw_tbl := List.mem_of_getElem? (i := 2887) (by decide +kernel)
theorem mw_2888 : Cond.instanceMethod yX12_ran ∈ lw_tbl := List.mem_of_getElem? (i := 2888) (by decide +kernel)
theorem mw_2889 : Cond.selects RX12 yX12_ran yX12_ran ∈ lw_tbl := List.mem_of_getElem? (i := 2889) (by decide +kernel)
set_option maxRecDepth 100000 in
theorem mw_2890 : Cond.code yX12_ran cX12_ran 2 (some .long) ∈ lw_tbl := List.mem_of_getElem? (i := 2890) rfl
theorem mw_2891 : Cond.constantLong RL 74 (4294967295) ∈ lw_tbl := List.mem_of_getElem? (i := 2891) (by decide +kernel)
theorem mw_2913 : Cond.fieldLink RJ0 9 "java/lang/String" "value" "[B" ∈ lw_tbl := List.mem_of_getElem? (i := 2913) (by decide +kernel)
theorem mw_2914 : Cond.fieldLink RJ0 15 "java/lang/String" "coder" "B" ∈ lw_tbl := List.mem_of_getElem? (i := 2914) (by decide +kernel)
theorem it_Jx4a65c : ∀ w ∈ wsJx4a65c0, w ∈ lw_tbl := in_ps [179, 175, 177] (by decide +kernel)
theorem it_X0 : ∀ w ∈ wsX00, w ∈ lw_tbl := in_ps [497, 499, 501, 503, 505, 507, 509] (by decide +kernel)
theorem it_X1 : ∀ w ∈ wsX10, w ∈ lw_tbl := in_ps [980, 982, 984, 986, 988, 990, 992, 994, 996, 998, 1000, 1002, 1004, 1006, 1008, 1010, 1012, 1014] (by decide +kernel)
theorem it_X2 : ∀ w ∈ wsX20, w ∈ lw_tbl := in_ps [455, 457, 459, 461, 463] (by decide +kernel)
theorem it_X3 : ∀ w ∈ wsX30, w ∈ lw_tbl := in_ps [468, 470] (by decide +kernel)
theorem it_X4 : ∀ w ∈ wsX40, w ∈ lw_tbl := in_ps [540, 542, 544, 546, 548, 550, 552, 554, 556, 558, 560, 562, 564, 566, 568, 570, 572, 574, 576, 578, 580] (by decide +kernel)
theorem it_X5 : ∀ w ∈ wsX50, w ∈ lw_tbl := in_ps [342, 344, 346, 348, 350, 352, 354] (by decide +kernel)
theorem it_X6 : ∀ w ∈ wsX60, w ∈ lw_tbl := in_ps [391, 393, 395, 397, 399, 401, 403, 405, 407] (by decide +kernel)
theorem it_X7 : ∀ w ∈ wsX70, w ∈ lw_tbl := in_ps [423, 425, 427, 429, 431, 433, 435] (by decide +kernel)
theorem it_X8 : ∀ w ∈ wsX80, w ∈ lw_tbl := in_ps [272, 274, 276, 278, 280, 282, 284, 286, 288, 290, 292, 294, 296, 298, 300, 302, 304, 306, 308, 310, 312] (by decide +kernel)
theorem it_X9 : ∀ w ∈ wsX90, w ∈ lw_tbl := in_ps [134, 136, 138, 140, 142, 144, 146, 148, 150] (by decide +kernel)
theorem it_X10 : ∀ w ∈ wsX100, w ∈ lw_tbl := in_ps [824, 826, 828, 830, 832, 834, 836] (by decide +kernel)
theorem it_X11 : ∀ w ∈ wsX110, w ∈ lw_tbl := in_ps [596, 598, 600, 602, 604, 606, 608, 610, 612, 614, 616, 618, 620] (by decide +kernel)
theorem it_X12 : ∀ w ∈ wsX120, w ∈ lw_tbl := in_ps [1909, 1911, 1913, 1915, 1917, 1919, 1921, 1923, 1925, 1927, 1929, 1931, 1933, 1935, 1937, 1939, 1941, 1943, 1945, 1947, 1949, 1951, 1953, 1955, 1957, 1959, 1961, 1963, 1965, 1967, 1969, 1971, 1973, 1975, 1977, 1979, 1981, 1983, 1985, 1987, 1989, 1991, 1993, 1995, 1997, 1999, 2001, 2003, 2005, 2007, 2009, 2011, 2013, 2015, 2017, 2019, 2021, 2023, 2025, 2027, 2029, 2031, 2033, 2035, 2037, 2039, 2041, 2043, 2045, 2047, 2049, 2051, 2053, 2055, 2057, 2059, 2061, 2063, 2065, 2067, 2069, 2071, 2073, 2075, 2077, 2079, 2081, 2083, 2085, 2087, 2089, 2091, 2093, 2095, 2097, 2099, 2101, 2103, 2105, 2107, 2109, 2111, 2113, 2115, 2117, 2119, 2121, 2123, 2125, 2127, 2129, 2131, 2133, 2135, 2137, 2139, 2141, 2143, 2145, 2147, 2149, 2151, 2153, 2155, 2157, 2159, 2161, 2163, 2165, 2167, 2169, 2171, 2173, 2175, 2177, 2179, 2181, 2183, 2185, 2187, 2189, 2191, 2193, 2195, 2197, 2199, 2201, 2203, 2205, 2207] (by decide +kernel)
theorem wi_X8_init : ∀ w ∈ ww_X8_init, w ∈ lw_tbl := List.forall_mem_cons.mpr ⟨mw_196, List.forall_mem_append.mpr ⟨(List.forall_mem_cons.mpr ⟨mw_197, (List.forall_mem_cons.mpr ⟨mw_47, (List.forall_mem_cons.mpr ⟨mw_48, (List.forall_mem_cons.mpr ⟨mw_248, (List.forall_mem_cons.mpr ⟨mw_198, (List.forall_mem_cons.mpr ⟨mw_264, (List.forall_mem_cons.mpr ⟨mw_266, (List.forall_mem_cons.mpr ⟨mw_199, (List.forall_mem_cons.mpr ⟨mw_205, (List.forall_mem_cons.mpr ⟨mw_211, (List.forall_mem_cons.mpr ⟨mw_215, (List.forall_mem_cons.mpr ⟨mw_219, (fun _ h => absurd h List.not_mem_nil)⟩)⟩)⟩)⟩)⟩)⟩)⟩)⟩)⟩)⟩)⟩)⟩), it_X8⟩⟩
theorem wi_X5_init : ∀ w ∈ ww_X5_init, w ∈ lw_tbl := List.forall_mem_cons.mpr ⟨mw_190, List.forall_mem_append.mpr ⟨(List.forall_mem_cons.mpr ⟨mw_191, (List.forall_mem_cons.mpr ⟨mw_47, (List.forall_mem_cons.mpr ⟨mw_48, (List.forall_mem_cons.mpr ⟨mw_154, (List.forall_mem_cons.mpr ⟨mw_326, (List.forall_mem_cons.mpr ⟨mw_192, (List.forall_mem_cons.mpr ⟨mw_193, (List.forall_mem_cons.mpr ⟨mw_27, (List.forall_mem_cons.mpr ⟨mw_194, (List.forall_mem_cons.mpr ⟨mw_195, (List.forall_mem_cons.mpr ⟨mw_337, (List.forall_mem_cons.mpr ⟨mw_315, (List.forall_mem_cons.mpr ⟨mw_319, (List.forall_mem_cons.mpr ⟨mw_321, (List.forall_mem_cons.mpr ⟨mw_329, (fun _ h => absurd h List.not_mem_nil)⟩)⟩)⟩)⟩)⟩)⟩)⟩)⟩)⟩)⟩)⟩)⟩)⟩)⟩)⟩), (List.forall_mem_append.mpr ⟨it_X5, (List.forall_mem_append.mpr ⟨it_X8, wi_X8_init⟩)⟩)⟩⟩
theorem wi_X7_init : ∀ w ∈ ww_X7_init, w ∈ lw_tbl := List.forall_mem_cons.mpr ⟨mw_414, List.forall_mem_append.mpr ⟨(List.forall_mem_cons.mpr ⟨mw_415, (List.forall_mem_cons.mpr ⟨mw_47, (List.forall_mem_cons.mpr ⟨mw_48, (List.forall_mem_cons.mpr ⟨mw_416, (List.forall_mem_cons.mpr ⟨mw_362, (List.forall_mem_cons.mpr ⟨mw_417, (fun _ h => absurd h List.not_mem_nil)⟩)⟩)⟩)⟩)⟩)⟩), (List.forall_mem_append.mpr ⟨it_X7, it_X6⟩)⟩⟩
theorem wi_X2_init : ∀ w ∈ ww_X2_init, w ∈ lw_tbl := List.forall_mem_cons.mpr ⟨mw_448, List.forall_mem_append.mpr ⟨(List.forall_mem_cons.mpr ⟨mw_449, (List.forall_mem_cons.mpr ⟨mw_47, (List.forall_mem_cons.mpr ⟨mw_48, (List.forall_mem_cons.mpr ⟨mw_155, (List.forall_mem_cons.mpr ⟨mw_453, (List.forall_mem_cons.mpr ⟨mw_450, (fun _ h => absurd h List.not_mem_nil)⟩)⟩)⟩)⟩)⟩)⟩), it_X2⟩⟩
theorem wi_X3_init : ∀ w ∈ ww_X3_init, w ∈ lw_tbl := List.forall_mem_cons.mpr ⟨mw_442, List.forall_mem_append.mpr ⟨(List.forall_mem_cons.mpr ⟨mw_443, (List.forall_mem_cons.mpr ⟨mw_47, (List.forall_mem_cons.mpr ⟨mw_48, (List.forall_mem_cons.mpr ⟨mw_467, (List.forall_mem_cons.mpr ⟨mw_444, (List.forall_mem_cons.mpr ⟨mw_445, (List.forall_mem_cons.mpr ⟨mw_30, (List.forall_mem_cons.mpr ⟨mw_446, (List.forall_mem_cons.mpr ⟨mw_447, (List.forall_mem_cons.mpr ⟨mw_466, (fun _ h => absurd h List.not_mem_nil)⟩)⟩)⟩)⟩)⟩)⟩)⟩)⟩)⟩)⟩), (List.forall_mem_append.mpr ⟨it_X3, (List.forall_mem_append.mpr ⟨it_X2, wi_X2_init⟩)⟩)⟩⟩
theorem wi_X0_init : ∀ w ∈ ww_X0_init, w ∈ lw_tbl := List.forall_mem_cons.mpr ⟨mw_477, List.forall_mem_append.mpr ⟨(List.forall_mem_cons.mpr ⟨mw_478, (List.forall_mem_cons.mpr ⟨mw_47, (List.forall_mem_cons.mpr ⟨mw_48, (List.forall_mem_cons.mpr ⟨mw_154, (List.forall_mem_cons.mpr ⟨mw_484, (List.forall_mem_cons.mpr ⟨mw_486, (List.forall_mem_cons.mpr ⟨mw_479, (List.forall_mem_cons.mpr ⟨mw_488, (List.forall_mem_cons.mpr ⟨mw_481, (List.forall_mem_cons.mpr ⟨mw_490, (List.forall_mem_cons.mpr ⟨mw_193, (List.forall_mem_cons.mpr ⟨mw_27, (List.forall_mem_cons.mpr ⟨mw_483, (List.forall_mem_cons.mpr ⟨mw_195, (List.forall_mem_cons.mpr ⟨mw_496, (List.forall_mem_cons.mpr ⟨mw_494, (fun _ h => absurd h List.not_mem_nil)⟩)⟩)⟩)⟩)⟩)⟩)⟩)⟩)⟩)⟩)⟩)⟩)⟩)⟩)⟩)⟩), (List.forall_mem_append.mpr ⟨it_X0, (List.forall_mem_append.mpr ⟨it_X8, wi_X8_init⟩)⟩)⟩⟩
theorem wi_X4_init : ∀ w ∈ ww_X4_init, w ∈ lw_tbl := List.forall_mem_cons.mpr ⟨mw_516, List.forall_mem_append.mpr ⟨(List.forall_mem_cons.mpr ⟨mw_517, (List.forall_mem_cons.mpr ⟨mw_47, (List.forall_mem_cons.mpr ⟨mw_48, (List.forall_mem_cons.mpr ⟨mw_155, (List.forall_mem_cons.mpr ⟨mw_519, (List.forall_mem_cons.mpr ⟨mw_520, (List.forall_mem_cons.mpr ⟨mw_154, (List.forall_mem_cons.mpr ⟨mw_521, (List.forall_mem_cons.mpr ⟨mw_522, (List.forall_mem_cons.mpr ⟨mw_523, (List.forall_mem_cons.mpr ⟨mw_524, (List.forall_mem_cons.mpr ⟨mw_518, (List.forall_mem_cons.mpr ⟨mw_525, (List.forall_mem_cons.mpr ⟨mw_526, (List.forall_mem_cons.mpr ⟨mw_528, (List.forall_mem_cons.mpr ⟨mw_527, (fun _ h => absurd h List.not_mem_nil)⟩)⟩)⟩)⟩)⟩)⟩)⟩)⟩)⟩)⟩)⟩)⟩)⟩)⟩)⟩)⟩), it_X4⟩⟩
theorem wi_coder : ∀ w ∈ ww_coder, w ∈ lw_tbl := List.forall_mem_cons.mpr ⟨mw_69, List.forall_mem_append.mpr ⟨(List.forall_mem_cons.mpr ⟨mw_70, (List.forall_mem_cons.mpr ⟨mw_2914, (fun _ h => absurd h List.not_mem_nil)⟩)⟩), (fun _ h => absurd h List.not_mem_nil)⟩⟩
theorem wi_isLatin1 : ∀ w ∈ ww_isLatin1, w ∈ lw_tbl := List.forall_mem_cons.mpr ⟨mw_79, List.forall_mem_append.mpr ⟨(List.forall_mem_cons.mpr ⟨mw_70, (List.forall_mem_cons.mpr ⟨mw_2914, (fun _ h => absurd h List.not_mem_nil)⟩)⟩), (fun _ h => absurd h List.not_mem_nil)⟩⟩
theorem wi_length : ∀ w ∈ ww_length, w ∈ lw_tbl := List.forall_mem_cons.mpr ⟨mw_65, List.forall_mem_append.mpr ⟨(List.forall_mem_cons.mpr ⟨mw_2913, (fun _ h => absurd h List.not_mem_nil)⟩), (List.forall_mem_append.mpr ⟨wi_coder, (by unfold wsV; exact List.forall_mem_append.mpr ⟨(List.forall_mem_cons.mpr ⟨mw_66, (List.forall_mem_cons.mpr ⟨mw_67, (List.forall_mem_cons.mpr ⟨mw_68, (List.forall_mem_cons.mpr ⟨mw_19, (fun _ h => absurd h List.not_mem_nil)⟩)⟩)⟩)⟩), wi_coder⟩)⟩)⟩⟩
theorem wi_pcheckN : ∀ w ∈ ww_pcheckN, w ∈ lw_tbl := List.forall_mem_cons.mpr ⟨mw_90, List.forall_mem_append.mpr ⟨(fun _ h => absurd h List.not_mem_nil), (fun _ h => absurd h List.not_mem_nil)⟩⟩
theorem wi_pcheckR : ∀ w ∈ ww_pcheckR, w ∈ lw_tbl := List.forall_mem_cons.mpr ⟨mw_90, List.forall_mem_append.mpr ⟨(fun _ h => absurd h List.not_mem_nil), (fun _ h => absurd h List.not_mem_nil)⟩⟩
theorem wi_scheck : ∀ w ∈ ww_scheck, w ∈ lw_tbl := List.forall_mem_cons.mpr ⟨mw_85, List.forall_mem_append.mpr ⟨(List.forall_mem_cons.mpr ⟨mw_86, (fun _ h => absurd h List.not_mem_nil)⟩), (List.forall_mem_append.mpr ⟨wi_pcheckN, (List.forall_mem_append.mpr ⟨(by unfold va_wsS; exact List.forall_mem_append.mpr ⟨(List.forall_mem_cons.mpr ⟨mw_88, (List.forall_mem_cons.mpr ⟨mw_89, (List.forall_mem_cons.mpr ⟨mw_21, (fun _ h => absurd h List.not_mem_nil)⟩)⟩)⟩), wi_pcheckN⟩), (List.forall_mem_append.mpr ⟨wi_pcheckR, (by unfold va_wsS; exact List.forall_mem_append.mpr ⟨(List.forall_mem_cons.mpr ⟨mw_88, (List.forall_mem_cons.mpr ⟨mw_89, (List.forall_mem_cons.mpr ⟨mw_21, (fun _ h => absurd h List.not_mem_nil)⟩)⟩)⟩), wi_pcheckR⟩)⟩)⟩)⟩)⟩⟩
theorem wi_charAt1 : ∀ w ∈ ww_charAt1, w ∈ lw_tbl := List.forall_mem_cons.mpr ⟨mw_82, List.forall_mem_append.mpr ⟨(fun _ h => absurd h List.not_mem_nil), (List.forall_mem_append.mpr ⟨wi_scheck, (by unfold va_wsS; exact List.forall_mem_append.mpr ⟨(List.forall_mem_cons.mpr ⟨mw_83, (List.forall_mem_cons.mpr ⟨mw_84, (List.forall_mem_cons.mpr ⟨mw_19, (fun _ h => absurd h List.not_mem_nil)⟩)⟩)⟩), wi_scheck⟩)⟩)⟩⟩
theorem wi_charAt : ∀ w ∈ ww_charAt, w ∈ lw_tbl := List.forall_mem_cons.mpr ⟨mw_75, List.forall_mem_append.mpr ⟨(List.forall_mem_cons.mpr ⟨mw_2913, (fun _ h => absurd h List.not_mem_nil)⟩), (List.forall_mem_append.mpr ⟨wi_isLatin1, (List.forall_mem_append.mpr ⟨(by unfold wsV; exact List.forall_mem_append.mpr ⟨(List.forall_mem_cons.mpr ⟨mw_76, (List.forall_mem_cons.mpr ⟨mw_77, (List.forall_mem_cons.mpr ⟨mw_78, (List.forall_mem_cons.mpr ⟨mw_19, (fun _ h => absurd h List.not_mem_nil)⟩)⟩)⟩)⟩), wi_isLatin1⟩), (List.forall_mem_append.mpr ⟨wi_charAt1, (by unfold va_wsS; exact List.forall_mem_append.mpr ⟨(List.forall_mem_cons.mpr ⟨mw_80, (List.forall_mem_cons.mpr ⟨mw_81, (List.forall_mem_cons.mpr ⟨mw_20, (fun _ h => absurd h List.not_mem_nil)⟩)⟩)⟩), wi_charAt1⟩)⟩)⟩)⟩)⟩⟩
theorem wi_acinit : ∀ w ∈ ww_acinit, w ∈ lw_tbl := List.forall_mem_cons.mpr ⟨mw_166, List.forall_mem_append.mpr ⟨(List.forall_mem_cons.mpr ⟨mw_167, (List.forall_mem_cons.mpr ⟨mw_47, (List.forall_mem_cons.mpr ⟨mw_48, (fun _ h => absurd h List.not_mem_nil)⟩)⟩)⟩), (fun _ h => absurd h List.not_mem_nil)⟩⟩
theorem wi_alinit : ∀ w ∈ ww_alinit, w ∈ lw_tbl := List.forall_mem_cons.mpr ⟨mw_163, List.forall_mem_append.mpr ⟨(List.forall_mem_cons.mpr ⟨mw_23, (List.forall_mem_cons.mpr ⟨mw_164, (List.forall_mem_cons.mpr ⟨mw_165, (List.forall_mem_cons.mpr ⟨mw_172, (fun _ h => absurd h List.not_mem_nil)⟩)⟩)⟩)⟩), (List.forall_mem_append.mpr ⟨wi_acinit, it_Jx4a65c⟩)⟩⟩
theorem wi_listinit : ∀ w ∈ ww_listinit, w ∈ lw_tbl := List.forall_mem_cons.mpr ⟨mw_160, List.forall_mem_append.mpr ⟨(List.forall_mem_cons.mpr ⟨mw_24, (List.forall_mem_cons.mpr ⟨mw_161, (List.forall_mem_cons.mpr ⟨mw_162, (List.forall_mem_cons.mpr ⟨mw_168, (List.forall_mem_cons.mpr ⟨mw_170, (fun _ h => absurd h List.not_mem_nil)⟩)⟩)⟩)⟩)⟩), (List.forall_mem_append.mpr ⟨wi_alinit, it_Jx4a65c⟩)⟩⟩
theorem wi_listsize : ∀ w ∈ ww_listsize, w ∈ lw_tbl := List.forall_mem_cons.mpr ⟨mw_720, List.forall_mem_append.mpr ⟨(List.forall_mem_cons.mpr ⟨mw_171, (fun _ h => absurd h List.not_mem_nil)⟩), it_Jx4a65c⟩⟩
theorem wi_longerKey : ∀ w ∈ ww_longerKey, w ∈ lw_tbl := List.forall_mem_cons.mpr ⟨mw_112, List.forall_mem_append.mpr ⟨(fun _ h => absurd h List.not_mem_nil), (fun _ h => absurd h List.not_mem_nil)⟩⟩
theorem wi_keyOf : ∀ w ∈ ww_keyOf, w ∈ lw_tbl := List.forall_mem_cons.mpr ⟨mw_187, List.forall_mem_append.mpr ⟨(fun _ h => absurd h List.not_mem_nil), (List.forall_mem_append.mpr ⟨wi_length, (List.forall_mem_append.mpr ⟨(by unfold wsV; exact List.forall_mem_append.mpr ⟨(List.forall_mem_cons.mpr ⟨mw_62, (List.forall_mem_cons.mpr ⟨mw_63, (List.forall_mem_cons.mpr ⟨mw_64, (List.forall_mem_cons.mpr ⟨mw_19, (fun _ h => absurd h List.not_mem_nil)⟩)⟩)⟩)⟩), wi_length⟩), (List.forall_mem_append.mpr ⟨wi_charAt, (List.forall_mem_append.mpr ⟨(by unfold wsV; exact List.forall_mem_append.mpr ⟨(List.forall_mem_cons.mpr ⟨mw_72, (List.forall_mem_cons.mpr ⟨mw_73, (List.forall_mem_cons.mpr ⟨mw_74, (List.forall_mem_cons.mpr ⟨mw_19, (fun _ h => absurd h List.not_mem_nil)⟩)⟩)⟩)⟩), wi_charAt⟩), (List.forall_mem_append.mpr ⟨wi_longerKey, (by unfold va_wsS; exact List.forall_mem_append.mpr ⟨(List.forall_mem_cons.mpr ⟨mw_110, (List.forall_mem_cons.mpr ⟨mw_111, (List.forall_mem_cons.mpr ⟨mw_18, (fun _ h => absurd h List.not_mem_nil)⟩)⟩)⟩), wi_longerKey⟩)⟩)⟩)⟩)⟩)⟩)⟩⟩
theorem wi_X9_init : ∀ w ∈ ww_X9_init, w ∈ lw_tbl := List.forall_mem_cons.mpr ⟨mw_59, List.forall_mem_append.mpr ⟨(List.forall_mem_cons.mpr ⟨mw_60, (List.forall_mem_cons.mpr ⟨mw_47, (List.forall_mem_cons.mpr ⟨mw_48, (List.forall_mem_cons.mpr ⟨mw_154, (List.forall_mem_cons.mpr ⟨mw_113, (List.forall_mem_cons.mpr ⟨mw_117, (List.forall_mem_cons.mpr ⟨mw_119, (List.forall_mem_cons.mpr ⟨mw_122, (List.forall_mem_cons.mpr ⟨mw_155, (List.forall_mem_cons.mpr ⟨mw_126, (List.forall_mem_cons.mpr ⟨mw_131, (List.forall_mem_cons.mpr ⟨mw_153, (List.forall_mem_cons.mpr ⟨mw_132, (fun _ h => absurd h List.not_mem_nil)⟩)⟩)⟩)⟩)⟩)⟩)⟩)⟩)⟩)⟩)⟩)⟩)⟩), (List.forall_mem_append.mpr ⟨it_X9, (List.forall_mem_append.mpr ⟨wi_length, (List.forall_mem_append.mpr ⟨(by unfold wsV; exact List.forall_mem_append.mpr ⟨(List.forall_mem_cons.mpr ⟨mw_62, (List.forall_mem_cons.mpr ⟨mw_63, (List.forall_mem_cons.mpr ⟨mw_64, (List.forall_mem_cons.mpr ⟨mw_19, (fun _ h => absurd h List.not_mem_nil)⟩)⟩)⟩)⟩), wi_length⟩), (List.forall_mem_append.mpr ⟨wi_charAt, (List.forall_mem_append.mpr ⟨(by unfold wsV; exact List.forall_mem_append.mpr ⟨(List.forall_mem_cons.mpr ⟨mw_72, (List.forall_mem_cons.mpr ⟨mw_73, (List.forall_mem_cons.mpr ⟨mw_74, (List.forall_mem_cons.mpr ⟨mw_19, (fun _ h => absurd h List.not_mem_nil)⟩)⟩)⟩)⟩), wi_charAt⟩), (List.forall_mem_append.mpr ⟨wi_longerKey, (by unfold va_wsS; exact List.forall_mem_append.mpr ⟨(List.forall_mem_cons.mpr ⟨mw_110, (List.forall_mem_cons.mpr ⟨mw_111, (List.forall_mem_cons.mpr ⟨mw_18, (fun _ h => absurd h List.not_mem_nil)⟩)⟩)⟩), wi_longerKey⟩)⟩)⟩)⟩)⟩)⟩)⟩)⟩⟩
theorem wi_addParam : ∀ w ∈ ww_addParam, w ∈ lw_tbl := List.forall_mem_cons.mpr ⟨mw_361, List.forall_mem_append.mpr ⟨(List.forall_mem_cons.mpr ⟨mw_332, (List.forall_mem_cons.mpr ⟨mw_326, (fun _ h => absurd h List.not_mem_nil)⟩)⟩), it_X5⟩⟩
theorem wi_X6_init : ∀ w ∈ ww_X6_init, w ∈ lw_tbl := List.forall_mem_cons.mpr ⟨mw_53, List.forall_mem_append.mpr ⟨(List.forall_mem_cons.mpr ⟨mw_54, (List.forall_mem_cons.mpr ⟨mw_47, (List.forall_mem_cons.mpr ⟨mw_48, (List.forall_mem_cons.mpr ⟨mw_55, (List.forall_mem_cons.mpr ⟨mw_56, (List.forall_mem_cons.mpr ⟨mw_18, (List.forall_mem_cons.mpr ⟨mw_57, (List.forall_mem_cons.mpr ⟨mw_58, (List.forall_mem_cons.mpr ⟨mw_363, (List.forall_mem_cons.mpr ⟨mw_156, (List.forall_mem_cons.mpr ⟨mw_157, (List.forall_mem_cons.mpr ⟨mw_25, (List.forall_mem_cons.mpr ⟨mw_158, (List.forall_mem_cons.mpr ⟨mw_159, (List.forall_mem_cons.mpr ⟨mw_366, (List.forall_mem_cons.mpr ⟨mw_372, (List.forall_mem_cons.mpr ⟨mw_376, (List.forall_mem_cons.mpr ⟨mw_381, (List.forall_mem_cons.mpr ⟨mw_182, (List.forall_mem_cons.mpr ⟨mw_183, (List.forall_mem_cons.mpr ⟨mw_26, (List.forall_mem_cons.mpr ⟨mw_188, (List.forall_mem_cons.mpr ⟨mw_189, (List.forall_mem_cons.mpr ⟨mw_384, (List.forall_mem_cons.mpr ⟨mw_385, (fun _ h => absurd h List.not_mem_nil)⟩)⟩)⟩)⟩)⟩)⟩)⟩)⟩)⟩)⟩)⟩)⟩)⟩)⟩)⟩)⟩)⟩)⟩)⟩)⟩)⟩)⟩)⟩)⟩)⟩), (List.forall_mem_append.mpr ⟨it_X9, (List.forall_mem_append.mpr ⟨wi_X9_init, (List.forall_mem_append.mpr ⟨it_X6, (List.forall_mem_append.mpr ⟨it_Jx4a65c, (List.forall_mem_append.mpr ⟨wi_listinit, (List.forall_mem_append.mpr ⟨it_X5, (List.forall_mem_append.mpr ⟨wi_keyOf, (List.forall_mem_append.mpr ⟨(by unfold va_wsS; exact List.forall_mem_append.mpr ⟨(List.forall_mem_cons.mpr ⟨mw_185, (List.forall_mem_cons.mpr ⟨mw_186, (List.forall_mem_cons.mpr ⟨mw_18, (fun _ h => absurd h List.not_mem_nil)⟩)⟩)⟩), wi_keyOf⟩), (List.forall_mem_append.mpr ⟨wi_X5_init, (List.forall_mem_append.mpr ⟨wi_addParam, (by unfold wsV; exact List.forall_mem_append.mpr ⟨(List.forall_mem_cons.mpr ⟨mw_358, (List.forall_mem_cons.mpr ⟨mw_359, (List.forall_mem_cons.mpr ⟨mw_360, (List.forall_mem_cons.mpr ⟨mw_26, (fun _ h => absurd h List.not_mem_nil)⟩)⟩)⟩)⟩), wi_addParam⟩)⟩)⟩)⟩)⟩)⟩)⟩)⟩)⟩)⟩)⟩)⟩⟩
theorem wi_X11_init : ∀ w ∈ ww_X11_init, w ∈ lw_tbl := List.forall_mem_cons.mpr ⟨mw_45, List.forall_mem_append.mpr ⟨(List.forall_mem_cons.mpr ⟨mw_46, (List.forall_mem_cons.mpr ⟨mw_47, (List.forall_mem_cons.mpr ⟨mw_48, (List.forall_mem_cons.mpr ⟨mw_153, (List.forall_mem_cons.mpr ⟨mw_583, (List.forall_mem_cons.mpr ⟨mw_154, (List.forall_mem_cons.mpr ⟨mw_584, (List.forall_mem_cons.mpr ⟨mw_155, (List.forall_mem_cons.mpr ⟨mw_585, (List.forall_mem_cons.mpr ⟨mw_49, (List.forall_mem_cons.mpr ⟨mw_50, (List.forall_mem_cons.mpr ⟨mw_17, (List.forall_mem_cons.mpr ⟨mw_51, (List.forall_mem_cons.mpr ⟨mw_52, (List.forall_mem_cons.mpr ⟨mw_586, (List.forall_mem_cons.mpr ⟨mw_587, (List.forall_mem_cons.mpr ⟨mw_410, (List.forall_mem_cons.mpr ⟨mw_411, (List.forall_mem_cons.mpr ⟨mw_28, (List.forall_mem_cons.mpr ⟨mw_412, (List.forall_mem_cons.mpr ⟨mw_413, (List.forall_mem_cons.mpr ⟨mw_588, (List.forall_mem_cons.mpr ⟨mw_438, (List.forall_mem_cons.mpr ⟨mw_439, (List.forall_mem_cons.mpr ⟨mw_29, (List.forall_mem_cons.mpr ⟨mw_440, (List.forall_mem_cons.mpr ⟨mw_441, (List.forall_mem_cons.mpr ⟨mw_589, (List.forall_mem_cons.mpr ⟨mw_473, (List.forall_mem_cons.mpr ⟨mw_474, (List.forall_mem_cons.mpr ⟨mw_31, (List.forall_mem_cons.mpr ⟨mw_475, (List.forall_mem_cons.mpr ⟨mw_476, (List.forall_mem_cons.mpr ⟨mw_590, (List.forall_mem_cons.mpr ⟨mw_512, (List.forall_mem_cons.mpr ⟨mw_513, (List.forall_mem_cons.mpr ⟨mw_32, (List.forall_mem_cons.mpr ⟨mw_514, (List.forall_mem_cons.mpr ⟨mw_515, (List.forall_mem_cons.mpr ⟨mw_591, (List.forall_mem_cons.mpr ⟨mw_594, (fun _ h => absurd h List.not_mem_nil)⟩)⟩)⟩)⟩)⟩)⟩)⟩)⟩)⟩)⟩)⟩)⟩)⟩)⟩)⟩)⟩)⟩)⟩)⟩)⟩)⟩)⟩)⟩)⟩)⟩)⟩)⟩)⟩)⟩)⟩)⟩)⟩)⟩)⟩)⟩)⟩)⟩)⟩)⟩)⟩)⟩), (List.forall_mem_append.mpr ⟨it_X11, (List.forall_mem_append.mpr ⟨it_X6, (List.forall_mem_append.mpr ⟨wi_X6_init, (List.forall_mem_append.mpr ⟨it_X7, (List.forall_mem_append.mpr ⟨wi_X7_init, (List.forall_mem_append.mpr ⟨it_X3, (List.forall_mem_append.mpr ⟨wi_X3_init, (List.forall_mem_append.mpr ⟨it_X0, (List.forall_mem_append.mpr ⟨wi_X0_init, (List.forall_mem_append.mpr ⟨it_X4, wi_X4_init⟩)⟩)⟩)⟩)⟩)⟩)⟩)⟩)⟩)⟩)⟩⟩
theorem wi_listclear : ∀ w ∈ ww_listclear, w ∈ lw_tbl := List.forall_mem_cons.mpr ⟨mw_650, List.forall_mem_append.mpr ⟨(List.forall_mem_cons.mpr ⟨mw_174, (List.forall_mem_cons.mpr ⟨mw_173, (List.forall_mem_cons.mpr ⟨mw_170, (List.forall_mem_cons.mpr ⟨mw_171, (fun _ h => absurd h List.not_mem_nil)⟩)⟩)⟩)⟩), it_Jx4a65c⟩⟩
theorem wi_append0 : ∀ w ∈ ww_append0, w ∈ lw_tbl := List.forall_mem_cons.mpr ⟨mw_630, List.forall_mem_append.mpr ⟨(List.forall_mem_cons.mpr ⟨mw_592, (List.forall_mem_cons.mpr ⟨mw_583, (fun _ h => absurd h List.not_mem_nil)⟩)⟩), it_X11⟩⟩
theorem wi_append4 : ∀ w ∈ ww_append4, w ∈ lw_tbl := List.forall_mem_cons.mpr ⟨mw_630, List.forall_mem_append.mpr ⟨(List.forall_mem_cons.mpr ⟨mw_592, (List.forall_mem_cons.mpr ⟨mw_583, (fun _ h => absurd h List.not_mem_nil)⟩)⟩), it_X11⟩⟩
theorem wi_append8 : ∀ w ∈ ww_append8, w ∈ lw_tbl := List.forall_mem_cons.mpr ⟨mw_630, List.forall_mem_append.mpr ⟨(List.forall_mem_cons.mpr ⟨mw_592, (List.forall_mem_cons.mpr ⟨mw_583, (fun _ h => absurd h List.not_mem_nil)⟩)⟩), it_X11⟩⟩
theorem wi_append12 : ∀ w ∈ ww_append12, w ∈ lw_tbl := List.forall_mem_cons.mpr ⟨mw_630, List.forall_mem_append.mpr ⟨(List.forall_mem_cons.mpr ⟨mw_592, (List.forall_mem_cons.mpr ⟨mw_583, (fun _ h => absurd h List.not_mem_nil)⟩)⟩), it_X11⟩⟩
theorem wi_append16 : ∀ w ∈ ww_append16, w ∈ lw_tbl := List.forall_mem_cons.mpr ⟨mw_630, List.forall_mem_append.mpr ⟨(List.forall_mem_cons.mpr ⟨mw_592, (List.forall_mem_cons.mpr ⟨mw_583, (fun _ h => absurd h List.not_mem_nil)⟩)⟩), it_X11⟩⟩
theorem wi_fc_feed : ∀ w ∈ ww_fc_feed, w ∈ lw_tbl := List.forall_mem_cons.mpr ⟨mw_626, List.forall_mem_append.mpr ⟨(List.forall_mem_cons.mpr ⟨mw_592, (fun _ h => absurd h List.not_mem_nil)⟩), (List.forall_mem_append.mpr ⟨it_X11, (List.forall_mem_append.mpr ⟨wi_append0, (List.forall_mem_append.mpr ⟨(by unfold wsV; exact List.forall_mem_append.mpr ⟨(List.forall_mem_cons.mpr ⟨mw_627, (List.forall_mem_cons.mpr ⟨mw_629, (List.forall_mem_cons.mpr ⟨mw_0, (List.forall_mem_cons.mpr ⟨mw_16, (fun _ h => absurd h List.not_mem_nil)⟩)⟩)⟩)⟩), wi_append0⟩), (List.forall_mem_append.mpr ⟨wi_append4, (List.forall_mem_append.mpr ⟨(by unfold wsV; exact List.forall_mem_append.mpr ⟨(List.forall_mem_cons.mpr ⟨mw_627, (List.forall_mem_cons.mpr ⟨mw_629, (List.forall_mem_cons.mpr ⟨mw_0, (List.forall_mem_cons.mpr ⟨mw_16, (fun _ h => absurd h List.not_mem_nil)⟩)⟩)⟩)⟩), wi_append4⟩), (List.forall_mem_append.mpr ⟨wi_append8, (List.forall_mem_append.mpr ⟨(by unfold wsV; exact List.forall_mem_append.mpr ⟨(List.forall_mem_cons.mpr ⟨mw_627, (List.forall_mem_cons.mpr ⟨mw_629, (List.forall_mem_cons.mpr ⟨mw_0, (List.forall_mem_cons.mpr ⟨mw_16, (fun _ h => absurd h List.not_mem_nil)⟩)⟩)⟩)⟩), wi_append8⟩), (List.forall_mem_append.mpr ⟨wi_append12, (List.forall_mem_append.mpr ⟨(by unfold wsV; exact List.forall_mem_append.mpr ⟨(List.forall_mem_cons.mpr ⟨mw_627, (List.forall_mem_cons.mpr ⟨mw_629, (List.forall_mem_cons.mpr ⟨mw_0, (List.forall_mem_cons.mpr ⟨mw_16, (fun _ h => absurd h List.not_mem_nil)⟩)⟩)⟩)⟩), wi_append12⟩), (List.forall_mem_append.mpr ⟨wi_append16, (by unfold wsV; exact List.forall_mem_append.mpr ⟨(List.forall_mem_cons.mpr ⟨mw_627, (List.forall_mem_cons.mpr ⟨mw_629, (List.forall_mem_cons.mpr ⟨mw_0, (List.forall_mem_cons.mpr ⟨mw_16, (fun _ h => absurd h List.not_mem_nil)⟩)⟩)⟩)⟩), wi_append16⟩)⟩)⟩)⟩)⟩)⟩)⟩)⟩)⟩)⟩)⟩)⟩⟩
theorem wi_fc_cut : ∀ w ∈ ww_fc_cut, w ∈ lw_tbl := List.forall_mem_cons.mpr ⟨mw_634, List.forall_mem_append.mpr ⟨(List.forall_mem_cons.mpr ⟨mw_592, (fun _ h => absurd h List.not_mem_nil)⟩), it_X11⟩⟩
theorem wi_fc_place : ∀ w ∈ ww_fc_place, w ∈ lw_tbl := List.forall_mem_cons.mpr ⟨mw_1566, List.forall_mem_append.mpr ⟨(List.forall_mem_cons.mpr ⟨mw_594, (fun _ h => absurd h List.not_mem_nil)⟩), it_X11⟩⟩
theorem wi_fc_judge : ∀ w ∈ ww_fc_judge, w ∈ lw_tbl := List.forall_mem_cons.mpr ⟨mw_1570, List.forall_mem_append.mpr ⟨(List.forall_mem_cons.mpr ⟨mw_586, (List.forall_mem_cons.mpr ⟨mw_388, (List.forall_mem_cons.mpr ⟨mw_594, (fun _ h => absurd h List.not_mem_nil)⟩)⟩)⟩), (List.forall_mem_append.mpr ⟨it_X11, it_X6⟩)⟩⟩
theorem wi_fc_told : ∀ w ∈ ww_fc_told, w ∈ lw_tbl := List.forall_mem_cons.mpr ⟨mw_1574, List.forall_mem_append.mpr ⟨(List.forall_mem_cons.mpr ⟨mw_586, (List.forall_mem_cons.mpr ⟨mw_364, (List.forall_mem_cons.mpr ⟨mw_130, (List.forall_mem_cons.mpr ⟨mw_370, (List.forall_mem_cons.mpr ⟨mw_374, (List.forall_mem_cons.mpr ⟨mw_593, (fun _ h => absurd h List.not_mem_nil)⟩)⟩)⟩)⟩)⟩)⟩), (List.forall_mem_append.mpr ⟨it_X11, (List.forall_mem_append.mpr ⟨it_X6, (List.forall_mem_append.mpr ⟨it_X9, (List.forall_mem_append.mpr ⟨wi_listsize, (by unfold wsV; exact List.forall_mem_append.mpr ⟨(List.forall_mem_cons.mpr ⟨mw_1562, (List.forall_mem_cons.mpr ⟨mw_718, (List.forall_mem_cons.mpr ⟨mw_719, (List.forall_mem_cons.mpr ⟨mw_25, (fun _ h => absurd h List.not_mem_nil)⟩)⟩)⟩)⟩), wi_listsize⟩)⟩)⟩)⟩)⟩)⟩⟩
theorem wi_fc_token : ∀ w ∈ ww_fc_token, w ∈ lw_tbl := List.forall_mem_cons.mpr ⟨mw_1578, List.forall_mem_append.mpr ⟨(List.forall_mem_cons.mpr ⟨mw_586, (List.forall_mem_cons.mpr ⟨mw_364, (List.forall_mem_cons.mpr ⟨mw_130, (fun _ h => absurd h List.not_mem_nil)⟩)⟩)⟩), (List.forall_mem_append.mpr ⟨it_X11, (List.forall_mem_append.mpr ⟨it_X6, it_X9⟩)⟩)⟩⟩
theorem wi_fc_method : ∀ w ∈ ww_fc_method, w ∈ lw_tbl := List.forall_mem_cons.mpr ⟨mw_1586, List.forall_mem_append.mpr ⟨(List.forall_mem_cons.mpr ⟨mw_586, (List.forall_mem_cons.mpr ⟨mw_370, (fun _ h => absurd h List.not_mem_nil)⟩)⟩), (List.forall_mem_append.mpr ⟨it_X11, (List.forall_mem_append.mpr ⟨it_X6, (List.forall_mem_append.mpr ⟨wi_listsize, (by unfold wsV; exact List.forall_mem_append.mpr ⟨(List.forall_mem_cons.mpr ⟨mw_1562, (List.forall_mem_cons.mpr ⟨mw_718, (List.forall_mem_cons.mpr ⟨mw_719, (List.forall_mem_cons.mpr ⟨mw_25, (fun _ h => absurd h List.not_mem_nil)⟩)⟩)⟩)⟩), wi_listsize⟩)⟩)⟩)⟩)⟩⟩
theorem wi_fc_variable : ∀ w ∈ ww_fc_variable, w ∈ lw_tbl := List.forall_mem_cons.mpr ⟨mw_1592, List.forall_mem_append.mpr ⟨(List.forall_mem_cons.mpr ⟨mw_586, (List.forall_mem_cons.mpr ⟨mw_374, (fun _ h => absurd h List.not_mem_nil)⟩)⟩), (List.forall_mem_append.mpr ⟨it_X11, (List.forall_mem_append.mpr ⟨it_X6, (List.forall_mem_append.mpr ⟨wi_listsize, (by unfold wsV; exact List.forall_mem_append.mpr ⟨(List.forall_mem_cons.mpr ⟨mw_1562, (List.forall_mem_cons.mpr ⟨mw_718, (List.forall_mem_cons.mpr ⟨mw_719, (List.forall_mem_cons.mpr ⟨mw_25, (fun _ h => absurd h List.not_mem_nil)⟩)⟩)⟩)⟩), wi_listsize⟩)⟩)⟩)⟩)⟩⟩
theorem wi_fc_means : ∀ w ∈ ww_fc_means, w ∈ lw_tbl := List.forall_mem_cons.mpr ⟨mw_1597, List.forall_mem_append.mpr ⟨(List.forall_mem_cons.mpr ⟨mw_586, (List.forall_mem_cons.mpr ⟨mw_364, (List.forall_mem_cons.mpr ⟨mw_130, (fun _ h => absurd h List.not_mem_nil)⟩)⟩)⟩), (List.forall_mem_append.mpr ⟨it_X11, (List.forall_mem_append.mpr ⟨it_X6, it_X9⟩)⟩)⟩⟩
theorem wi_expAt : ∀ w ∈ ww_expAt, w ∈ lw_tbl := List.forall_mem_cons.mpr ⟨mw_1605, List.forall_mem_append.mpr ⟨(List.forall_mem_cons.mpr ⟨mw_376, (fun _ h => absurd h List.not_mem_nil)⟩), (List.forall_mem_append.mpr ⟨it_X6, (List.forall_mem_append.mpr ⟨wi_listsize, (by unfold wsV; exact List.forall_mem_append.mpr ⟨(List.forall_mem_cons.mpr ⟨mw_1173, (List.forall_mem_cons.mpr ⟨mw_718, (List.forall_mem_cons.mpr ⟨mw_719, (List.forall_mem_cons.mpr ⟨mw_25, (fun _ h => absurd h List.not_mem_nil)⟩)⟩)⟩)⟩), wi_listsize⟩)⟩)⟩)⟩⟩
theorem wi_statementAt : ∀ w ∈ ww_statementAt, w ∈ lw_tbl := List.forall_mem_cons.mpr ⟨mw_1619, List.forall_mem_append.mpr ⟨(List.forall_mem_cons.mpr ⟨mw_381, (fun _ h => absurd h List.not_mem_nil)⟩), (List.forall_mem_append.mpr ⟨it_X6, (List.forall_mem_append.mpr ⟨wi_listsize, (by unfold wsV; exact List.forall_mem_append.mpr ⟨(List.forall_mem_cons.mpr ⟨mw_1173, (List.forall_mem_cons.mpr ⟨mw_718, (List.forall_mem_cons.mpr ⟨mw_719, (List.forall_mem_cons.mpr ⟨mw_25, (fun _ h => absurd h List.not_mem_nil)⟩)⟩)⟩)⟩), wi_listsize⟩)⟩)⟩)⟩⟩
theorem wi_fc_type : ∀ w ∈ ww_fc_type, w ∈ lw_tbl := List.forall_mem_cons.mpr ⟨mw_1601, List.forall_mem_append.mpr ⟨(List.forall_mem_cons.mpr ⟨mw_586, (List.forall_mem_cons.mpr ⟨mw_388, (fun _ h => absurd h List.not_mem_nil)⟩)⟩), (List.forall_mem_append.mpr ⟨it_X11, (List.forall_mem_append.mpr ⟨it_X6, (List.forall_mem_append.mpr ⟨wi_expAt, (by unfold wsV; exact List.forall_mem_append.mpr ⟨(List.forall_mem_cons.mpr ⟨mw_1602, (List.forall_mem_cons.mpr ⟨mw_1603, (List.forall_mem_cons.mpr ⟨mw_1604, (List.forall_mem_cons.mpr ⟨mw_17, (fun _ h => absurd h List.not_mem_nil)⟩)⟩)⟩)⟩), wi_expAt⟩)⟩)⟩)⟩)⟩⟩
theorem wi_fc_constant : ∀ w ∈ ww_fc_constant, w ∈ lw_tbl := List.forall_mem_cons.mpr ⟨mw_1610, List.forall_mem_append.mpr ⟨(List.forall_mem_cons.mpr ⟨mw_586, (List.forall_mem_cons.mpr ⟨mw_388, (List.forall_mem_cons.mpr ⟨mw_1611, (fun _ h => absurd h List.not_mem_nil)⟩)⟩)⟩), (List.forall_mem_append.mpr ⟨it_X11, (List.forall_mem_append.mpr ⟨it_X6, (List.forall_mem_append.mpr ⟨wi_expAt, (by unfold wsV; exact List.forall_mem_append.mpr ⟨(List.forall_mem_cons.mpr ⟨mw_1602, (List.forall_mem_cons.mpr ⟨mw_1603, (List.forall_mem_cons.mpr ⟨mw_1604, (List.forall_mem_cons.mpr ⟨mw_17, (fun _ h => absurd h List.not_mem_nil)⟩)⟩)⟩)⟩), wi_expAt⟩)⟩)⟩)⟩)⟩⟩
theorem wi_fc_ends : ∀ w ∈ ww_fc_ends, w ∈ lw_tbl := List.forall_mem_cons.mpr ⟨mw_1615, List.forall_mem_append.mpr ⟨(List.forall_mem_cons.mpr ⟨mw_586, (List.forall_mem_cons.mpr ⟨mw_388, (fun _ h => absurd h List.not_mem_nil)⟩)⟩), (List.forall_mem_append.mpr ⟨it_X11, (List.forall_mem_append.mpr ⟨it_X6, (List.forall_mem_append.mpr ⟨wi_statementAt, (by unfold wsV; exact List.forall_mem_append.mpr ⟨(List.forall_mem_cons.mpr ⟨mw_1616, (List.forall_mem_cons.mpr ⟨mw_1617, (List.forall_mem_cons.mpr ⟨mw_1618, (List.forall_mem_cons.mpr ⟨mw_17, (fun _ h => absurd h List.not_mem_nil)⟩)⟩)⟩)⟩), wi_statementAt⟩)⟩)⟩)⟩)⟩⟩
theorem wi_fc_assigned : ∀ w ∈ ww_fc_assigned, w ∈ lw_tbl := List.forall_mem_cons.mpr ⟨mw_1625, List.forall_mem_append.mpr ⟨(List.forall_mem_cons.mpr ⟨mw_586, (List.forall_mem_cons.mpr ⟨mw_388, (fun _ h => absurd h List.not_mem_nil)⟩)⟩), (List.forall_mem_append.mpr ⟨it_X11, (List.forall_mem_append.mpr ⟨it_X6, (List.forall_mem_append.mpr ⟨wi_statementAt, (by unfold wsV; exact List.forall_mem_append.mpr ⟨(List.forall_mem_cons.mpr ⟨mw_1616, (List.forall_mem_cons.mpr ⟨mw_1617, (List.forall_mem_cons.mpr ⟨mw_1618, (List.forall_mem_cons.mpr ⟨mw_17, (fun _ h => absurd h List.not_mem_nil)⟩)⟩)⟩)⟩), wi_statementAt⟩)⟩)⟩)⟩)⟩⟩
theorem wi_fc_argument : ∀ w ∈ ww_fc_argument, w ∈ lw_tbl := List.forall_mem_cons.mpr ⟨mw_1630, List.forall_mem_append.mpr ⟨(List.forall_mem_cons.mpr ⟨mw_585, (fun _ h => absurd h List.not_mem_nil)⟩), it_X11⟩⟩
theorem wi_fc_input : ∀ w ∈ ww_fc_input, w ∈ lw_tbl := List.forall_mem_cons.mpr ⟨mw_1634, List.forall_mem_append.mpr ⟨(List.forall_mem_cons.mpr ⟨mw_593, (List.forall_mem_cons.mpr ⟨mw_584, (fun _ h => absurd h List.not_mem_nil)⟩)⟩), it_X11⟩⟩
theorem wi_fc_drain : ∀ w ∈ ww_fc_drain, w ∈ lw_tbl := List.forall_mem_cons.mpr ⟨mw_1638, List.forall_mem_append.mpr ⟨(List.forall_mem_cons.mpr ⟨mw_593, (fun _ h => absurd h List.not_mem_nil)⟩), it_X11⟩⟩
theorem wi_fc_run : ∀ w ∈ ww_fc_run, w ∈ lw_tbl := List.forall_mem_cons.mpr ⟨mw_1642, List.forall_mem_append.mpr ⟨(List.forall_mem_cons.mpr ⟨mw_586, (List.forall_mem_cons.mpr ⟨mw_370, (fun _ h => absurd h List.not_mem_nil)⟩)⟩), (List.forall_mem_append.mpr ⟨it_X11, (List.forall_mem_append.mpr ⟨it_X6, (List.forall_mem_append.mpr ⟨wi_listsize, (by unfold wsV; exact List.forall_mem_append.mpr ⟨(List.forall_mem_cons.mpr ⟨mw_1562, (List.forall_mem_cons.mpr ⟨mw_718, (List.forall_mem_cons.mpr ⟨mw_719, (List.forall_mem_cons.mpr ⟨mw_25, (fun _ h => absurd h List.not_mem_nil)⟩)⟩)⟩)⟩), wi_listsize⟩)⟩)⟩)⟩)⟩⟩
theorem wi_fc_ran : ∀ w ∈ ww_fc_ran, w ∈ lw_tbl := List.forall_mem_cons.mpr ⟨mw_1747, List.forall_mem_append.mpr ⟨(List.forall_mem_cons.mpr ⟨mw_595, (List.forall_mem_cons.mpr ⟨mw_1611, (fun _ h => absurd h List.not_mem_nil)⟩)⟩), it_X11⟩⟩
theorem wi_clear : ∀ w ∈ ww_clear, w ∈ lw_tbl := List.forall_mem_cons.mpr ⟨mw_646, List.forall_mem_append.mpr ⟨(List.forall_mem_cons.mpr ⟨mw_366, (List.forall_mem_cons.mpr ⟨mw_372, (List.forall_mem_cons.mpr ⟨mw_376, (List.forall_mem_cons.mpr ⟨mw_381, (List.forall_mem_cons.mpr ⟨mw_386, (List.forall_mem_cons.mpr ⟨mw_389, (fun _ h => absurd h List.not_mem_nil)⟩)⟩)⟩)⟩)⟩)⟩), (List.forall_mem_append.mpr ⟨it_X6, (List.forall_mem_append.mpr ⟨wi_listclear, (by unfold wsV; exact List.forall_mem_append.mpr ⟨(List.forall_mem_cons.mpr ⟨mw_647, (List.forall_mem_cons.mpr ⟨mw_648, (List.forall_mem_cons.mpr ⟨mw_649, (List.forall_mem_cons.mpr ⟨mw_25, (fun _ h => absurd h List.not_mem_nil)⟩)⟩)⟩)⟩), wi_listclear⟩)⟩)⟩)⟩⟩
theorem wi_behindBlanks : ∀ w ∈ ww_behindBlanks, w ∈ lw_tbl := List.forall_mem_cons.mpr ⟨mw_661, List.forall_mem_append.mpr ⟨(List.forall_mem_cons.mpr ⟨mw_133, (fun _ h => absurd h List.not_mem_nil)⟩), it_X9⟩⟩
theorem wi_cutText : ∀ w ∈ ww_cutText, w ∈ lw_tbl := List.forall_mem_cons.mpr ⟨mw_654, List.forall_mem_append.mpr ⟨(List.forall_mem_cons.mpr ⟨mw_132, (List.forall_mem_cons.mpr ⟨mw_655, (List.forall_mem_cons.mpr ⟨mw_656, (List.forall_mem_cons.mpr ⟨mw_34, (List.forall_mem_cons.mpr ⟨mw_657, (List.forall_mem_cons.mpr ⟨mw_133, (List.forall_mem_cons.mpr ⟨mw_129, (List.forall_mem_cons.mpr ⟨mw_113, (List.forall_mem_cons.mpr ⟨mw_119, (fun _ h => absurd h List.not_mem_nil)⟩)⟩)⟩)⟩)⟩)⟩)⟩)⟩)⟩), (List.forall_mem_append.mpr ⟨it_X9, (List.forall_mem_append.mpr ⟨wi_behindBlanks, (by unfold wsV; exact List.forall_mem_append.mpr ⟨(List.forall_mem_cons.mpr ⟨mw_658, (List.forall_mem_cons.mpr ⟨mw_660, (List.forall_mem_cons.mpr ⟨mw_1, (List.forall_mem_cons.mpr ⟨mw_18, (fun _ h => absurd h List.not_mem_nil)⟩)⟩)⟩)⟩), wi_behindBlanks⟩)⟩)⟩)⟩⟩
theorem wi_code : ∀ w ∈ ww_code, w ∈ lw_tbl := List.forall_mem_cons.mpr ⟨mw_701, List.forall_mem_append.mpr ⟨(List.forall_mem_cons.mpr ⟨mw_419, (List.forall_mem_cons.mpr ⟨mw_417, (List.forall_mem_cons.mpr ⟨mw_120, (List.forall_mem_cons.mpr ⟨mw_418, (fun _ h => absurd h List.not_mem_nil)⟩)⟩)⟩)⟩), (List.forall_mem_append.mpr ⟨it_X7, it_X9⟩)⟩⟩
theorem wi_readProgram : ∀ w ∈ ww_readProgram, w ∈ lw_tbl := List.forall_mem_cons.mpr ⟨mw_642, List.forall_mem_append.mpr ⟨(List.forall_mem_cons.mpr ⟨mw_416, (List.forall_mem_cons.mpr ⟨mw_362, (List.forall_mem_cons.mpr ⟨mw_417, (List.forall_mem_cons.mpr ⟨mw_418, (List.forall_mem_cons.mpr ⟨mw_419, (fun _ h => absurd h List.not_mem_nil)⟩)⟩)⟩)⟩)⟩), (List.forall_mem_append.mpr ⟨it_X7, (List.forall_mem_append.mpr ⟨it_X6, (List.forall_mem_append.mpr ⟨wi_clear, (List.forall_mem_append.mpr ⟨(by unfold wsV; exact List.forall_mem_append.mpr ⟨(List.forall_mem_cons.mpr ⟨mw_643, (List.forall_mem_cons.mpr ⟨mw_644, (List.forall_mem_cons.mpr ⟨mw_645, (List.forall_mem_cons.mpr ⟨mw_17, (fun _ h => absurd h List.not_mem_nil)⟩)⟩)⟩)⟩), wi_clear⟩), (List.forall_mem_append.mpr ⟨wi_cutText, (List.forall_mem_append.mpr ⟨(by unfold wsV; exact List.forall_mem_append.mpr ⟨(List.forall_mem_cons.mpr ⟨mw_651, (List.forall_mem_cons.mpr ⟨mw_652, (List.forall_mem_cons.mpr ⟨mw_653, (List.forall_mem_cons.mpr ⟨mw_18, (fun _ h => absurd h List.not_mem_nil)⟩)⟩)⟩)⟩), wi_cutText⟩), (List.forall_mem_append.mpr ⟨wi_code, (by unfold wsV; exact List.forall_mem_append.mpr ⟨(List.forall_mem_cons.mpr ⟨mw_698, (List.forall_mem_cons.mpr ⟨mw_700, (List.forall_mem_cons.mpr ⟨mw_2, (List.forall_mem_cons.mpr ⟨mw_28, (fun _ h => absurd h List.not_mem_nil)⟩)⟩)⟩)⟩), wi_code⟩)⟩)⟩)⟩)⟩)⟩)⟩)⟩)⟩⟩
theorem wi_reachAll : ∀ w ∈ ww_reachAll, w ∈ lw_tbl := List.forall_mem_cons.mpr ⟨mw_1367, List.forall_mem_append.mpr ⟨(List.forall_mem_cons.mpr ⟨mw_450, (List.forall_mem_cons.mpr ⟨mw_368, (fun _ h => absurd h List.not_mem_nil)⟩)⟩), (List.forall_mem_append.mpr ⟨it_X2, (List.forall_mem_append.mpr ⟨it_X6, (List.forall_mem_append.mpr ⟨wi_listsize, (by unfold wsV; exact List.forall_mem_append.mpr ⟨(List.forall_mem_cons.mpr ⟨mw_1368, (List.forall_mem_cons.mpr ⟨mw_718, (List.forall_mem_cons.mpr ⟨mw_719, (List.forall_mem_cons.mpr ⟨mw_25, (fun _ h => absurd h List.not_mem_nil)⟩)⟩)⟩)⟩), wi_listsize⟩)⟩)⟩)⟩)⟩⟩
theorem wi_assignAll : ∀ w ∈ ww_assignAll, w ∈ lw_tbl := List.forall_mem_cons.mpr ⟨mw_1410, List.forall_mem_append.mpr ⟨(List.forall_mem_cons.mpr ⟨mw_450, (List.forall_mem_cons.mpr ⟨mw_368, (fun _ h => absurd h List.not_mem_nil)⟩)⟩), (List.forall_mem_append.mpr ⟨it_X2, (List.forall_mem_append.mpr ⟨it_X6, (List.forall_mem_append.mpr ⟨wi_listsize, (by unfold wsV; exact List.forall_mem_append.mpr ⟨(List.forall_mem_cons.mpr ⟨mw_1368, (List.forall_mem_cons.mpr ⟨mw_718, (List.forall_mem_cons.mpr ⟨mw_719, (List.forall_mem_cons.mpr ⟨mw_25, (fun _ h => absurd h List.not_mem_nil)⟩)⟩)⟩)⟩), wi_listsize⟩)⟩)⟩)⟩)⟩⟩
theorem wi_lay : ∀ w ∈ ww_lay, w ∈ lw_tbl := List.forall_mem_cons.mpr ⟨mw_1494, List.forall_mem_append.mpr ⟨(List.forall_mem_cons.mpr ⟨mw_494, (List.forall_mem_cons.mpr ⟨mw_492, (List.forall_mem_cons.mpr ⟨mw_369, (fun _ h => absurd h List.not_mem_nil)⟩)⟩)⟩), (List.forall_mem_append.mpr ⟨it_X0, (List.forall_mem_append.mpr ⟨it_X6, (List.forall_mem_append.mpr ⟨wi_listsize, (by unfold wsV; exact List.forall_mem_append.mpr ⟨(List.forall_mem_cons.mpr ⟨mw_1495, (List.forall_mem_cons.mpr ⟨mw_718, (List.forall_mem_cons.mpr ⟨mw_719, (List.forall_mem_cons.mpr ⟨mw_25, (fun _ h => absurd h List.not_mem_nil)⟩)⟩)⟩)⟩), wi_listsize⟩)⟩)⟩)⟩)⟩⟩
theorem wi_judgeProgram : ∀ w ∈ ww_judgeProgram, w ∈ lw_tbl := List.forall_mem_cons.mpr ⟨mw_1161, List.forall_mem_append.mpr ⟨(List.forall_mem_cons.mpr ⟨mw_467, (List.forall_mem_cons.mpr ⟨mw_367, (List.forall_mem_cons.mpr ⟨mw_373, (List.forall_mem_cons.mpr ⟨mw_377, (List.forall_mem_cons.mpr ⟨mw_382, (List.forall_mem_cons.mpr ⟨mw_387, (List.forall_mem_cons.mpr ⟨mw_466, (fun _ h => absurd h List.not_mem_nil)⟩)⟩)⟩)⟩)⟩)⟩)⟩), (List.forall_mem_append.mpr ⟨it_X3, (List.forall_mem_append.mpr ⟨it_X6, (List.forall_mem_append.mpr ⟨wi_listsize, (List.forall_mem_append.mpr ⟨(by unfold wsV; exact List.forall_mem_append.mpr ⟨(List.forall_mem_cons.mpr ⟨mw_1162, (List.forall_mem_cons.mpr ⟨mw_718, (List.forall_mem_cons.mpr ⟨mw_719, (List.forall_mem_cons.mpr ⟨mw_25, (fun _ h => absurd h List.not_mem_nil)⟩)⟩)⟩)⟩), wi_listsize⟩), (List.forall_mem_append.mpr ⟨wi_reachAll, (List.forall_mem_append.mpr ⟨(by unfold wsV; exact List.forall_mem_append.mpr ⟨(List.forall_mem_cons.mpr ⟨mw_1364, (List.forall_mem_cons.mpr ⟨mw_1365, (List.forall_mem_cons.mpr ⟨mw_1366, (List.forall_mem_cons.mpr ⟨mw_30, (fun _ h => absurd h List.not_mem_nil)⟩)⟩)⟩)⟩), wi_reachAll⟩), (List.forall_mem_append.mpr ⟨wi_assignAll, (by unfold wsV; exact List.forall_mem_append.mpr ⟨(List.forall_mem_cons.mpr ⟨mw_1407, (List.forall_mem_cons.mpr ⟨mw_1408, (List.forall_mem_cons.mpr ⟨mw_1409, (List.forall_mem_cons.mpr ⟨mw_30, (fun _ h => absurd h List.not_mem_nil)⟩)⟩)⟩)⟩), wi_assignAll⟩)⟩)⟩)⟩)⟩)⟩)⟩)⟩)⟩⟩
theorem wi_fc_read : ∀ w ∈ ww_fc_read, w ∈ lw_tbl := List.forall_mem_cons.mpr ⟨mw_638, List.forall_mem_append.mpr ⟨(List.forall_mem_cons.mpr ⟨mw_588, (List.forall_mem_cons.mpr ⟨mw_587, (List.forall_mem_cons.mpr ⟨mw_583, (List.forall_mem_cons.mpr ⟨mw_592, (List.forall_mem_cons.mpr ⟨mw_586, (List.forall_mem_cons.mpr ⟨mw_594, (List.forall_mem_cons.mpr ⟨mw_595, (List.forall_mem_cons.mpr ⟨mw_589, (List.forall_mem_cons.mpr ⟨mw_388, (List.forall_mem_cons.mpr ⟨mw_590, (List.forall_mem_cons.mpr ⟨mw_370, (fun _ h => absurd h List.not_mem_nil)⟩)⟩)⟩)⟩)⟩)⟩)⟩)⟩)⟩)⟩)⟩), (List.forall_mem_append.mpr ⟨it_X11, (List.forall_mem_append.mpr ⟨wi_readProgram, (List.forall_mem_append.mpr ⟨(by unfold wsV; exact List.forall_mem_append.mpr ⟨(List.forall_mem_cons.mpr ⟨mw_639, (List.forall_mem_cons.mpr ⟨mw_640, (List.forall_mem_cons.mpr ⟨mw_641, (List.forall_mem_cons.mpr ⟨mw_28, (fun _ h => absurd h List.not_mem_nil)⟩)⟩)⟩)⟩), wi_readProgram⟩), (List.forall_mem_append.mpr ⟨wi_judgeProgram, (List.forall_mem_append.mpr ⟨(by unfold wsV; exact List.forall_mem_append.mpr ⟨(List.forall_mem_cons.mpr ⟨mw_1158, (List.forall_mem_cons.mpr ⟨mw_1159, (List.forall_mem_cons.mpr ⟨mw_1160, (List.forall_mem_cons.mpr ⟨mw_29, (fun _ h => absurd h List.not_mem_nil)⟩)⟩)⟩)⟩), wi_judgeProgram⟩), (List.forall_mem_append.mpr ⟨it_X6, (List.forall_mem_append.mpr ⟨wi_lay, (List.forall_mem_append.mpr ⟨(by unfold wsV; exact List.forall_mem_append.mpr ⟨(List.forall_mem_cons.mpr ⟨mw_1491, (List.forall_mem_cons.mpr ⟨mw_1492, (List.forall_mem_cons.mpr ⟨mw_1493, (List.forall_mem_cons.mpr ⟨mw_31, (fun _ h => absurd h List.not_mem_nil)⟩)⟩)⟩)⟩), wi_lay⟩), (List.forall_mem_append.mpr ⟨wi_listsize, (by unfold wsV; exact List.forall_mem_append.mpr ⟨(List.forall_mem_cons.mpr ⟨mw_1562, (List.forall_mem_cons.mpr ⟨mw_718, (List.forall_mem_cons.mpr ⟨mw_719, (List.forall_mem_cons.mpr ⟨mw_25, (fun _ h => absurd h List.not_mem_nil)⟩)⟩)⟩)⟩), wi_listsize⟩)⟩)⟩)⟩)⟩)⟩)⟩)⟩)⟩)⟩)⟩⟩
theorem wi_X12_init : ∀ w ∈ ww_X12_init, w ∈ lw_tbl := List.forall_mem_cons.mpr ⟨mw_1757, List.forall_mem_append.mpr ⟨(List.forall_mem_cons.mpr ⟨mw_1758, (List.forall_mem_cons.mpr ⟨mw_47, (List.forall_mem_cons.mpr ⟨mw_48, (List.forall_mem_cons.mpr ⟨mw_154, (List.forall_mem_cons.mpr ⟨mw_1759, (List.forall_mem_cons.mpr ⟨mw_1762, (List.forall_mem_cons.mpr ⟨mw_1763, (List.forall_mem_cons.mpr ⟨mw_1764, (List.forall_mem_cons.mpr ⟨mw_1765, (List.forall_mem_cons.mpr ⟨mw_155, (List.forall_mem_cons.mpr ⟨mw_1766, (List.forall_mem_cons.mpr ⟨mw_1767, (List.forall_mem_cons.mpr ⟨mw_1768, (List.forall_mem_cons.mpr ⟨mw_2210, (List.forall_mem_cons.mpr ⟨mw_1769, (List.forall_mem_cons.mpr ⟨mw_1770, (List.forall_mem_cons.mpr ⟨mw_1778, (List.forall_mem_cons.mpr ⟨mw_1779, (List.forall_mem_cons.mpr ⟨mw_1780, (List.forall_mem_cons.mpr ⟨mw_1781, (List.forall_mem_cons.mpr ⟨mw_1782, (List.forall_mem_cons.mpr ⟨mw_1783, (List.forall_mem_cons.mpr ⟨mw_1784, (List.forall_mem_cons.mpr ⟨mw_1785, (List.forall_mem_cons.mpr ⟨mw_1786, (List.forall_mem_cons.mpr ⟨mw_1787, (List.forall_mem_cons.mpr ⟨mw_1789, (List.forall_mem_cons.mpr ⟨mw_1796, (List.forall_mem_cons.mpr ⟨mw_1797, (List.forall_mem_cons.mpr ⟨mw_1798, (List.forall_mem_cons.mpr ⟨mw_1799, (List.forall_mem_cons.mpr ⟨mw_1800, (List.forall_mem_cons.mpr ⟨mw_1802, (List.forall_mem_cons.mpr ⟨mw_1803, (List.forall_mem_cons.mpr ⟨mw_1804, (List.forall_mem_cons.mpr ⟨mw_1805, (List.forall_mem_cons.mpr ⟨mw_1806, (List.forall_mem_cons.mpr ⟨mw_1807, (List.forall_mem_cons.mpr ⟨mw_1809, (List.forall_mem_cons.mpr ⟨mw_1810, (List.forall_mem_cons.mpr ⟨mw_1811, (List.forall_mem_cons.mpr ⟨mw_1812, (List.forall_mem_cons.mpr ⟨mw_1813, (List.forall_mem_cons.mpr ⟨mw_1814, (List.forall_mem_cons.mpr ⟨mw_1815, (List.forall_mem_cons.mpr ⟨mw_1816, (List.forall_mem_cons.mpr ⟨mw_1817, (List.forall_mem_cons.mpr ⟨mw_1818, (List.forall_mem_cons.mpr ⟨mw_1819, (List.forall_mem_cons.mpr ⟨mw_1820, (List.forall_mem_cons.mpr ⟨mw_1822, (List.forall_mem_cons.mpr ⟨mw_1823, (List.forall_mem_cons.mpr ⟨mw_1824, (List.forall_mem_cons.mpr ⟨mw_1829, (List.forall_mem_cons.mpr ⟨mw_1830, (List.forall_mem_cons.mpr ⟨mw_1831, (List.forall_mem_cons.mpr ⟨mw_1832, (List.forall_mem_cons.mpr ⟨mw_1834, (List.forall_mem_cons.mpr ⟨mw_1835, (List.forall_mem_cons.mpr ⟨mw_1836, (List.forall_mem_cons.mpr ⟨mw_1837, (List.forall_mem_cons.mpr ⟨mw_1838, (List.forall_mem_cons.mpr ⟨mw_1839, (List.forall_mem_cons.mpr ⟨mw_1840, (List.forall_mem_cons.mpr ⟨mw_1841, (List.forall_mem_cons.mpr ⟨mw_1842, (List.forall_mem_cons.mpr ⟨mw_1843, (List.forall_mem_cons.mpr ⟨mw_1844, (List.forall_mem_cons.mpr ⟨mw_1845, (List.forall_mem_cons.mpr ⟨mw_1846, (List.forall_mem_cons.mpr ⟨mw_1847, (List.forall_mem_cons.mpr ⟨mw_1849, (List.forall_mem_cons.mpr ⟨mw_1854, (List.forall_mem_cons.mpr ⟨mw_1855, (List.forall_mem_cons.mpr ⟨mw_1856, (List.forall_mem_cons.mpr ⟨mw_1857, (List.forall_mem_cons.mpr ⟨mw_1858, (List.forall_mem_cons.mpr ⟨mw_1860, (List.forall_mem_cons.mpr ⟨mw_1861, (List.forall_mem_cons.mpr ⟨mw_1863, (List.forall_mem_cons.mpr ⟨mw_1864, (List.forall_mem_cons.mpr ⟨mw_1865, (List.forall_mem_cons.mpr ⟨mw_1866, (List.forall_mem_cons.mpr ⟨mw_1867, (List.forall_mem_cons.mpr ⟨mw_1868, (List.forall_mem_cons.mpr ⟨mw_1869, (List.forall_mem_cons.mpr ⟨mw_1870, (List.forall_mem_cons.mpr ⟨mw_1877, (List.forall_mem_cons.mpr ⟨mw_1879, (List.forall_mem_cons.mpr ⟨mw_1881, (List.forall_mem_cons.mpr ⟨mw_1883, (List.forall_mem_cons.mpr ⟨mw_1884, (List.forall_mem_cons.mpr ⟨mw_1885, (List.forall_mem_cons.mpr ⟨mw_1886, (List.forall_mem_cons.mpr ⟨mw_1889, (List.forall_mem_cons.mpr ⟨mw_1890, (List.forall_mem_cons.mpr ⟨mw_1891, (List.forall_mem_cons.mpr ⟨mw_1893, (List.forall_mem_cons.mpr ⟨mw_1894, (List.forall_mem_cons.mpr ⟨mw_1895, (List.forall_mem_cons.mpr ⟨mw_1896, (List.forall_mem_cons.mpr ⟨mw_1897, (List.forall_mem_cons.mpr ⟨mw_1898, (List.forall_mem_cons.mpr ⟨mw_1899, (List.forall_mem_cons.mpr ⟨mw_1908, (fun _ h => absurd h List.not_mem_nil)⟩)⟩)⟩)⟩)⟩)⟩)⟩)⟩)⟩)⟩)⟩)⟩)⟩)⟩)⟩)⟩)⟩)⟩)⟩)⟩)⟩)⟩)⟩)⟩)⟩)⟩)⟩)⟩)⟩)⟩)⟩)⟩)⟩)⟩)⟩)⟩)⟩)⟩)⟩)⟩)⟩)⟩)⟩)⟩)⟩)⟩)⟩)⟩)⟩)⟩)⟩)⟩)⟩)⟩)⟩)⟩)⟩)⟩)⟩)⟩)⟩)⟩)⟩)⟩)⟩)⟩)⟩)⟩)⟩)⟩)⟩)⟩)⟩)⟩)⟩)⟩)⟩)⟩)⟩)⟩)⟩)⟩)⟩)⟩)⟩)⟩)⟩)⟩)⟩)⟩)⟩)⟩)⟩)⟩)⟩)⟩)⟩)⟩)⟩)⟩)⟩)⟩)⟩)⟩)⟩), it_X12⟩⟩
theorem wi_mlay0 : ∀ w ∈ ww_mlay0, w ∈ lw_tbl := List.forall_mem_cons.mpr ⟨mw_2218, List.forall_mem_append.mpr ⟨(List.forall_mem_cons.mpr ⟨mw_1759, (List.forall_mem_cons.mpr ⟨mw_1760, (fun _ h => absurd h List.not_mem_nil)⟩)⟩), it_X12⟩⟩
theorem wi_mlay4 : ∀ w ∈ ww_mlay4, w ∈ lw_tbl := List.forall_mem_cons.mpr ⟨mw_2218, List.forall_mem_append.mpr ⟨(List.forall_mem_cons.mpr ⟨mw_1759, (List.forall_mem_cons.mpr ⟨mw_1760, (fun _ h => absurd h List.not_mem_nil)⟩)⟩), it_X12⟩⟩
theorem wi_mlay8 : ∀ w ∈ ww_mlay8, w ∈ lw_tbl := List.forall_mem_cons.mpr ⟨mw_2218, List.forall_mem_append.mpr ⟨(List.forall_mem_cons.mpr ⟨mw_1759, (List.forall_mem_cons.mpr ⟨mw_1760, (fun _ h => absurd h List.not_mem_nil)⟩)⟩), it_X12⟩⟩
theorem wi_mlay12 : ∀ w ∈ ww_mlay12, w ∈ lw_tbl := List.forall_mem_cons.mpr ⟨mw_2218, List.forall_mem_append.mpr ⟨(List.forall_mem_cons.mpr ⟨mw_1759, (List.forall_mem_cons.mpr ⟨mw_1760, (fun _ h => absurd h List.not_mem_nil)⟩)⟩), it_X12⟩⟩
theorem wi_mlay16 : ∀ w ∈ ww_mlay16, w ∈ lw_tbl := List.forall_mem_cons.mpr ⟨mw_2218, List.forall_mem_append.mpr ⟨(List.forall_mem_cons.mpr ⟨mw_1759, (List.forall_mem_cons.mpr ⟨mw_1760, (fun _ h => absurd h List.not_mem_nil)⟩)⟩), it_X12⟩⟩
theorem wi_gc_feed : ∀ w ∈ ww_gc_feed, w ∈ lw_tbl := List.forall_mem_cons.mpr ⟨mw_2214, List.forall_mem_append.mpr ⟨(List.forall_mem_cons.mpr ⟨mw_1760, (fun _ h => absurd h List.not_mem_nil)⟩), (List.forall_mem_append.mpr ⟨it_X12, (List.forall_mem_append.mpr ⟨wi_mlay0, (List.forall_mem_append.mpr ⟨(by unfold wsV; exact List.forall_mem_append.mpr ⟨(List.forall_mem_cons.mpr ⟨mw_2215, (List.forall_mem_cons.mpr ⟨mw_2217, (List.forall_mem_cons.mpr ⟨mw_3, (List.forall_mem_cons.mpr ⟨mw_33, (fun _ h => absurd h List.not_mem_nil)⟩)⟩)⟩)⟩), wi_mlay0⟩), (List.forall_mem_append.mpr ⟨wi_mlay4, (List.forall_mem_append.mpr ⟨(by unfold wsV; exact List.forall_mem_append.mpr ⟨(List.forall_mem_cons.mpr ⟨mw_2215, (List.forall_mem_cons.mpr ⟨mw_2217, (List.forall_mem_cons.mpr ⟨mw_3, (List.forall_mem_cons.mpr ⟨mw_33, (fun _ h => absurd h List.not_mem_nil)⟩)⟩)⟩)⟩), wi_mlay4⟩), (List.forall_mem_append.mpr ⟨wi_mlay8, (List.forall_mem_append.mpr ⟨(by unfold wsV; exact List.forall_mem_append.mpr ⟨(List.forall_mem_cons.mpr ⟨mw_2215, (List.forall_mem_cons.mpr ⟨mw_2217, (List.forall_mem_cons.mpr ⟨mw_3, (List.forall_mem_cons.mpr ⟨mw_33, (fun _ h => absurd h List.not_mem_nil)⟩)⟩)⟩)⟩), wi_mlay8⟩), (List.forall_mem_append.mpr ⟨wi_mlay12, (List.forall_mem_append.mpr ⟨(by unfold wsV; exact List.forall_mem_append.mpr ⟨(List.forall_mem_cons.mpr ⟨mw_2215, (List.forall_mem_cons.mpr ⟨mw_2217, (List.forall_mem_cons.mpr ⟨mw_3, (List.forall_mem_cons.mpr ⟨mw_33, (fun _ h => absurd h List.not_mem_nil)⟩)⟩)⟩)⟩), wi_mlay12⟩), (List.forall_mem_append.mpr ⟨wi_mlay16, (by unfold wsV; exact List.forall_mem_append.mpr ⟨(List.forall_mem_cons.mpr ⟨mw_2215, (List.forall_mem_cons.mpr ⟨mw_2217, (List.forall_mem_cons.mpr ⟨mw_3, (List.forall_mem_cons.mpr ⟨mw_33, (fun _ h => absurd h List.not_mem_nil)⟩)⟩)⟩)⟩), wi_mlay16⟩)⟩)⟩)⟩)⟩)⟩)⟩)⟩)⟩)⟩)⟩)⟩⟩
theorem wi_gc_cut : ∀ w ∈ ww_gc_cut, w ∈ lw_tbl := List.forall_mem_cons.mpr ⟨mw_2222, List.forall_mem_append.mpr ⟨(List.forall_mem_cons.mpr ⟨mw_1760, (fun _ h => absurd h List.not_mem_nil)⟩), it_X12⟩⟩
theorem wi_gc_place : ∀ w ∈ ww_gc_place, w ∈ lw_tbl := List.forall_mem_cons.mpr ⟨mw_2745, List.forall_mem_append.mpr ⟨(List.forall_mem_cons.mpr ⟨mw_1879, (fun _ h => absurd h List.not_mem_nil)⟩), it_X12⟩⟩
theorem wi_lexer : ∀ w ∈ ww_lexer, w ∈ lw_tbl := List.forall_mem_cons.mpr ⟨mw_2230, List.forall_mem_append.mpr ⟨(List.forall_mem_cons.mpr ⟨mw_1760, (List.forall_mem_cons.mpr ⟨mw_1771, (List.forall_mem_cons.mpr ⟨mw_1772, (List.forall_mem_cons.mpr ⟨mw_1761, (List.forall_mem_cons.mpr ⟨mw_1763, (List.forall_mem_cons.mpr ⟨mw_1765, (List.forall_mem_cons.mpr ⟨mw_1762, (List.forall_mem_cons.mpr ⟨mw_1764, (fun _ h => absurd h List.not_mem_nil)⟩)⟩)⟩)⟩)⟩)⟩)⟩)⟩), it_X12⟩⟩
theorem wi_parse : ∀ w ∈ ww_parse, w ∈ lw_tbl := List.forall_mem_cons.mpr ⟨mw_2293, List.forall_mem_append.mpr ⟨(List.forall_mem_cons.mpr ⟨mw_1795, (List.forall_mem_cons.mpr ⟨mw_1801, (List.forall_mem_cons.mpr ⟨mw_1808, (List.forall_mem_cons.mpr ⟨mw_1777, (List.forall_mem_cons.mpr ⟨mw_1773, (List.forall_mem_cons.mpr ⟨mw_1774, (List.forall_mem_cons.mpr ⟨mw_1776, (List.forall_mem_cons.mpr ⟨mw_1762, (fun _ h => absurd h List.not_mem_nil)⟩)⟩)⟩)⟩)⟩)⟩)⟩)⟩), it_X12⟩⟩
theorem wi_gc_read : ∀ w ∈ ww_gc_read, w ∈ lw_tbl := List.forall_mem_cons.mpr ⟨mw_2226, List.forall_mem_append.mpr ⟨(List.forall_mem_cons.mpr ⟨mw_1760, (List.forall_mem_cons.mpr ⟨mw_1878, (List.forall_mem_cons.mpr ⟨mw_1827, (List.forall_mem_cons.mpr ⟨mw_1880, (List.forall_mem_cons.mpr ⟨mw_1879, (List.forall_mem_cons.mpr ⟨mw_1795, (fun _ h => absurd h List.not_mem_nil)⟩)⟩)⟩)⟩)⟩)⟩), (List.forall_mem_append.mpr ⟨it_X12, (List.forall_mem_append.mpr ⟨wi_lexer, (List.forall_mem_append.mpr ⟨(by unfold wsV; exact List.forall_mem_append.mpr ⟨(List.forall_mem_cons.mpr ⟨mw_2227, (List.forall_mem_cons.mpr ⟨mw_2229, (List.forall_mem_cons.mpr ⟨mw_4, (List.forall_mem_cons.mpr ⟨mw_33, (fun _ h => absurd h List.not_mem_nil)⟩)⟩)⟩)⟩), wi_lexer⟩), (List.forall_mem_append.mpr ⟨wi_parse, (by unfold wsV; exact List.forall_mem_append.mpr ⟨(List.forall_mem_cons.mpr ⟨mw_2290, (List.forall_mem_cons.mpr ⟨mw_2292, (List.forall_mem_cons.mpr ⟨mw_5, (List.forall_mem_cons.mpr ⟨mw_33, (fun _ h => absurd h List.not_mem_nil)⟩)⟩)⟩)⟩), wi_parse⟩)⟩)⟩)⟩)⟩)⟩⟩
theorem wi_be : ∀ w ∈ ww_be, w ∈ lw_tbl := List.forall_mem_cons.mpr ⟨mw_2701, List.forall_mem_append.mpr ⟨(List.forall_mem_cons.mpr ⟨mw_1852, (List.forall_mem_cons.mpr ⟨mw_1853, (fun _ h => absurd h List.not_mem_nil)⟩)⟩), it_X12⟩⟩
theorem wi_start : ∀ w ∈ ww_start, w ∈ lw_tbl := List.forall_mem_cons.mpr ⟨mw_2697, List.forall_mem_append.mpr ⟨(List.forall_mem_cons.mpr ⟨mw_1851, (List.forall_mem_cons.mpr ⟨mw_1801, (fun _ h => absurd h List.not_mem_nil)⟩)⟩), (List.forall_mem_append.mpr ⟨it_X12, (List.forall_mem_append.mpr ⟨wi_be, (by unfold wsV; exact List.forall_mem_append.mpr ⟨(List.forall_mem_cons.mpr ⟨mw_2698, (List.forall_mem_cons.mpr ⟨mw_2700, (List.forall_mem_cons.mpr ⟨mw_10, (List.forall_mem_cons.mpr ⟨mw_33, (fun _ h => absurd h List.not_mem_nil)⟩)⟩)⟩)⟩), wi_be⟩)⟩)⟩)⟩⟩
theorem wi_flow : ∀ w ∈ ww_flow, w ∈ lw_tbl := List.forall_mem_cons.mpr ⟨mw_2693, List.forall_mem_append.mpr ⟨(List.forall_mem_cons.mpr ⟨mw_1871, (List.forall_mem_cons.mpr ⟨mw_1873, (List.forall_mem_cons.mpr ⟨mw_1761, (List.forall_mem_cons.mpr ⟨mw_1862, (List.forall_mem_cons.mpr ⟨mw_1859, (List.forall_mem_cons.mpr ⟨mw_1876, (List.forall_mem_cons.mpr ⟨mw_1777, (fun _ h => absurd h List.not_mem_nil)⟩)⟩)⟩)⟩)⟩)⟩)⟩), (List.forall_mem_append.mpr ⟨it_X12, (List.forall_mem_append.mpr ⟨wi_start, (by unfold wsV; exact List.forall_mem_append.mpr ⟨(List.forall_mem_cons.mpr ⟨mw_2694, (List.forall_mem_cons.mpr ⟨mw_2696, (List.forall_mem_cons.mpr ⟨mw_9, (List.forall_mem_cons.mpr ⟨mw_33, (fun _ h => absurd h List.not_mem_nil)⟩)⟩)⟩)⟩), wi_start⟩)⟩)⟩)⟩⟩
theorem wi_methodsTold : ∀ w ∈ ww_methodsTold, w ∈ lw_tbl := List.forall_mem_cons.mpr ⟨mw_2529, List.forall_mem_append.mpr ⟨(List.forall_mem_cons.mpr ⟨mw_1795, (fun _ h => absurd h List.not_mem_nil)⟩), it_X12⟩⟩
theorem wi_judgeAll : ∀ w ∈ ww_judgeAll, w ∈ lw_tbl := List.forall_mem_cons.mpr ⟨mw_2525, List.forall_mem_append.mpr ⟨(List.forall_mem_cons.mpr ⟨mw_1827, (List.forall_mem_cons.mpr ⟨mw_1825, (List.forall_mem_cons.mpr ⟨mw_1826, (List.forall_mem_cons.mpr ⟨mw_1833, (List.forall_mem_cons.mpr ⟨mw_1828, (List.forall_mem_cons.mpr ⟨mw_1848, (List.forall_mem_cons.mpr ⟨mw_1761, (List.forall_mem_cons.mpr ⟨mw_1801, (List.forall_mem_cons.mpr ⟨mw_1777, (fun _ h => absurd h List.not_mem_nil)⟩)⟩)⟩)⟩)⟩)⟩)⟩)⟩)⟩), (List.forall_mem_append.mpr ⟨it_X12, (List.forall_mem_append.mpr ⟨wi_methodsTold, (List.forall_mem_append.mpr ⟨(by unfold wsV; exact List.forall_mem_append.mpr ⟨(List.forall_mem_cons.mpr ⟨mw_2526, (List.forall_mem_cons.mpr ⟨mw_2528, (List.forall_mem_cons.mpr ⟨mw_7, (List.forall_mem_cons.mpr ⟨mw_33, (fun _ h => absurd h List.not_mem_nil)⟩)⟩)⟩)⟩), wi_methodsTold⟩), (List.forall_mem_append.mpr ⟨wi_flow, (by unfold wsV; exact List.forall_mem_append.mpr ⟨(List.forall_mem_cons.mpr ⟨mw_2690, (List.forall_mem_cons.mpr ⟨mw_2692, (List.forall_mem_cons.mpr ⟨mw_8, (List.forall_mem_cons.mpr ⟨mw_33, (fun _ h => absurd h List.not_mem_nil)⟩)⟩)⟩)⟩), wi_flow⟩)⟩)⟩)⟩)⟩)⟩⟩
theorem wi_isGood : ∀ w ∈ ww_isGood, w ∈ lw_tbl := List.forall_mem_cons.mpr ⟨mw_2753, List.forall_mem_append.mpr ⟨(List.forall_mem_cons.mpr ⟨mw_1827, (List.forall_mem_cons.mpr ⟨mw_1825, (fun _ h => absurd h List.not_mem_nil)⟩)⟩), (List.forall_mem_append.mpr ⟨it_X12, (List.forall_mem_append.mpr ⟨wi_judgeAll, (by unfold wsV; exact List.forall_mem_append.mpr ⟨(List.forall_mem_cons.mpr ⟨mw_2522, (List.forall_mem_cons.mpr ⟨mw_2524, (List.forall_mem_cons.mpr ⟨mw_6, (List.forall_mem_cons.mpr ⟨mw_33, (fun _ h => absurd h List.not_mem_nil)⟩)⟩)⟩)⟩), wi_judgeAll⟩)⟩)⟩)⟩⟩
theorem wi_gc_judge : ∀ w ∈ ww_gc_judge, w ∈ lw_tbl := List.forall_mem_cons.mpr ⟨mw_2749, List.forall_mem_append.mpr ⟨(List.forall_mem_cons.mpr ⟨mw_1879, (List.forall_mem_cons.mpr ⟨mw_1825, (fun _ h => absurd h List.not_mem_nil)⟩)⟩), (List.forall_mem_append.mpr ⟨wi_isGood, (List.forall_mem_append.mpr ⟨(by unfold wsV; exact List.forall_mem_append.mpr ⟨(List.forall_mem_cons.mpr ⟨mw_2750, (List.forall_mem_cons.mpr ⟨mw_2752, (List.forall_mem_cons.mpr ⟨mw_11, (List.forall_mem_cons.mpr ⟨mw_33, (fun _ h => absurd h List.not_mem_nil)⟩)⟩)⟩)⟩), wi_isGood⟩), it_X12⟩)⟩)⟩⟩
theorem wi_tokens : ∀ w ∈ ww_tokens, w ∈ lw_tbl := List.forall_mem_cons.mpr ⟨mw_2761, List.forall_mem_append.mpr ⟨(List.forall_mem_cons.mpr ⟨mw_1761, (fun _ h => absurd h List.not_mem_nil)⟩), it_X12⟩⟩
theorem wi_isToken : ∀ w ∈ ww_isToken, w ∈ lw_tbl := List.forall_mem_cons.mpr ⟨mw_2769, List.forall_mem_append.mpr ⟨(fun _ h => absurd h List.not_mem_nil), (List.forall_mem_append.mpr ⟨wi_tokens, (by unfold wsV; exact List.forall_mem_append.mpr ⟨(List.forall_mem_cons.mpr ⟨mw_2758, (List.forall_mem_cons.mpr ⟨mw_2760, (List.forall_mem_cons.mpr ⟨mw_12, (List.forall_mem_cons.mpr ⟨mw_33, (fun _ h => absurd h List.not_mem_nil)⟩)⟩)⟩)⟩), wi_tokens⟩)⟩)⟩⟩
theorem wi_mexpAt : ∀ w ∈ ww_mexpAt, w ∈ lw_tbl := List.forall_mem_cons.mpr ⟨mw_2789, List.forall_mem_append.mpr ⟨(List.forall_mem_cons.mpr ⟨mw_1833, (fun _ h => absurd h List.not_mem_nil)⟩), it_X12⟩⟩
theorem wi_gc_told : ∀ w ∈ ww_gc_told, w ∈ lw_tbl := List.forall_mem_cons.mpr ⟨mw_2757, List.forall_mem_append.mpr ⟨(List.forall_mem_cons.mpr ⟨mw_1882, (List.forall_mem_cons.mpr ⟨mw_1801, (List.forall_mem_cons.mpr ⟨mw_1795, (fun _ h => absurd h List.not_mem_nil)⟩)⟩)⟩), (List.forall_mem_append.mpr ⟨it_X12, (List.forall_mem_append.mpr ⟨wi_tokens, (by unfold wsV; exact List.forall_mem_append.mpr ⟨(List.forall_mem_cons.mpr ⟨mw_2758, (List.forall_mem_cons.mpr ⟨mw_2760, (List.forall_mem_cons.mpr ⟨mw_12, (List.forall_mem_cons.mpr ⟨mw_33, (fun _ h => absurd h List.not_mem_nil)⟩)⟩)⟩)⟩), wi_tokens⟩)⟩)⟩)⟩⟩
theorem wi_gc_token : ∀ w ∈ ww_gc_token, w ∈ lw_tbl := List.forall_mem_cons.mpr ⟨mw_2765, List.forall_mem_append.mpr ⟨(fun _ h => absurd h List.not_mem_nil), (List.forall_mem_append.mpr ⟨wi_isToken, (by unfold wsV; exact List.forall_mem_append.mpr ⟨(List.forall_mem_cons.mpr ⟨mw_2766, (List.forall_mem_cons.mpr ⟨mw_2768, (List.forall_mem_cons.mpr ⟨mw_13, (List.forall_mem_cons.mpr ⟨mw_33, (fun _ h => absurd h List.not_mem_nil)⟩)⟩)⟩)⟩), wi_isToken⟩)⟩)⟩⟩
theorem wi_gc_method : ∀ w ∈ ww_gc_method, w ∈ lw_tbl := List.forall_mem_cons.mpr ⟨mw_2773, List.forall_mem_append.mpr ⟨(List.forall_mem_cons.mpr ⟨mw_1795, (fun _ h => absurd h List.not_mem_nil)⟩), it_X12⟩⟩
theorem wi_gc_variable : ∀ w ∈ ww_gc_variable, w ∈ lw_tbl := List.forall_mem_cons.mpr ⟨mw_2777, List.forall_mem_append.mpr ⟨(List.forall_mem_cons.mpr ⟨mw_1801, (fun _ h => absurd h List.not_mem_nil)⟩), it_X12⟩⟩
theorem wi_gc_means : ∀ w ∈ ww_gc_means, w ∈ lw_tbl := List.forall_mem_cons.mpr ⟨mw_2781, List.forall_mem_append.mpr ⟨(fun _ h => absurd h List.not_mem_nil), (List.forall_mem_append.mpr ⟨wi_isToken, (by unfold wsV; exact List.forall_mem_append.mpr ⟨(List.forall_mem_cons.mpr ⟨mw_2766, (List.forall_mem_cons.mpr ⟨mw_2768, (List.forall_mem_cons.mpr ⟨mw_13, (List.forall_mem_cons.mpr ⟨mw_33, (fun _ h => absurd h List.not_mem_nil)⟩)⟩)⟩)⟩), wi_isToken⟩)⟩)⟩⟩
theorem wi_gc_type : ∀ w ∈ ww_gc_type, w ∈ lw_tbl := List.forall_mem_cons.mpr ⟨mw_2785, List.forall_mem_append.mpr ⟨(fun _ h => absurd h List.not_mem_nil), (List.forall_mem_append.mpr ⟨wi_isGood, (List.forall_mem_append.mpr ⟨(by unfold wsV; exact List.forall_mem_append.mpr ⟨(List.forall_mem_cons.mpr ⟨mw_2750, (List.forall_mem_cons.mpr ⟨mw_2752, (List.forall_mem_cons.mpr ⟨mw_11, (List.forall_mem_cons.mpr ⟨mw_33, (fun _ h => absurd h List.not_mem_nil)⟩)⟩)⟩)⟩), wi_isGood⟩), (List.forall_mem_append.mpr ⟨wi_mexpAt, (by unfold wsV; exact List.forall_mem_append.mpr ⟨(List.forall_mem_cons.mpr ⟨mw_2786, (List.forall_mem_cons.mpr ⟨mw_2788, (List.forall_mem_cons.mpr ⟨mw_14, (List.forall_mem_cons.mpr ⟨mw_33, (fun _ h => absurd h List.not_mem_nil)⟩)⟩)⟩)⟩), wi_mexpAt⟩)⟩)⟩)⟩)⟩⟩
theorem wi_gc_constant : ∀ w ∈ ww_gc_constant, w ∈ lw_tbl := List.forall_mem_cons.mpr ⟨mw_2793, List.forall_mem_append.mpr ⟨(List.forall_mem_cons.mpr ⟨mw_2794, (fun _ h => absurd h List.not_mem_nil)⟩), (List.forall_mem_append.mpr ⟨wi_isGood, (List.forall_mem_append.mpr ⟨(by unfold wsV; exact List.forall_mem_append.mpr ⟨(List.forall_mem_cons.mpr ⟨mw_2750, (List.forall_mem_cons.mpr ⟨mw_2752, (List.forall_mem_cons.mpr ⟨mw_11, (List.forall_mem_cons.mpr ⟨mw_33, (fun _ h => absurd h List.not_mem_nil)⟩)⟩)⟩)⟩), wi_isGood⟩), (List.forall_mem_append.mpr ⟨wi_mexpAt, (by unfold wsV; exact List.forall_mem_append.mpr ⟨(List.forall_mem_cons.mpr ⟨mw_2786, (List.forall_mem_cons.mpr ⟨mw_2788, (List.forall_mem_cons.mpr ⟨mw_14, (List.forall_mem_cons.mpr ⟨mw_33, (fun _ h => absurd h List.not_mem_nil)⟩)⟩)⟩)⟩), wi_mexpAt⟩)⟩)⟩)⟩)⟩⟩
theorem wi_gc_ends : ∀ w ∈ ww_gc_ends, w ∈ lw_tbl := List.forall_mem_cons.mpr ⟨mw_2798, List.forall_mem_append.mpr ⟨(fun _ h => absurd h List.not_mem_nil), (List.forall_mem_append.mpr ⟨wi_isGood, (List.forall_mem_append.mpr ⟨(by unfold wsV; exact List.forall_mem_append.mpr ⟨(List.forall_mem_cons.mpr ⟨mw_2750, (List.forall_mem_cons.mpr ⟨mw_2752, (List.forall_mem_cons.mpr ⟨mw_11, (List.forall_mem_cons.mpr ⟨mw_33, (fun _ h => absurd h List.not_mem_nil)⟩)⟩)⟩)⟩), wi_isGood⟩), (List.forall_mem_append.mpr ⟨wi_isToken, (by unfold wsV; exact List.forall_mem_append.mpr ⟨(List.forall_mem_cons.mpr ⟨mw_2766, (List.forall_mem_cons.mpr ⟨mw_2768, (List.forall_mem_cons.mpr ⟨mw_13, (List.forall_mem_cons.mpr ⟨mw_33, (fun _ h => absurd h List.not_mem_nil)⟩)⟩)⟩)⟩), wi_isToken⟩)⟩)⟩)⟩)⟩⟩
theorem wi_gc_assigned : ∀ w ∈ ww_gc_assigned, w ∈ lw_tbl := List.forall_mem_cons.mpr ⟨mw_2802, List.forall_mem_append.mpr ⟨(fun _ h => absurd h List.not_mem_nil), (List.forall_mem_append.mpr ⟨wi_isGood, (List.forall_mem_append.mpr ⟨(by unfold wsV; exact List.forall_mem_append.mpr ⟨(List.forall_mem_cons.mpr ⟨mw_2750, (List.forall_mem_cons.mpr ⟨mw_2752, (List.forall_mem_cons.mpr ⟨mw_11, (List.forall_mem_cons.mpr ⟨mw_33, (fun _ h => absurd h List.not_mem_nil)⟩)⟩)⟩)⟩), wi_isGood⟩), (List.forall_mem_append.mpr ⟨wi_isToken, (by unfold wsV; exact List.forall_mem_append.mpr ⟨(List.forall_mem_cons.mpr ⟨mw_2766, (List.forall_mem_cons.mpr ⟨mw_2768, (List.forall_mem_cons.mpr ⟨mw_13, (List.forall_mem_cons.mpr ⟨mw_33, (fun _ h => absurd h List.not_mem_nil)⟩)⟩)⟩)⟩), wi_isToken⟩)⟩)⟩)⟩)⟩⟩
theorem wi_gc_argument : ∀ w ∈ ww_gc_argument, w ∈ lw_tbl := List.forall_mem_cons.mpr ⟨mw_2806, List.forall_mem_append.mpr ⟨(List.forall_mem_cons.mpr ⟨mw_1883, (fun _ h => absurd h List.not_mem_nil)⟩), it_X12⟩⟩
theorem wi_gc_input : ∀ w ∈ ww_gc_input, w ∈ lw_tbl := List.forall_mem_cons.mpr ⟨mw_2810, List.forall_mem_append.mpr ⟨(List.forall_mem_cons.mpr ⟨mw_1882, (List.forall_mem_cons.mpr ⟨mw_1881, (fun _ h => absurd h List.not_mem_nil)⟩)⟩), it_X12⟩⟩
theorem wi_gc_drain : ∀ w ∈ ww_gc_drain, w ∈ lw_tbl := List.forall_mem_cons.mpr ⟨mw_2814, List.forall_mem_append.mpr ⟨(List.forall_mem_cons.mpr ⟨mw_1882, (fun _ h => absurd h List.not_mem_nil)⟩), it_X12⟩⟩
theorem wi_gc_run : ∀ w ∈ ww_gc_run, w ∈ lw_tbl := List.forall_mem_cons.mpr ⟨mw_2818, List.forall_mem_append.mpr ⟨(List.forall_mem_cons.mpr ⟨mw_1795, (fun _ h => absurd h List.not_mem_nil)⟩), it_X12⟩⟩
theorem wi_gc_ran : ∀ w ∈ ww_gc_ran, w ∈ lw_tbl := List.forall_mem_cons.mpr ⟨mw_2890, List.forall_mem_append.mpr ⟨(List.forall_mem_cons.mpr ⟨mw_1880, (List.forall_mem_cons.mpr ⟨mw_2794, (fun _ h => absurd h List.not_mem_nil)⟩)⟩), it_X12⟩⟩
