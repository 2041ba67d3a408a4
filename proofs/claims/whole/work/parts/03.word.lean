/-! words by their places -/
theorem kw_1 : ((.initialized "StagedParsers") : Cond) ∈ AW_ := aw_1 1 rfl rfl
theorem kw_2 : ((.initialized "StagedParsers$Grammar") : Cond) ∈ AW_ := aw_1 2 rfl rfl
theorem kw_15 : ((.initialized "java/lang/Math") : Cond) ∈ AW_ := aw_1 15 rfl rfl
theorem kw_35 : ((.fieldLink "StagedParsers$Grammar" 9 "StagedParsers$Grammar" "kinds" "[I") : Cond) ∈ AW_ := aw_1 35 rfl rfl
theorem kw_36 : ((.fieldLink "StagedParsers$Grammar" 15 "StagedParsers$Grammar" "as" "[I") : Cond) ∈ AW_ := aw_1 36 rfl rfl
theorem kw_37 : ((.fieldLink "StagedParsers$Grammar" 18 "StagedParsers$Grammar" "bs" "[I") : Cond) ∈ AW_ := aw_1 37 rfl rfl
theorem kw_38 : ((.fieldLink "StagedParsers$Grammar" 21 "StagedParsers$Grammar" "cs" "[I") : Cond) ∈ AW_ := aw_1 38 rfl rfl
theorem kw_39 : ((.fieldLink "StagedParsers$Grammar" 24 "StagedParsers$Grammar" "heights" "[I") : Cond) ∈ AW_ := aw_1 39 rfl rfl
theorem kw_40 : ((.fieldLink "StagedParsers$Grammar" 27 "StagedParsers$Grammar" "bodyOf" "[I") : Cond) ∈ AW_ := aw_1 40 rfl rfl
theorem kw_41 : ((.fieldLink "StagedParsers$Grammar" 36 "StagedParsers$Grammar" "size" "I") : Cond) ∈ AW_ := aw_1 41 rfl rfl
theorem kw_42 : ((.laysFinal "StagedParsers$Grammar" "StagedParsers$Grammar" "kinds" "[I") : Cond) ∈ AW_ := aw_1 42 rfl rfl
theorem kw_44 : ((.laysFinal "StagedParsers$Grammar" "StagedParsers$Grammar" "as" "[I") : Cond) ∈ AW_ := aw_1 44 rfl rfl
theorem kw_46 : ((.laysFinal "StagedParsers$Grammar" "StagedParsers$Grammar" "bs" "[I") : Cond) ∈ AW_ := aw_1 46 rfl rfl
theorem kw_48 : ((.laysFinal "StagedParsers$Grammar" "StagedParsers$Grammar" "cs" "[I") : Cond) ∈ AW_ := aw_1 48 rfl rfl
theorem kw_50 : ((.laysFinal "StagedParsers$Grammar" "StagedParsers$Grammar" "heights" "[I") : Cond) ∈ AW_ := aw_1 50 rfl rfl
theorem kw_52 : ((.laysFinal "StagedParsers$Grammar" "StagedParsers$Grammar" "bodyOf" "[I") : Cond) ∈ AW_ := aw_1 52 rfl rfl
theorem kw_54 : ((.lays "StagedParsers$Grammar" "StagedParsers$Grammar" "size" "I") : Cond) ∈ AW_ := aw_1 54 rfl rfl
theorem kw_70 : ((.laysFinal "StagedParsers$Study" "StagedParsers$Study" "grammar" "LStagedParsers$Grammar;") : Cond) ∈ AW_ := aw_1 70 rfl rfl
theorem kw_72 : ((.laysFinal "StagedParsers$Study" "StagedParsers$Study" "emptyNodes" "[Z") : Cond) ∈ AW_ := aw_1 72 rfl rfl
theorem kw_74 : ((.laysFinal "StagedParsers$Study" "StagedParsers$Study" "beginners" "[Z") : Cond) ∈ AW_ := aw_1 74 rfl rfl
theorem kw_76 : ((.laysFinal "StagedParsers$Study" "StagedParsers$Study" "inBodies" "[Z") : Cond) ∈ AW_ := aw_1 76 rfl rfl
theorem kw_78 : ((.laysFinal "StagedParsers$Study" "StagedParsers$Study" "nodeLeads" "[I") : Cond) ∈ AW_ := aw_1 78 rfl rfl
theorem kw_80 : ((.laysFinal "StagedParsers$Study" "StagedParsers$Study" "ruleLeads" "[I") : Cond) ∈ AW_ := aw_1 80 rfl rfl
theorem kw_96 : ((.laysFinal "StagedParsers$Code" "StagedParsers$Code" "operations" "[I") : Cond) ∈ AW_ := aw_1 96 rfl rfl
theorem kw_98 : ((.laysFinal "StagedParsers$Code" "StagedParsers$Code" "ps" "[I") : Cond) ∈ AW_ := aw_1 98 rfl rfl
theorem kw_100 : ((.laysFinal "StagedParsers$Code" "StagedParsers$Code" "qs" "[I") : Cond) ∈ AW_ := aw_1 100 rfl rfl
theorem kw_102 : ((.laysFinal "StagedParsers$Code" "StagedParsers$Code" "pieceOf" "[I") : Cond) ∈ AW_ := aw_1 102 rfl rfl
theorem kw_104 : ((.laysFinal "StagedParsers$Code" "StagedParsers$Code" "entryOf" "[I") : Cond) ∈ AW_ := aw_1 104 rfl rfl
theorem kw_106 : ((.lays "StagedParsers$Code" "StagedParsers$Code" "size" "I") : Cond) ∈ AW_ := aw_1 106 rfl rfl
theorem kw_115 : ((.fieldLink "StagedParsers$Text" 9 "StagedParsers$Text" "signs" "[C") : Cond) ∈ AW_ := aw_1 115 rfl rfl
theorem kw_116 : ((.fieldLink "StagedParsers$Text" 15 "StagedParsers$Text" "size" "I") : Cond) ∈ AW_ := aw_1 116 rfl rfl
theorem kw_117 : ((.laysFinal "StagedParsers$Text" "StagedParsers$Text" "signs" "[C") : Cond) ∈ AW_ := aw_1 117 rfl rfl
theorem kw_119 : ((.lays "StagedParsers$Text" "StagedParsers$Text" "size" "I") : Cond) ∈ AW_ := aw_1 119 rfl rfl
theorem kw_135 : ((.fieldLink "StagedParsers$Frames" 9 "StagedParsers$Frames" "manners" "[I") : Cond) ∈ AW_ := aw_1 135 rfl rfl
theorem kw_136 : ((.fieldLink "StagedParsers$Frames" 15 "StagedParsers$Frames" "targets" "[I") : Cond) ∈ AW_ := aw_1 136 rfl rfl
theorem kw_137 : ((.fieldLink "StagedParsers$Frames" 18 "StagedParsers$Frames" "places" "[I") : Cond) ∈ AW_ := aw_1 137 rfl rfl
theorem kw_138 : ((.fieldLink "StagedParsers$Frames" 21 "StagedParsers$Frames" "heights" "[I") : Cond) ∈ AW_ := aw_1 138 rfl rfl
theorem kw_139 : ((.fieldLink "StagedParsers$Frames" 24 "StagedParsers$Frames" "size" "I") : Cond) ∈ AW_ := aw_1 139 rfl rfl
theorem kw_140 : ((.laysFinal "StagedParsers$Frames" "StagedParsers$Frames" "manners" "[I") : Cond) ∈ AW_ := aw_1 140 rfl rfl
theorem kw_142 : ((.laysFinal "StagedParsers$Frames" "StagedParsers$Frames" "targets" "[I") : Cond) ∈ AW_ := aw_1 142 rfl rfl
theorem kw_144 : ((.laysFinal "StagedParsers$Frames" "StagedParsers$Frames" "places" "[I") : Cond) ∈ AW_ := aw_1 144 rfl rfl
theorem kw_146 : ((.laysFinal "StagedParsers$Frames" "StagedParsers$Frames" "heights" "[I") : Cond) ∈ AW_ := aw_1 146 rfl rfl
theorem kw_148 : ((.lays "StagedParsers$Frames" "StagedParsers$Frames" "size" "I") : Cond) ∈ AW_ := aw_1 148 rfl rfl
theorem kw_165 : ((.laysFinal "StagedParsers$Machine" "StagedParsers$Machine" "code" "LStagedParsers$Code;") : Cond) ∈ AW_ := aw_1 165 rfl rfl
theorem kw_167 : ((.laysFinal "StagedParsers$Machine" "StagedParsers$Machine" "text" "LStagedParsers$Text;") : Cond) ∈ AW_ := aw_1 167 rfl rfl
theorem kw_169 : ((.laysFinal "StagedParsers$Machine" "StagedParsers$Machine" "frames" "LStagedParsers$Frames;") : Cond) ∈ AW_ := aw_1 169 rfl rfl
theorem kw_171 : ((.laysFinal "StagedParsers$Machine" "StagedParsers$Machine" "answers" "[I") : Cond) ∈ AW_ := aw_1 171 rfl rfl
theorem kw_173 : ((.laysFinal "StagedParsers$Machine" "StagedParsers$Machine" "registers" "[I") : Cond) ∈ AW_ := aw_1 173 rfl rfl
theorem kw_175 : ((.lays "StagedParsers$Machine" "StagedParsers$Machine" "answerCount" "I") : Cond) ∈ AW_ := aw_1 175 rfl rfl
theorem kw_177 : ((.lays "StagedParsers$Machine" "StagedParsers$Machine" "state" "I") : Cond) ∈ AW_ := aw_1 177 rfl rfl
theorem kw_179 : ((.lays "StagedParsers$Machine" "StagedParsers$Machine" "next" "I") : Cond) ∈ AW_ := aw_1 179 rfl rfl
theorem kw_181 : ((.lays "StagedParsers$Machine" "StagedParsers$Machine" "place" "I") : Cond) ∈ AW_ := aw_1 181 rfl rfl
theorem kw_183 : ((.lays "StagedParsers$Machine" "StagedParsers$Machine" "looks" "I") : Cond) ∈ AW_ := aw_1 183 rfl rfl
theorem kw_185 : ((.lays "StagedParsers$Machine" "StagedParsers$Machine" "far" "I") : Cond) ∈ AW_ := aw_1 185 rfl rfl
theorem kw_187 : ((.lays "StagedParsers$Machine" "StagedParsers$Machine" "bodies" "I") : Cond) ∈ AW_ := aw_1 187 rfl rfl
theorem kw_189 : ((.lays "StagedParsers$Machine" "StagedParsers$Machine" "depth" "I") : Cond) ∈ AW_ := aw_1 189 rfl rfl
theorem kw_191 : ((.lays "StagedParsers$Machine" "StagedParsers$Machine" "ran" "Z") : Cond) ∈ AW_ := aw_1 191 rfl rfl
theorem kw_200 : ((.laysFinal "StagedParsers" "StagedParsers" "grammar" "LStagedParsers$Grammar;") : Cond) ∈ AW_ := aw_1 200 rfl rfl
theorem kw_202 : ((.laysFinal "StagedParsers" "StagedParsers" "study" "LStagedParsers$Study;") : Cond) ∈ AW_ := aw_1 202 rfl rfl
theorem kw_204 : ((.laysFinal "StagedParsers" "StagedParsers" "code" "LStagedParsers$Code;") : Cond) ∈ AW_ := aw_1 204 rfl rfl
theorem kw_206 : ((.laysFinal "StagedParsers" "StagedParsers" "text" "LStagedParsers$Text;") : Cond) ∈ AW_ := aw_1 206 rfl rfl
theorem kw_208 : ((.laysFinal "StagedParsers" "StagedParsers" "machine" "LStagedParsers$Machine;") : Cond) ∈ AW_ := aw_1 208 rfl rfl
theorem kw_210 : ((.lays "StagedParsers" "StagedParsers" "staged" "Z") : Cond) ∈ AW_ := aw_1 210 rfl rfl
theorem kw_232 : ((.code ⟨"StagedParsers$Grammar", "body", "(I)I"⟩ prog_4_method_7_code 2 (some .int)) : Cond) ∈ AW_ := aw_1 232 rfl rfl
theorem kw_233 : ((.methodLink "StagedParsers$Grammar" 40 ⟨"StagedParsers$Grammar", "isRule", "(I)Z"⟩) : Cond) ∈ AW_ := aw_1 233 rfl rfl
theorem kw_234 : ((.instanceMethod ⟨"StagedParsers$Grammar", "isRule", "(I)Z"⟩) : Cond) ∈ AW_ := aw_1 234 rfl rfl
theorem kw_235 : ((.selects "StagedParsers$Grammar" ⟨"StagedParsers$Grammar", "isRule", "(I)Z"⟩ ⟨"StagedParsers$Grammar", "isRule", "(I)Z"⟩) : Cond) ∈ AW_ := aw_1 235 rfl rfl
theorem kw_236 : ((.code ⟨"StagedParsers$Grammar", "isRule", "(I)Z"⟩ prog_4_method_5_code 2 (some .boolean)) : Cond) ∈ AW_ := aw_1 236 rfl rfl
theorem kw_242 : ((.instanceMethod ⟨"StagedParsers$Grammar", "isNode", "(I)Z"⟩) : Cond) ∈ AW_ := aw_2 2 rfl rfl
theorem kw_243 : ((.selects "StagedParsers$Grammar" ⟨"StagedParsers$Grammar", "isNode", "(I)Z"⟩ ⟨"StagedParsers$Grammar", "isNode", "(I)Z"⟩) : Cond) ∈ AW_ := aw_2 3 rfl rfl
theorem kw_244 : ((.code ⟨"StagedParsers$Grammar", "isNode", "(I)Z"⟩ prog_4_method_4_code 2 (some .boolean)) : Cond) ∈ AW_ := aw_2 4 rfl rfl
theorem kw_248 : ((.code ⟨"StagedParsers$Grammar", "size", "()I"⟩ prog_4_method_2_code 1 (some .int)) : Cond) ∈ AW_ := aw_2 8 rfl rfl
theorem kw_254 : ((.code ⟨"StagedParsers$Grammar", "kind", "(I)I"⟩ prog_4_method_10_code 2 (some .int)) : Cond) ∈ AW_ := aw_2 14 rfl rfl
theorem kw_255 : ((.methodLink "StagedParsers$Grammar" 44 ⟨"StagedParsers$Grammar", "isNode", "(I)Z"⟩) : Cond) ∈ AW_ := aw_2 15 rfl rfl
theorem kw_259 : ((.code ⟨"StagedParsers$Grammar", "a", "(I)I"⟩ prog_4_method_11_code 2 (some .int)) : Cond) ∈ AW_ := aw_2 19 rfl rfl
theorem kw_263 : ((.code ⟨"StagedParsers$Grammar", "b", "(I)I"⟩ prog_4_method_12_code 2 (some .int)) : Cond) ∈ AW_ := aw_2 23 rfl rfl
theorem kw_293 : ((.instanceMethod ⟨"StagedParsers$Grammar", "hasBody", "(I)Z"⟩) : Cond) ∈ AW_ := aw_2 53 rfl rfl
theorem kw_294 : ((.selects "StagedParsers$Grammar" ⟨"StagedParsers$Grammar", "hasBody", "(I)Z"⟩ ⟨"StagedParsers$Grammar", "hasBody", "(I)Z"⟩) : Cond) ∈ AW_ := aw_2 54 rfl rfl
theorem kw_295 : ((.code ⟨"StagedParsers$Grammar", "hasBody", "(I)Z"⟩ prog_4_method_6_code 2 (some .boolean)) : Cond) ∈ AW_ := aw_2 55 rfl rfl
theorem kw_327 : ((.code ⟨"StagedParsers$Grammar", "c", "(I)I"⟩ prog_4_method_13_code 2 (some .int)) : Cond) ∈ AW_ := aw_2 87 rfl rfl
theorem kw_364 : ((.code ⟨"StagedParsers$Text", "size", "()I"⟩ prog_7_method_3_code 1 (some .int)) : Cond) ∈ AW_ := aw_2 124 rfl rfl
theorem kw_368 : ((.code ⟨"StagedParsers$Text", "erase", "()V"⟩ prog_7_method_5_code 1 none) : Cond) ∈ AW_ := aw_2 128 rfl rfl
theorem kw_402 : ((.static ⟨"StagedParsers", "isRegister", "(I)Z"⟩) : Cond) ∈ AW_ := aw_2 162 rfl rfl
theorem kw_403 : ((.code ⟨"StagedParsers", "isRegister", "(I)Z"⟩ prog_1_method_15_code 1 (some .boolean)) : Cond) ∈ AW_ := aw_2 163 rfl rfl
theorem kw_417 : ((.code ⟨"StagedParsers$Grammar", "bodies", "()I"⟩ prog_4_method_9_code 3 (some .int)) : Cond) ∈ AW_ := aw_2 177 rfl rfl
theorem kw_418 : ((.methodLink "StagedParsers$Grammar" 47 ⟨"StagedParsers$Grammar", "hasBody", "(I)Z"⟩) : Cond) ∈ AW_ := aw_2 178 rfl rfl
theorem kw_429 : ((.instanceMethod ⟨"StagedParsers$Grammar", "allows", "(IIII)Z"⟩) : Cond) ∈ AW_ := aw_2 189 rfl rfl
theorem kw_430 : ((.selects "StagedParsers$Grammar" ⟨"StagedParsers$Grammar", "allows", "(IIII)Z"⟩ ⟨"StagedParsers$Grammar", "allows", "(IIII)Z"⟩) : Cond) ∈ AW_ := aw_2 190 rfl rfl
theorem kw_431 : ((.code ⟨"StagedParsers$Grammar", "allows", "(IIII)Z"⟩ prog_4_method_14_code 5 (some .boolean)) : Cond) ∈ AW_ := aw_2 191 rfl rfl
theorem kw_433 : ((.static ⟨"StagedParsers", "isSign", "(I)Z"⟩) : Cond) ∈ AW_ := aw_2 193 rfl rfl
theorem kw_434 : ((.code ⟨"StagedParsers", "isSign", "(I)Z"⟩ prog_1_method_14_code 1 (some .boolean)) : Cond) ∈ AW_ := aw_2 194 rfl rfl
theorem kw_435 : ((.methodLink "StagedParsers$Grammar" 53 ⟨"StagedParsers$Grammar", "canBePart", "(I)Z"⟩) : Cond) ∈ AW_ := aw_2 195 rfl rfl
theorem kw_437 : ((.instanceMethod ⟨"StagedParsers$Grammar", "canBePart", "(I)Z"⟩) : Cond) ∈ AW_ := aw_2 197 rfl rfl
theorem kw_438 : ((.code ⟨"StagedParsers$Grammar", "canBePart", "(I)Z"⟩ prog_4_method_16_code 2 (some .boolean)) : Cond) ∈ AW_ := aw_2 198 rfl rfl
theorem kw_439 : ((.methodLink "StagedParsers$Grammar" 56 ⟨"StagedParsers$Grammar", "isWay", "(I)Z"⟩) : Cond) ∈ AW_ := aw_2 199 rfl rfl
theorem kw_440 : ((.static ⟨"StagedParsers$Grammar", "isWay", "(I)Z"⟩) : Cond) ∈ AW_ := aw_2 200 rfl rfl
theorem kw_441 : ((.code ⟨"StagedParsers$Grammar", "isWay", "(I)Z"⟩ prog_4_method_17_code 1 (some .boolean)) : Cond) ∈ AW_ := aw_2 201 rfl rfl
theorem kw_513 : ((.instanceMethod ⟨"StagedParsers$Grammar", "isFull", "()Z"⟩) : Cond) ∈ AW_ := aw_3 33 rfl rfl
theorem kw_514 : ((.selects "StagedParsers$Grammar" ⟨"StagedParsers$Grammar", "isFull", "()Z"⟩ ⟨"StagedParsers$Grammar", "isFull", "()Z"⟩) : Cond) ∈ AW_ := aw_3 34 rfl rfl
theorem kw_515 : ((.code ⟨"StagedParsers$Grammar", "isFull", "()Z"⟩ prog_4_method_3_code 1 (some .boolean)) : Cond) ∈ AW_ := aw_3 35 rfl rfl
theorem kw_535 : ((.code ⟨"StagedParsers$Grammar", "add", "(IIII)I"⟩ prog_4_method_15_code 6 (some .int)) : Cond) ∈ AW_ := aw_3 55 rfl rfl
theorem kw_536 : ((.methodLink "StagedParsers$Grammar" 62 ⟨"StagedParsers$Grammar", "isFull", "()Z"⟩) : Cond) ∈ AW_ := aw_3 56 rfl rfl
theorem kw_537 : ((.methodLink "StagedParsers$Grammar" 66 ⟨"StagedParsers$Grammar", "allows", "(IIII)Z"⟩) : Cond) ∈ AW_ := aw_3 57 rfl rfl
theorem kw_539 : ((.methodLink "StagedParsers$Grammar" 73 ⟨"java/lang/Math", "max", "(II)I"⟩) : Cond) ∈ AW_ := aw_3 59 rfl rfl
theorem kw_540 : ((.static ⟨"java/lang/Math", "max", "(II)I"⟩) : Cond) ∈ AW_ := aw_3 60 rfl rfl
theorem kw_541 : ((.code ⟨"java/lang/Math", "max", "(II)I"⟩ prog_13_method_65_code 2 (some .int)) : Cond) ∈ AW_ := aw_3 61 rfl rfl
theorem kw_555 : ((.code ⟨"StagedParsers$Grammar", "setBody", "(II)V"⟩ prog_4_method_8_code 3 none) : Cond) ∈ AW_ := aw_3 75 rfl rfl
theorem kw_612 : ((.code ⟨"StagedParsers$Text", "isFull", "()Z"⟩ prog_7_method_2_code 1 (some .boolean)) : Cond) ∈ AW_ := aw_3 132 rfl rfl
theorem kw_617 : ((.code ⟨"StagedParsers$Text", "append", "(C)V"⟩ prog_7_method_4_code 2 none) : Cond) ∈ AW_ := aw_3 137 rfl rfl
theorem kw_641 : ((.code ⟨"StagedParsers$Frames", "reset", "()V"⟩ prog_3_method_2_code 1 none) : Cond) ∈ AW_ := aw_3 161 rfl rfl
theorem kw_654 : ((.code ⟨"StagedParsers$Frames", "isFull", "()Z"⟩ prog_3_method_3_code 1 (some .boolean)) : Cond) ∈ AW_ := aw_3 174 rfl rfl
theorem kw_658 : ((.code ⟨"StagedParsers$Frames", "push", "(IIII)V"⟩ prog_3_method_5_code 5 none) : Cond) ∈ AW_ := aw_3 178 rfl rfl
theorem kw_691 : ((.code ⟨"StagedParsers$Text", "signAt", "(I)I"⟩ prog_7_method_6_code 2 (some .int)) : Cond) ∈ AW_ := aw_3 211 rfl rfl
theorem kw_700 : ((.code ⟨"StagedParsers$Frames", "size", "()I"⟩ prog_3_method_4_code 1 (some .int)) : Cond) ∈ AW_ := aw_3 220 rfl rfl
theorem kw_708 : ((.code ⟨"StagedParsers$Frames", "manner", "()I"⟩ prog_3_method_8_code 1 (some .int)) : Cond) ∈ AW_ := aw_3 228 rfl rfl
theorem kw_712 : ((.code ⟨"StagedParsers$Frames", "place", "()I"⟩ prog_3_method_10_code 1 (some .int)) : Cond) ∈ AW_ := aw_3 232 rfl rfl
theorem kw_720 : ((.code ⟨"StagedParsers$Frames", "height", "()I"⟩ prog_3_method_11_code 1 (some .int)) : Cond) ∈ AW_ := aw_4 0 rfl rfl
theorem kw_727 : ((.code ⟨"StagedParsers$Frames", "target", "()I"⟩ prog_3_method_9_code 1 (some .int)) : Cond) ∈ AW_ := aw_4 7 rfl rfl
theorem kw_731 : ((.code ⟨"StagedParsers$Frames", "pop", "()V"⟩ prog_3_method_6_code 1 none) : Cond) ∈ AW_ := aw_4 11 rfl rfl
theorem kw_766 : ((.code ⟨"StagedParsers$Frames", "movePlace", "(I)V"⟩ prog_3_method_7_code 2 none) : Cond) ∈ AW_ := aw_4 46 rfl rfl
theorem kw_845 : ((.lays "StagedParsersModel" "StagedParsersModel" "thrown" "I") : Cond) ∈ AW_ := aw_4 125 rfl rfl
theorem kw_847 : ((.lays "StagedParsersModel" "StagedParsersModel" "nodes" "I") : Cond) ∈ AW_ := aw_4 127 rfl rfl
theorem kw_849 : ((.laysFinal "StagedParsersModel" "StagedParsersModel" "kind" "[I") : Cond) ∈ AW_ := aw_4 129 rfl rfl
theorem kw_851 : ((.laysFinal "StagedParsersModel" "StagedParsersModel" "one" "[I") : Cond) ∈ AW_ := aw_4 131 rfl rfl
theorem kw_853 : ((.laysFinal "StagedParsersModel" "StagedParsersModel" "two" "[I") : Cond) ∈ AW_ := aw_4 133 rfl rfl
theorem kw_855 : ((.laysFinal "StagedParsersModel" "StagedParsersModel" "three" "[I") : Cond) ∈ AW_ := aw_4 135 rfl rfl
theorem kw_857 : ((.laysFinal "StagedParsersModel" "StagedParsersModel" "high" "[I") : Cond) ∈ AW_ := aw_4 137 rfl rfl
theorem kw_859 : ((.laysFinal "StagedParsersModel" "StagedParsersModel" "bodies" "[I") : Cond) ∈ AW_ := aw_4 139 rfl rfl
theorem kw_861 : ((.lays "StagedParsersModel" "StagedParsersModel" "staged" "Z") : Cond) ∈ AW_ := aw_4 141 rfl rfl
theorem kw_863 : ((.laysFinal "StagedParsersModel" "StagedParsersModel" "text" "[I") : Cond) ∈ AW_ := aw_4 143 rfl rfl
theorem kw_865 : ((.lays "StagedParsersModel" "StagedParsersModel" "length" "I") : Cond) ∈ AW_ := aw_4 145 rfl rfl
theorem kw_867 : ((.laysFinal "StagedParsersModel" "StagedParsersModel" "isEmpty" "[Z") : Cond) ∈ AW_ := aw_4 147 rfl rfl
theorem kw_869 : ((.laysFinal "StagedParsersModel" "StagedParsersModel" "isBeginning" "[Z") : Cond) ∈ AW_ := aw_4 149 rfl rfl
theorem kw_871 : ((.laysFinal "StagedParsersModel" "StagedParsersModel" "leading" "[I") : Cond) ∈ AW_ := aw_4 151 rfl rfl
theorem kw_873 : ((.laysFinal "StagedParsersModel" "StagedParsersModel" "within" "[Z") : Cond) ∈ AW_ := aw_4 153 rfl rfl
theorem kw_875 : ((.lays "StagedParsersModel" "StagedParsersModel" "open" "I") : Cond) ∈ AW_ := aw_4 155 rfl rfl
theorem kw_877 : ((.laysFinal "StagedParsersModel" "StagedParsersModel" "which" "[I") : Cond) ∈ AW_ := aw_4 157 rfl rfl
theorem kw_879 : ((.laysFinal "StagedParsersModel" "StagedParsersModel" "state" "[I") : Cond) ∈ AW_ := aw_4 159 rfl rfl
theorem kw_881 : ((.laysFinal "StagedParsersModel" "StagedParsersModel" "start" "[I") : Cond) ∈ AW_ := aw_4 161 rfl rfl
theorem kw_883 : ((.laysFinal "StagedParsersModel" "StagedParsersModel" "answer" "[I") : Cond) ∈ AW_ := aw_4 163 rfl rfl
theorem kw_885 : ((.laysFinal "StagedParsersModel" "StagedParsersModel" "mark" "[I") : Cond) ∈ AW_ := aw_4 165 rfl rfl
theorem kw_887 : ((.laysFinal "StagedParsersModel" "StagedParsersModel" "sign" "[I") : Cond) ∈ AW_ := aw_4 167 rfl rfl
theorem kw_889 : ((.lays "StagedParsersModel" "StagedParsersModel" "good" "Z") : Cond) ∈ AW_ := aw_4 169 rfl rfl
theorem kw_891 : ((.lays "StagedParsersModel" "StagedParsersModel" "at" "I") : Cond) ∈ AW_ := aw_4 171 rfl rfl
theorem kw_893 : ((.lays "StagedParsersModel" "StagedParsersModel" "value" "I") : Cond) ∈ AW_ := aw_4 173 rfl rfl
theorem kw_895 : ((.lays "StagedParsersModel" "StagedParsersModel" "tired" "Z") : Cond) ∈ AW_ := aw_4 175 rfl rfl
theorem kw_897 : ((.lays "StagedParsersModel" "StagedParsersModel" "running" "I") : Cond) ∈ AW_ := aw_4 177 rfl rfl
theorem kw_899 : ((.lays "StagedParsersModel" "StagedParsersModel" "bodiesRun" "I") : Cond) ∈ AW_ := aw_4 179 rfl rfl
theorem kw_901 : ((.lays "StagedParsersModel" "StagedParsersModel" "looks" "I") : Cond) ∈ AW_ := aw_4 181 rfl rfl
theorem kw_903 : ((.lays "StagedParsersModel" "StagedParsersModel" "far" "I") : Cond) ∈ AW_ := aw_4 183 rfl rfl
theorem kw_905 : ((.laysFinal "StagedParsersModel" "StagedParsersModel" "registers" "[I") : Cond) ∈ AW_ := aw_4 185 rfl rfl
theorem kw_907 : ((.lays "StagedParsersModel" "StagedParsersModel" "parsed" "Z") : Cond) ∈ AW_ := aw_4 187 rfl rfl
theorem kw_909 : ((.lays "StagedParsersModel" "StagedParsersModel" "lastPlace" "I") : Cond) ∈ AW_ := aw_4 189 rfl rfl
theorem kw_911 : ((.lays "StagedParsersModel" "StagedParsersModel" "lastGood" "Z") : Cond) ∈ AW_ := aw_4 191 rfl rfl
theorem ks_0 : (.selects "StagedParsers$Study" ⟨"StagedParsers$Study", "findNodesInBodies", "()V"⟩ ⟨"StagedParsers$Study", "findNodesInBodies", "()V"⟩ : Cond) ∈ AW_ := aw_sel (q := (⟨"StagedParsers$Study", "findNodesInBodies", "()V"⟩, 6)) 0 rfl
theorem ks_1 : (.selects "StagedParsers$Study" ⟨"StagedParsers$Study", "unmark", "([Z)V"⟩ ⟨"StagedParsers$Study", "unmark", "([Z)V"⟩ : Cond) ∈ AW_ := aw_sel (q := (⟨"StagedParsers$Study", "unmark", "([Z)V"⟩, 6)) 1 rfl
theorem ks_2 : (.selects "StagedParsers$Study" ⟨"StagedParsers$Study", "markInBodies", "(I)V"⟩ ⟨"StagedParsers$Study", "markInBodies", "(I)V"⟩ : Cond) ∈ AW_ := aw_sel (q := (⟨"StagedParsers$Study", "markInBodies", "(I)V"⟩, 6)) 2 rfl
theorem ks_3 : (.selects "StagedParsers$Study" ⟨"StagedParsers$Study", "findLeads", "()V"⟩ ⟨"StagedParsers$Study", "findLeads", "()V"⟩ : Cond) ∈ AW_ := aw_sel (q := (⟨"StagedParsers$Study", "findLeads", "()V"⟩, 6)) 3 rfl
theorem ks_4 : (.selects "StagedParsers$Study" ⟨"StagedParsers$Study", "findEmptyNodes", "()V"⟩ ⟨"StagedParsers$Study", "findEmptyNodes", "()V"⟩ : Cond) ∈ AW_ := aw_sel (q := (⟨"StagedParsers$Study", "findEmptyNodes", "()V"⟩, 6)) 4 rfl
theorem ks_5 : (.selects "StagedParsers$Study" ⟨"StagedParsers$Study", "emptyByParts", "(I)Z"⟩ ⟨"StagedParsers$Study", "emptyByParts", "(I)Z"⟩ : Cond) ∈ AW_ := aw_sel (q := (⟨"StagedParsers$Study", "emptyByParts", "(I)Z"⟩, 6)) 5 rfl
theorem ks_6 : (.selects "StagedParsers$Study" ⟨"StagedParsers$Study", "marked", "([ZI)Z"⟩ ⟨"StagedParsers$Study", "marked", "([ZI)Z"⟩ : Cond) ∈ AW_ := aw_sel (q := (⟨"StagedParsers$Study", "marked", "([ZI)Z"⟩, 6)) 6 rfl
theorem ks_7 : (.selects "StagedParsers$Study" ⟨"StagedParsers$Study", "leadsByParts", "(I)I"⟩ ⟨"StagedParsers$Study", "leadsByParts", "(I)I"⟩ : Cond) ∈ AW_ := aw_sel (q := (⟨"StagedParsers$Study", "leadsByParts", "(I)I"⟩, 6)) 7 rfl
theorem ks_8 : (.selects "StagedParsers$Study" ⟨"StagedParsers$Study", "leadsOf", "(I)I"⟩ ⟨"StagedParsers$Study", "leadsOf", "(I)I"⟩ : Cond) ∈ AW_ := aw_sel (q := (⟨"StagedParsers$Study", "leadsOf", "(I)I"⟩, 6)) 8 rfl
theorem ks_9 : (.selects "StagedParsers$Study" ⟨"StagedParsers$Study", "hasRuleWithoutBody", "()Z"⟩ ⟨"StagedParsers$Study", "hasRuleWithoutBody", "()Z"⟩ : Cond) ∈ AW_ := aw_sel (q := (⟨"StagedParsers$Study", "hasRuleWithoutBody", "()Z"⟩, 6)) 9 rfl
theorem ks_10 : (.selects "StagedParsers$Study" ⟨"StagedParsers$Study", "hasEndlessLoop", "()Z"⟩ ⟨"StagedParsers$Study", "hasEndlessLoop", "()Z"⟩ : Cond) ∈ AW_ := aw_sel (q := (⟨"StagedParsers$Study", "hasEndlessLoop", "()Z"⟩, 6)) 10 rfl
theorem ks_11 : (.selects "StagedParsers$Study" ⟨"StagedParsers$Study", "couldLoop", "(I)Z"⟩ ⟨"StagedParsers$Study", "couldLoop", "(I)Z"⟩ : Cond) ∈ AW_ := aw_sel (q := (⟨"StagedParsers$Study", "couldLoop", "(I)Z"⟩, 6)) 11 rfl
theorem ks_12 : (.selects "StagedParsers$Study" ⟨"StagedParsers$Study", "hasRuleThatLeadsToItself", "()Z"⟩ ⟨"StagedParsers$Study", "hasRuleThatLeadsToItself", "()Z"⟩ : Cond) ∈ AW_ := aw_sel (q := (⟨"StagedParsers$Study", "hasRuleThatLeadsToItself", "()Z"⟩, 6)) 12 rfl
theorem ks_13 : (.selects "StagedParsers$Code" ⟨"StagedParsers$Code", "put", "(III)V"⟩ ⟨"StagedParsers$Code", "put", "(III)V"⟩ : Cond) ∈ AW_ := aw_sel (q := (⟨"StagedParsers$Code", "put", "(III)V"⟩, 6)) 13 rfl
theorem ks_14 : (.selects "StagedParsers$Code" ⟨"StagedParsers$Code", "writePiece", "(IIII)V"⟩ ⟨"StagedParsers$Code", "writePiece", "(IIII)V"⟩ : Cond) ∈ AW_ := aw_sel (q := (⟨"StagedParsers$Code", "writePiece", "(IIII)V"⟩, 6)) 14 rfl
theorem ks_15 : (.selects "StagedParsers$Code" ⟨"StagedParsers$Code", "putCall", "(I)V"⟩ ⟨"StagedParsers$Code", "putCall", "(I)V"⟩ : Cond) ∈ AW_ := aw_sel (q := (⟨"StagedParsers$Code", "putCall", "(I)V"⟩, 6)) 15 rfl
theorem ks_16 : (.selects "StagedParsers$Code" ⟨"StagedParsers$Code", "piece", "(I)I"⟩ ⟨"StagedParsers$Code", "piece", "(I)I"⟩ : Cond) ∈ AW_ := aw_sel (q := (⟨"StagedParsers$Code", "piece", "(I)I"⟩, 6)) 16 rfl
theorem ks_17 : (.selects "StagedParsers$Code" ⟨"StagedParsers$Code", "writeOr", "(II)V"⟩ ⟨"StagedParsers$Code", "writeOr", "(II)V"⟩ : Cond) ∈ AW_ := aw_sel (q := (⟨"StagedParsers$Code", "writeOr", "(II)V"⟩, 6)) 17 rfl
theorem ks_18 : (.selects "StagedParsers$Code" ⟨"StagedParsers$Code", "writeNot", "(I)V"⟩ ⟨"StagedParsers$Code", "writeNot", "(I)V"⟩ : Cond) ∈ AW_ := aw_sel (q := (⟨"StagedParsers$Code", "writeNot", "(I)V"⟩, 6)) 18 rfl
theorem ks_19 : (.selects "StagedParsers$Code" ⟨"StagedParsers$Code", "writeMany", "(II)V"⟩ ⟨"StagedParsers$Code", "writeMany", "(II)V"⟩ : Cond) ∈ AW_ := aw_sel (q := (⟨"StagedParsers$Code", "writeMany", "(II)V"⟩, 6)) 19 rfl
theorem ks_20 : (.selects "StagedParsers$Code" ⟨"StagedParsers$Code", "writeChain", "(II)V"⟩ ⟨"StagedParsers$Code", "writeChain", "(II)V"⟩ : Cond) ∈ AW_ := aw_sel (q := (⟨"StagedParsers$Code", "writeChain", "(II)V"⟩, 6)) 20 rfl
theorem ks_21 : (.selects "StagedParsers$Grammar" ⟨"StagedParsers$Grammar", "canBePart", "(I)Z"⟩ ⟨"StagedParsers$Grammar", "canBePart", "(I)Z"⟩ : Cond) ∈ AW_ := aw_sel (q := (⟨"StagedParsers$Grammar", "canBePart", "(I)Z"⟩, 7)) 21 rfl
theorem ks_23 : (.selects "StagedParsers$Study" ⟨"StagedParsers$Study", "findBeginners", "(I)V"⟩ ⟨"StagedParsers$Study", "findBeginners", "(I)V"⟩ : Cond) ∈ AW_ := aw_sel (q := (⟨"StagedParsers$Study", "findBeginners", "(I)V"⟩, 6)) 23 rfl
theorem ks_24 : (.selects "StagedParsers$Study" ⟨"StagedParsers$Study", "beginsByParts", "(II)Z"⟩ ⟨"StagedParsers$Study", "beginsByParts", "(II)Z"⟩ : Cond) ∈ AW_ := aw_sel (q := (⟨"StagedParsers$Study", "beginsByParts", "(II)Z"⟩, 6)) 24 rfl
theorem ks_25 : (.selects "StagedParsers$Machine" ⟨"StagedParsers$Machine", "reset", "()V"⟩ ⟨"StagedParsers$Machine", "reset", "()V"⟩ : Cond) ∈ AW_ := aw_sel (q := (⟨"StagedParsers$Machine", "reset", "()V"⟩, 14)) 25 rfl
theorem ks_26 : (.selects "StagedParsers$Machine" ⟨"StagedParsers$Machine", "callBody", "(I)V"⟩ ⟨"StagedParsers$Machine", "callBody", "(I)V"⟩ : Cond) ∈ AW_ := aw_sel (q := (⟨"StagedParsers$Machine", "callBody", "(I)V"⟩, 14)) 26 rfl
theorem ks_27 : (.selects "StagedParsers$Machine" ⟨"StagedParsers$Machine", "pushFrame", "(II)V"⟩ ⟨"StagedParsers$Machine", "pushFrame", "(II)V"⟩ : Cond) ∈ AW_ := aw_sel (q := (⟨"StagedParsers$Machine", "pushFrame", "(II)V"⟩, 14)) 27 rfl
theorem ks_28 : (.selects "StagedParsers$Machine" ⟨"StagedParsers$Machine", "obey", "(III)V"⟩ ⟨"StagedParsers$Machine", "obey", "(III)V"⟩ : Cond) ∈ AW_ := aw_sel (q := (⟨"StagedParsers$Machine", "obey", "(III)V"⟩, 14)) 28 rfl
theorem ks_29 : (.selects "StagedParsers$Machine" ⟨"StagedParsers$Machine", "give", "(I)V"⟩ ⟨"StagedParsers$Machine", "give", "(I)V"⟩ : Cond) ∈ AW_ := aw_sel (q := (⟨"StagedParsers$Machine", "give", "(I)V"⟩, 14)) 29 rfl
theorem ks_30 : (.selects "StagedParsers$Machine" ⟨"StagedParsers$Machine", "take", "(II)V"⟩ ⟨"StagedParsers$Machine", "take", "(II)V"⟩ : Cond) ∈ AW_ := aw_sel (q := (⟨"StagedParsers$Machine", "take", "(II)V"⟩, 14)) 30 rfl
theorem ks_31 : (.selects "StagedParsers$Machine" ⟨"StagedParsers$Machine", "failAt", "(I)V"⟩ ⟨"StagedParsers$Machine", "failAt", "(I)V"⟩ : Cond) ∈ AW_ := aw_sel (q := (⟨"StagedParsers$Machine", "failAt", "(I)V"⟩, 14)) 31 rfl
theorem ks_32 : (.selects "StagedParsers$Machine" ⟨"StagedParsers$Machine", "stops", "(I)Z"⟩ ⟨"StagedParsers$Machine", "stops", "(I)Z"⟩ : Cond) ∈ AW_ := aw_sel (q := (⟨"StagedParsers$Machine", "stops", "(I)Z"⟩, 14)) 32 rfl
theorem ks_33 : (.selects "StagedParsers$Machine" ⟨"StagedParsers$Machine", "goOnFromGuard", "()V"⟩ ⟨"StagedParsers$Machine", "goOnFromGuard", "()V"⟩ : Cond) ∈ AW_ := aw_sel (q := (⟨"StagedParsers$Machine", "goOnFromGuard", "()V"⟩, 14)) 33 rfl
theorem ks_34 : (.selects "StagedParsers$Machine" ⟨"StagedParsers$Machine", "dropFrame", "()V"⟩ ⟨"StagedParsers$Machine", "dropFrame", "()V"⟩ : Cond) ∈ AW_ := aw_sel (q := (⟨"StagedParsers$Machine", "dropFrame", "()V"⟩, 14)) 34 rfl
theorem ks_35 : (.selects "StagedParsers$Machine" ⟨"StagedParsers$Machine", "goBack", "()V"⟩ ⟨"StagedParsers$Machine", "goBack", "()V"⟩ : Cond) ∈ AW_ := aw_sel (q := (⟨"StagedParsers$Machine", "goBack", "()V"⟩, 14)) 35 rfl
theorem ks_36 : (.selects "StagedParsers$Machine" ⟨"StagedParsers$Machine", "joinLastTwo", "(I)I"⟩ ⟨"StagedParsers$Machine", "joinLastTwo", "(I)I"⟩ : Cond) ∈ AW_ := aw_sel (q := (⟨"StagedParsers$Machine", "joinLastTwo", "(I)I"⟩, 14)) 36 rfl
theorem ks_37 : (.selects "StagedParsers$Machine" ⟨"StagedParsers$Machine", "withdraw", "()I"⟩ ⟨"StagedParsers$Machine", "withdraw", "()I"⟩ : Cond) ∈ AW_ := aw_sel (q := (⟨"StagedParsers$Machine", "withdraw", "()I"⟩, 14)) 37 rfl
theorem ks_38 : (.selects "StagedParsers$Machine" ⟨"StagedParsers$Machine", "linkLastThree", "()I"⟩ ⟨"StagedParsers$Machine", "linkLastThree", "()I"⟩ : Cond) ∈ AW_ := aw_sel (q := (⟨"StagedParsers$Machine", "linkLastThree", "()I"⟩, 14)) 38 rfl
theorem ks_39 : (.selects "StagedParsers$Machine" ⟨"StagedParsers$Machine", "store", "(II)V"⟩ ⟨"StagedParsers$Machine", "store", "(II)V"⟩ : Cond) ∈ AW_ := aw_sel (q := (⟨"StagedParsers$Machine", "store", "(II)V"⟩, 14)) 39 rfl
theorem ks_40 : (.selects "StagedParsersModel" ⟨"StagedParsersModel", "fits", "(IIII)Z"⟩ ⟨"StagedParsersModel", "fits", "(IIII)Z"⟩ : Cond) ∈ AW_ := aw_sel (q := (⟨"StagedParsersModel", "fits", "(IIII)Z"⟩, 34)) 40 rfl
theorem ks_41 : (.selects "StagedParsersModel" ⟨"StagedParsersModel", "isNode", "(I)Z"⟩ ⟨"StagedParsersModel", "isNode", "(I)Z"⟩ : Cond) ∈ AW_ := aw_sel (q := (⟨"StagedParsersModel", "isNode", "(I)Z"⟩, 34)) 41 rfl
theorem ks_42 : (.selects "StagedParsersModel" ⟨"StagedParsersModel", "height", "(III)I"⟩ ⟨"StagedParsersModel", "height", "(III)I"⟩ : Cond) ∈ AW_ := aw_sel (q := (⟨"StagedParsersModel", "height", "(III)I"⟩, 34)) 42 rfl
theorem ks_43 : (.selects "StagedParsersModel" ⟨"StagedParsersModel", "fails", "(I)I"⟩ ⟨"StagedParsersModel", "fails", "(I)I"⟩ : Cond) ∈ AW_ := aw_sel (q := (⟨"StagedParsersModel", "fails", "(I)I"⟩, 34)) 43 rfl
theorem ks_44 : (.selects "StagedParsersModel" ⟨"StagedParsersModel", "bodied", "()I"⟩ ⟨"StagedParsersModel", "bodied", "()I"⟩ : Cond) ∈ AW_ := aw_sel (q := (⟨"StagedParsersModel", "bodied", "()I"⟩, 34)) 44 rfl
theorem ks_45 : (.selects "StagedParsersModel" ⟨"StagedParsersModel", "findEmpty", "()V"⟩ ⟨"StagedParsersModel", "findEmpty", "()V"⟩ : Cond) ∈ AW_ := aw_sel (q := (⟨"StagedParsersModel", "findEmpty", "()V"⟩, 34)) 45 rfl
theorem ks_46 : (.selects "StagedParsersModel" ⟨"StagedParsersModel", "emptyNow", "(I)Z"⟩ ⟨"StagedParsersModel", "emptyNow", "(I)Z"⟩ : Cond) ∈ AW_ := aw_sel (q := (⟨"StagedParsersModel", "emptyNow", "(I)Z"⟩, 34)) 46 rfl
theorem ks_47 : (.selects "StagedParsersModel" ⟨"StagedParsersModel", "findBeginning", "(I)V"⟩ ⟨"StagedParsersModel", "findBeginning", "(I)V"⟩ : Cond) ∈ AW_ := aw_sel (q := (⟨"StagedParsersModel", "findBeginning", "(I)V"⟩, 34)) 47 rfl
theorem ks_48 : (.selects "StagedParsersModel" ⟨"StagedParsersModel", "beginsNow", "(II)Z"⟩ ⟨"StagedParsersModel", "beginsNow", "(II)Z"⟩ : Cond) ∈ AW_ := aw_sel (q := (⟨"StagedParsersModel", "beginsNow", "(II)Z"⟩, 34)) 48 rfl
theorem ks_49 : (.selects "StagedParsersModel" ⟨"StagedParsersModel", "allLeads", "(I)I"⟩ ⟨"StagedParsersModel", "allLeads", "(I)I"⟩ : Cond) ∈ AW_ := aw_sel (q := (⟨"StagedParsersModel", "allLeads", "(I)I"⟩, 34)) 49 rfl
theorem ks_50 : (.selects "StagedParsersModel" ⟨"StagedParsersModel", "leadsNow", "(I)I"⟩ ⟨"StagedParsersModel", "leadsNow", "(I)I"⟩ : Cond) ∈ AW_ := aw_sel (q := (⟨"StagedParsersModel", "leadsNow", "(I)I"⟩, 34)) 50 rfl
theorem ks_51 : (.selects "StagedParsersModel" ⟨"StagedParsersModel", "fault", "()I"⟩ ⟨"StagedParsersModel", "fault", "()I"⟩ : Cond) ∈ AW_ := aw_sel (q := (⟨"StagedParsersModel", "fault", "()I"⟩, 34)) 51 rfl
theorem ks_52 : (.selects "StagedParsersModel" ⟨"StagedParsersModel", "findWithin", "()V"⟩ ⟨"StagedParsersModel", "findWithin", "()V"⟩ : Cond) ∈ AW_ := aw_sel (q := (⟨"StagedParsersModel", "findWithin", "()V"⟩, 34)) 52 rfl
theorem ks_53 : (.selects "StagedParsersModel" ⟨"StagedParsersModel", "isRound", "(I)Z"⟩ ⟨"StagedParsersModel", "isRound", "(I)Z"⟩ : Cond) ∈ AW_ := aw_sel (q := (⟨"StagedParsersModel", "isRound", "(I)Z"⟩, 34)) 53 rfl
theorem ks_54 : (.selects "StagedParsersModel" ⟨"StagedParsersModel", "run", "(I)V"⟩ ⟨"StagedParsersModel", "run", "(I)V"⟩ : Cond) ∈ AW_ := aw_sel (q := (⟨"StagedParsersModel", "run", "(I)V"⟩, 34)) 54 rfl
theorem ks_55 : (.selects "StagedParsersModel" ⟨"StagedParsersModel", "enter", "(I)V"⟩ ⟨"StagedParsersModel", "enter", "(I)V"⟩ : Cond) ∈ AW_ := aw_sel (q := (⟨"StagedParsersModel", "enter", "(I)V"⟩, 34)) 55 rfl
theorem ks_56 : (.selects "StagedParsersModel" ⟨"StagedParsersModel", "begin", "(I)V"⟩ ⟨"StagedParsersModel", "begin", "(I)V"⟩ : Cond) ∈ AW_ := aw_sel (q := (⟨"StagedParsersModel", "begin", "(I)V"⟩, 34)) 56 rfl
theorem ks_57 : (.selects "StagedParsersModel" ⟨"StagedParsersModel", "succeed", "(I)V"⟩ ⟨"StagedParsersModel", "succeed", "(I)V"⟩ : Cond) ∈ AW_ := aw_sel (q := (⟨"StagedParsersModel", "succeed", "(I)V"⟩, 34)) 57 rfl
theorem ks_58 : (.selects "StagedParsersModel" ⟨"StagedParsersModel", "looked", "(II)V"⟩ ⟨"StagedParsersModel", "looked", "(II)V"⟩ : Cond) ∈ AW_ := aw_sel (q := (⟨"StagedParsersModel", "looked", "(II)V"⟩, 34)) 58 rfl
theorem ks_59 : (.selects "StagedParsersModel" ⟨"StagedParsersModel", "fail", "()V"⟩ ⟨"StagedParsersModel", "fail", "()V"⟩ : Cond) ∈ AW_ := aw_sel (q := (⟨"StagedParsersModel", "fail", "()V"⟩, 34)) 59 rfl
theorem ks_60 : (.selects "StagedParsersModel" ⟨"StagedParsersModel", "goOn", "(I)V"⟩ ⟨"StagedParsersModel", "goOn", "(I)V"⟩ : Cond) ∈ AW_ := aw_sel (q := (⟨"StagedParsersModel", "goOn", "(I)V"⟩, 34)) 60 rfl
theorem ks_61 : (.selects "StagedParsersModel" ⟨"StagedParsersModel", "then", "(I)V"⟩ ⟨"StagedParsersModel", "then", "(I)V"⟩ : Cond) ∈ AW_ := aw_sel (q := (⟨"StagedParsersModel", "then", "(I)V"⟩, 34)) 61 rfl
theorem ks_62 : (.selects "StagedParsersModel" ⟨"StagedParsersModel", "many", "(I)V"⟩ ⟨"StagedParsersModel", "many", "(I)V"⟩ : Cond) ∈ AW_ := aw_sel (q := (⟨"StagedParsersModel", "many", "(I)V"⟩, 34)) 62 rfl
theorem ks_63 : (.selects "StagedParsersModel" ⟨"StagedParsersModel", "ends", "(I)V"⟩ ⟨"StagedParsersModel", "ends", "(I)V"⟩ : Cond) ∈ AW_ := aw_sel (q := (⟨"StagedParsersModel", "ends", "(I)V"⟩, 34)) 63 rfl
theorem ks_64 : (.selects "StagedParsersModel" ⟨"StagedParsersModel", "chain", "(I)V"⟩ ⟨"StagedParsersModel", "chain", "(I)V"⟩ : Cond) ∈ AW_ := aw_sel (q := (⟨"StagedParsersModel", "chain", "(I)V"⟩, 34)) 64 rfl
