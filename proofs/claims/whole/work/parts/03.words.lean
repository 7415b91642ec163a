theorem kw_0 : Cond.initialized "SlottedMeshLaw" ∈ gz := gz_t (List.mem_of_getElem? (i := 0) (by decide +kernel)) rfl
theorem kw_1 : Cond.initialized "SlottedMesh" ∈ gz := gz_t (List.mem_of_getElem? (i := 1) (by decide +kernel)) rfl
theorem kw_2 : Cond.initialized "java/lang/Math" ∈ gz := gz_t (List.mem_of_getElem? (i := 2) (by decide +kernel)) rfl
theorem kw_3 : Cond.initialized "SlottedMesh$Node" ∈ gz := gz_t (List.mem_of_getElem? (i := 3) (by decide +kernel)) rfl
theorem kw_4 : Cond.initialized "SlottedMesh$FrameRow" ∈ gz := gz_t (List.mem_of_getElem? (i := 4) (by decide +kernel)) rfl
theorem kw_5 : Cond.initialized "SlottedMesh$Loop" ∈ gz := gz_t (List.mem_of_getElem? (i := 5) (by decide +kernel)) rfl
theorem kw_6 : Cond.initialized "SlottedMesh$Channel" ∈ gz := gz_t (List.mem_of_getElem? (i := 6) (by decide +kernel)) rfl
theorem kw_7 : Cond.initialized "SlottedMesh$Plan" ∈ gz := gz_t (List.mem_of_getElem? (i := 7) (by decide +kernel)) rfl
theorem kw_8 : Cond.initialized "SlottedMeshModel" ∈ gz := gz_t (List.mem_of_getElem? (i := 8) (by decide +kernel)) rfl
theorem kw_9 : Cond.initialized "java/util/Arrays" ∈ gz := gz_t (List.mem_of_getElem? (i := 9) (by decide +kernel)) rfl
theorem kw_10 : Cond.classLink "SlottedMeshLaw" 7 "SlottedMesh" ∈ gz := gz_t (List.mem_of_getElem? (i := 10) (by decide +kernel)) rfl
theorem kw_11 : Cond.instantiable "SlottedMesh" 9 ∈ gz := gz_t (List.mem_of_getElem? (i := 11) (by decide +kernel)) rfl
theorem kw_12 : Cond.methodLink "SlottedMeshLaw" 15 ⟨"SlottedMesh", "<init>", "(III)V"⟩ ∈ gz := gz_t (List.mem_of_getElem? (i := 12) (by decide +kernel)) rfl
theorem kw_13 : Cond.instanceMethod ⟨"SlottedMesh", "<init>", "(III)V"⟩ ∈ gz := gz_t (List.mem_of_getElem? (i := 13) (by decide +kernel)) rfl
theorem kw_14 : Cond.code ⟨"SlottedMesh", "<init>", "(III)V"⟩ prog_1_method_1_code 6 none ∈ gz := gz_t (List.mem_of_getElem? (i := 14) (by decide +kernel)) rfl
theorem kw_15 : Cond.methodLink "SlottedMesh" 1 ⟨"java/lang/Object", "<init>", "()V"⟩ ∈ gz := gz_t (List.mem_of_getElem? (i := 15) (by decide +kernel)) rfl
theorem kw_16 : Cond.instanceMethod ⟨"java/lang/Object", "<init>", "()V"⟩ ∈ gz := gz_t (List.mem_of_getElem? (i := 16) (by decide +kernel)) rfl
theorem kw_17 : Cond.code ⟨"java/lang/Object", "<init>", "()V"⟩ object_method_1_code 1 none ∈ gz := gz_t (List.mem_of_getElem? (i := 17) (by decide +kernel)) rfl
theorem kw_18 : Cond.methodLink "SlottedMesh" 7 ⟨"SlottedMesh", "nearest", "(III)I"⟩ ∈ gz := gz_t (List.mem_of_getElem? (i := 18) (by decide +kernel)) rfl
theorem kw_19 : Cond.static ⟨"SlottedMesh", "nearest", "(III)I"⟩ ∈ gz := gz_t (List.mem_of_getElem? (i := 19) (by decide +kernel)) rfl
theorem kw_20 : Cond.code ⟨"SlottedMesh", "nearest", "(III)I"⟩ prog_1_method_21_code 3 (some .int) ∈ gz := gz_t (List.mem_of_getElem? (i := 20) (by decide +kernel)) rfl
theorem kw_21 : Cond.methodLink "SlottedMesh" 184 ⟨"java/lang/Math", "min", "(II)I"⟩ ∈ gz := gz_t (List.mem_of_getElem? (i := 21) (by decide +kernel)) rfl
theorem kw_22 : Cond.static ⟨"java/lang/Math", "min", "(II)I"⟩ ∈ gz := gz_t (List.mem_of_getElem? (i := 22) (by decide +kernel)) rfl
theorem kw_23 : Cond.code ⟨"java/lang/Math", "min", "(II)I"⟩ prog_9_method_69_code 2 (some .int) ∈ gz := gz_t (List.mem_of_getElem? (i := 23) (by decide +kernel)) rfl
theorem kw_24 : Cond.methodLink "SlottedMesh" 187 ⟨"java/lang/Math", "max", "(II)I"⟩ ∈ gz := gz_t (List.mem_of_getElem? (i := 24) (by decide +kernel)) rfl
theorem kw_25 : Cond.static ⟨"java/lang/Math", "max", "(II)I"⟩ ∈ gz := gz_t (List.mem_of_getElem? (i := 25) (by decide +kernel)) rfl
theorem kw_26 : Cond.code ⟨"java/lang/Math", "max", "(II)I"⟩ prog_9_method_65_code 2 (some .int) ∈ gz := gz_t (List.mem_of_getElem? (i := 26) (by decide +kernel)) rfl
theorem kw_27 : Cond.classLink "SlottedMesh" 20 "SlottedMesh$Node" ∈ gz := gz_t (List.mem_of_getElem? (i := 27) (by decide +kernel)) rfl
theorem kx_28 : Cond.arrayOver (.object "SlottedMesh$Node") ∈ lw_tbl := List.mem_append_right _ (List.mem_of_getElem? (i := 28) (by decide +kernel))
theorem kw_29 : Cond.classLink "SlottedMesh" 26 "SlottedMesh$Loop" ∈ gz := gz_t (List.mem_of_getElem? (i := 29) (by decide +kernel)) rfl
theorem kx_30 : Cond.arrayOver (.object "SlottedMesh$Loop") ∈ lw_tbl := List.mem_append_right _ (List.mem_of_getElem? (i := 30) (by decide +kernel))
theorem kw_31 : Cond.instantiable "SlottedMesh$Node" 14 ∈ gz := gz_t (List.mem_of_getElem? (i := 31) (by decide +kernel)) rfl
theorem kw_32 : Cond.methodLink "SlottedMesh" 32 ⟨"SlottedMesh$Node", "<init>", "(II)V"⟩ ∈ gz := gz_t (List.mem_of_getElem? (i := 32) (by decide +kernel)) rfl
theorem kw_33 : Cond.instanceMethod ⟨"SlottedMesh$Node", "<init>", "(II)V"⟩ ∈ gz := gz_t (List.mem_of_getElem? (i := 33) (by decide +kernel)) rfl
theorem kw_34 : Cond.code ⟨"SlottedMesh$Node", "<init>", "(II)V"⟩ prog_5_method_1_code 3 none ∈ gz := gz_t (List.mem_of_getElem? (i := 34) (by decide +kernel)) rfl
theorem kw_35 : Cond.methodLink "SlottedMesh$Node" 3 ⟨"java/lang/Object", "<init>", "()V"⟩ ∈ gz := gz_t (List.mem_of_getElem? (i := 35) (by decide +kernel)) rfl
theorem kw_36 : Cond.classLink "SlottedMesh$Node" 19 "SlottedMesh$FrameRow" ∈ gz := gz_t (List.mem_of_getElem? (i := 36) (by decide +kernel)) rfl
theorem kw_37 : Cond.instantiable "SlottedMesh$FrameRow" 4 ∈ gz := gz_t (List.mem_of_getElem? (i := 37) (by decide +kernel)) rfl
theorem kx_38 : Cond.methodLinkNest "SlottedMesh$Node" 21 ⟨"SlottedMesh$FrameRow", "<init>", "()V"⟩ "SlottedMesh" ∈ lw_tbl := List.mem_append_right _ (List.mem_of_getElem? (i := 38) (by decide +kernel))
theorem kw_39 : Cond.instanceMethod ⟨"SlottedMesh$FrameRow", "<init>", "()V"⟩ ∈ gz := gz_t (List.mem_of_getElem? (i := 39) (by decide +kernel)) rfl
theorem kw_40 : Cond.code ⟨"SlottedMesh$FrameRow", "<init>", "()V"⟩ prog_3_method_1_code 1 none ∈ gz := gz_t (List.mem_of_getElem? (i := 40) (by decide +kernel)) rfl
theorem kw_41 : Cond.methodLink "SlottedMesh$FrameRow" 1 ⟨"java/lang/Object", "<init>", "()V"⟩ ∈ gz := gz_t (List.mem_of_getElem? (i := 41) (by decide +kernel)) rfl
theorem kw_42 : Cond.fieldLink "SlottedMesh$FrameRow" 9 "SlottedMesh$FrameRow" "ends" "[I" ∈ gz := gz_t (List.mem_of_getElem? (i := 42) (by decide +kernel)) rfl
theorem kw_43 : Cond.fieldLink "SlottedMesh" 242 "SlottedMesh$FrameRow" "ends" "[I" ∈ gz := gz_t (List.mem_of_getElem? (i := 43) (by decide +kernel)) rfl
theorem kw_44 : Cond.fieldLink "SlottedMesh$FrameRow" 13 "SlottedMesh$FrameRow" "numbers" "[I" ∈ gz := gz_t (List.mem_of_getElem? (i := 44) (by decide +kernel)) rfl
theorem kw_45 : Cond.fieldLink "SlottedMesh" 245 "SlottedMesh$FrameRow" "numbers" "[I" ∈ gz := gz_t (List.mem_of_getElem? (i := 45) (by decide +kernel)) rfl
theorem kw_46 : Cond.fieldLink "SlottedMesh$FrameRow" 16 "SlottedMesh$FrameRow" "values" "[I" ∈ gz := gz_t (List.mem_of_getElem? (i := 46) (by decide +kernel)) rfl
theorem kw_47 : Cond.fieldLink "SlottedMesh" 248 "SlottedMesh$FrameRow" "values" "[I" ∈ gz := gz_t (List.mem_of_getElem? (i := 47) (by decide +kernel)) rfl
theorem kw_48 : Cond.fieldLink "SlottedMesh$FrameRow" 19 "SlottedMesh$FrameRow" "size" "I" ∈ gz := gz_t (List.mem_of_getElem? (i := 48) (by decide +kernel)) rfl
theorem kw_49 : Cond.fieldLink "SlottedMesh" 162 "SlottedMesh$FrameRow" "size" "I" ∈ gz := gz_t (List.mem_of_getElem? (i := 49) (by decide +kernel)) rfl
theorem kw_59 : Cond.arrayClass .boolean ∈ gz := gz_t (List.mem_of_getElem? (i := 59) (by decide +kernel)) rfl
theorem kw_60 : Cond.arrayClass .int ∈ gz := gz_t (List.mem_of_getElem? (i := 60) (by decide +kernel)) rfl
theorem kw_61 : Cond.fieldLink "SlottedMesh$Node" 9 "SlottedMesh$Node" "number" "I" ∈ gz := gz_t (List.mem_of_getElem? (i := 61) (by decide +kernel)) rfl
theorem kw_62 : Cond.fieldLink "SlottedMesh" 218 "SlottedMesh$Node" "number" "I" ∈ gz := gz_t (List.mem_of_getElem? (i := 62) (by decide +kernel)) rfl
theorem kw_63 : Cond.fieldLink "SlottedMesh$Node" 15 "SlottedMesh$Node" "near" "[Z" ∈ gz := gz_t (List.mem_of_getElem? (i := 63) (by decide +kernel)) rfl
theorem kw_64 : Cond.fieldLink "SlottedMesh" 65 "SlottedMesh$Node" "near" "[Z" ∈ gz := gz_t (List.mem_of_getElem? (i := 64) (by decide +kernel)) rfl
theorem kw_65 : Cond.fieldLink "SlottedMesh$Plan" 66 "SlottedMesh$Node" "near" "[Z" ∈ gz := gz_t (List.mem_of_getElem? (i := 65) (by decide +kernel)) rfl
theorem kw_66 : Cond.fieldLink "SlottedMesh$Node" 22 "SlottedMesh$Node" "ups" "LSlottedMesh$FrameRow;" ∈ gz := gz_t (List.mem_of_getElem? (i := 66) (by decide +kernel)) rfl
theorem kw_67 : Cond.fieldLink "SlottedMesh" 109 "SlottedMesh$Node" "ups" "LSlottedMesh$FrameRow;" ∈ gz := gz_t (List.mem_of_getElem? (i := 67) (by decide +kernel)) rfl
theorem kw_68 : Cond.fieldLink "SlottedMesh$Node" 26 "SlottedMesh$Node" "downs" "LSlottedMesh$FrameRow;" ∈ gz := gz_t (List.mem_of_getElem? (i := 68) (by decide +kernel)) rfl
theorem kw_69 : Cond.fieldLink "SlottedMesh" 163 "SlottedMesh$Node" "downs" "LSlottedMesh$FrameRow;" ∈ gz := gz_t (List.mem_of_getElem? (i := 69) (by decide +kernel)) rfl
theorem kw_70 : Cond.fieldLink "SlottedMesh$Node" 29 "SlottedMesh$Node" "upsTaken" "[I" ∈ gz := gz_t (List.mem_of_getElem? (i := 70) (by decide +kernel)) rfl
theorem kw_71 : Cond.fieldLink "SlottedMesh" 178 "SlottedMesh$Node" "upsTaken" "[I" ∈ gz := gz_t (List.mem_of_getElem? (i := 71) (by decide +kernel)) rfl
theorem kw_72 : Cond.fieldLink "SlottedMesh$Node" 33 "SlottedMesh$Node" "downsTaken" "[I" ∈ gz := gz_t (List.mem_of_getElem? (i := 72) (by decide +kernel)) rfl
theorem kw_73 : Cond.fieldLink "SlottedMesh" 270 "SlottedMesh$Node" "downsTaken" "[I" ∈ gz := gz_t (List.mem_of_getElem? (i := 73) (by decide +kernel)) rfl
theorem kw_74 : Cond.fieldLink "SlottedMesh$Node" 36 "SlottedMesh$Node" "started" "Z" ∈ gz := gz_t (List.mem_of_getElem? (i := 74) (by decide +kernel)) rfl
theorem kw_75 : Cond.fieldLink "SlottedMesh" 79 "SlottedMesh$Node" "started" "Z" ∈ gz := gz_t (List.mem_of_getElem? (i := 75) (by decide +kernel)) rfl
theorem kw_76 : Cond.fieldLink "SlottedMesh$Node" 40 "SlottedMesh$Node" "current" "Z" ∈ gz := gz_t (List.mem_of_getElem? (i := 76) (by decide +kernel)) rfl
theorem kw_77 : Cond.fieldLink "SlottedMesh" 83 "SlottedMesh$Node" "current" "Z" ∈ gz := gz_t (List.mem_of_getElem? (i := 77) (by decide +kernel)) rfl
theorem kw_78 : Cond.fieldLink "SlottedMesh$Node" 52 "SlottedMesh$Node" "clock" "I" ∈ gz := gz_t (List.mem_of_getElem? (i := 78) (by decide +kernel)) rfl
theorem kw_79 : Cond.fieldLink "SlottedMesh" 159 "SlottedMesh$Node" "clock" "I" ∈ gz := gz_t (List.mem_of_getElem? (i := 79) (by decide +kernel)) rfl
theorem kw_80 : Cond.fieldLink "SlottedMesh" 96 "SlottedMesh$Node" "clockDrift" "I" ∈ gz := gz_t (List.mem_of_getElem? (i := 80) (by decide +kernel)) rfl
theorem kw_81 : Cond.fieldLink "SlottedMesh$Node" 43 "SlottedMesh$Node" "fails" "I" ∈ gz := gz_t (List.mem_of_getElem? (i := 81) (by decide +kernel)) rfl
theorem kw_82 : Cond.fieldLink "SlottedMesh" 166 "SlottedMesh$Node" "fails" "I" ∈ gz := gz_t (List.mem_of_getElem? (i := 82) (by decide +kernel)) rfl
theorem kw_83 : Cond.fieldLink "SlottedMesh$Node" 46 "SlottedMesh$Node" "tries" "I" ∈ gz := gz_t (List.mem_of_getElem? (i := 83) (by decide +kernel)) rfl
theorem kw_84 : Cond.fieldLink "SlottedMesh" 169 "SlottedMesh$Node" "tries" "I" ∈ gz := gz_t (List.mem_of_getElem? (i := 84) (by decide +kernel)) rfl
theorem kw_85 : Cond.fieldLink "SlottedMesh" 113 "SlottedMesh$Node" "samples" "I" ∈ gz := gz_t (List.mem_of_getElem? (i := 85) (by decide +kernel)) rfl
theorem kw_86 : Cond.fieldLink "SlottedMesh" 181 "SlottedMesh$Node" "actuatorValue" "I" ∈ gz := gz_t (List.mem_of_getElem? (i := 86) (by decide +kernel)) rfl
theorem kw_116 : Cond.instantiable "SlottedMesh$Loop" 6 ∈ gz := gz_t (List.mem_of_getElem? (i := 116) (by decide +kernel)) rfl
theorem kx_117 : Cond.methodLinkNest "SlottedMesh" 35 ⟨"SlottedMesh$Loop", "<init>", "()V"⟩ "SlottedMesh" ∈ lw_tbl := List.mem_append_right _ (List.mem_of_getElem? (i := 117) (by decide +kernel))
theorem kw_118 : Cond.instanceMethod ⟨"SlottedMesh$Loop", "<init>", "()V"⟩ ∈ gz := gz_t (List.mem_of_getElem? (i := 118) (by decide +kernel)) rfl
theorem kw_119 : Cond.code ⟨"SlottedMesh$Loop", "<init>", "()V"⟩ prog_4_method_1_code 1 none ∈ gz := gz_t (List.mem_of_getElem? (i := 119) (by decide +kernel)) rfl
theorem kw_120 : Cond.methodLink "SlottedMesh$Loop" 1 ⟨"java/lang/Object", "<init>", "()V"⟩ ∈ gz := gz_t (List.mem_of_getElem? (i := 120) (by decide +kernel)) rfl
theorem kw_121 : Cond.fieldLink "SlottedMesh$Loop" 9 "SlottedMesh$Loop" "newest" "[I" ∈ gz := gz_t (List.mem_of_getElem? (i := 121) (by decide +kernel)) rfl
theorem kw_122 : Cond.fieldLink "SlottedMesh" 175 "SlottedMesh$Loop" "newest" "[I" ∈ gz := gz_t (List.mem_of_getElem? (i := 122) (by decide +kernel)) rfl
theorem kw_123 : Cond.fieldLink "SlottedMesh$Loop" 13 "SlottedMesh$Loop" "kept" "I" ∈ gz := gz_t (List.mem_of_getElem? (i := 123) (by decide +kernel)) rfl
theorem kw_124 : Cond.fieldLink "SlottedMesh" 172 "SlottedMesh$Loop" "kept" "I" ∈ gz := gz_t (List.mem_of_getElem? (i := 124) (by decide +kernel)) rfl
theorem kw_125 : Cond.fieldLink "SlottedMesh$Loop" 23 "SlottedMesh$Loop" "target" "I" ∈ gz := gz_t (List.mem_of_getElem? (i := 125) (by decide +kernel)) rfl
theorem kw_126 : Cond.fieldLink "SlottedMesh" 121 "SlottedMesh$Loop" "target" "I" ∈ gz := gz_t (List.mem_of_getElem? (i := 126) (by decide +kernel)) rfl
theorem kw_127 : Cond.fieldLink "SlottedMesh$Loop" 35 "SlottedMesh$Loop" "p" "I" ∈ gz := gz_t (List.mem_of_getElem? (i := 127) (by decide +kernel)) rfl
theorem kw_128 : Cond.fieldLink "SlottedMesh" 124 "SlottedMesh$Loop" "p" "I" ∈ gz := gz_t (List.mem_of_getElem? (i := 128) (by decide +kernel)) rfl
theorem kw_129 : Cond.fieldLink "SlottedMesh$Loop" 38 "SlottedMesh$Loop" "i" "I" ∈ gz := gz_t (List.mem_of_getElem? (i := 129) (by decide +kernel)) rfl
theorem kw_130 : Cond.fieldLink "SlottedMesh" 127 "SlottedMesh$Loop" "i" "I" ∈ gz := gz_t (List.mem_of_getElem? (i := 130) (by decide +kernel)) rfl
theorem kw_131 : Cond.fieldLink "SlottedMesh$Loop" 26 "SlottedMesh$Loop" "sum" "I" ∈ gz := gz_t (List.mem_of_getElem? (i := 131) (by decide +kernel)) rfl
theorem kw_145 : Cond.classLink "SlottedMesh" 36 "SlottedMesh$Channel" ∈ gz := gz_t (List.mem_of_getElem? (i := 145) (by decide +kernel)) rfl
theorem kx_146 : Cond.arrayOver (.object "SlottedMesh$Channel") ∈ lw_tbl := List.mem_append_right _ (List.mem_of_getElem? (i := 146) (by decide +kernel))
theorem kw_147 : Cond.instantiable "SlottedMesh$Channel" 2 ∈ gz := gz_t (List.mem_of_getElem? (i := 147) (by decide +kernel)) rfl
theorem kx_148 : Cond.methodLinkNest "SlottedMesh" 42 ⟨"SlottedMesh$Channel", "<init>", "()V"⟩ "SlottedMesh" ∈ lw_tbl := List.mem_append_right _ (List.mem_of_getElem? (i := 148) (by decide +kernel))
theorem kw_149 : Cond.instanceMethod ⟨"SlottedMesh$Channel", "<init>", "()V"⟩ ∈ gz := gz_t (List.mem_of_getElem? (i := 149) (by decide +kernel)) rfl
theorem kw_150 : Cond.code ⟨"SlottedMesh$Channel", "<init>", "()V"⟩ prog_2_method_1_code 1 none ∈ gz := gz_t (List.mem_of_getElem? (i := 150) (by decide +kernel)) rfl
theorem kw_151 : Cond.methodLink "SlottedMesh$Channel" 1 ⟨"java/lang/Object", "<init>", "()V"⟩ ∈ gz := gz_t (List.mem_of_getElem? (i := 151) (by decide +kernel)) rfl
theorem kw_152 : Cond.constantLong "SlottedMesh$Channel" 7 (-1) ∈ gz := gz_t (List.mem_of_getElem? (i := 152) (by decide +kernel)) rfl
theorem kw_153 : Cond.fieldLink "SlottedMesh$Channel" 9 "SlottedMesh$Channel" "frames" "J" ∈ gz := gz_t (List.mem_of_getElem? (i := 153) (by decide +kernel)) rfl
theorem kw_154 : Cond.fieldLink "SlottedMesh" 102 "SlottedMesh$Channel" "frames" "J" ∈ gz := gz_t (List.mem_of_getElem? (i := 154) (by decide +kernel)) rfl
theorem kw_155 : Cond.fieldLink "SlottedMesh$Channel" 15 "SlottedMesh$Channel" "confirmations" "J" ∈ gz := gz_t (List.mem_of_getElem? (i := 155) (by decide +kernel)) rfl
theorem kw_156 : Cond.fieldLink "SlottedMesh" 106 "SlottedMesh$Channel" "confirmations" "J" ∈ gz := gz_t (List.mem_of_getElem? (i := 156) (by decide +kernel)) rfl
theorem kw_162 : Cond.classLink "SlottedMesh" 43 "SlottedMesh$Plan" ∈ gz := gz_t (List.mem_of_getElem? (i := 162) (by decide +kernel)) rfl
theorem kw_163 : Cond.instantiable "SlottedMesh$Plan" 9 ∈ gz := gz_t (List.mem_of_getElem? (i := 163) (by decide +kernel)) rfl
theorem kw_164 : Cond.methodLink "SlottedMesh" 45 ⟨"SlottedMesh$Plan", "<init>", "(III)V"⟩ ∈ gz := gz_t (List.mem_of_getElem? (i := 164) (by decide +kernel)) rfl
theorem kw_165 : Cond.instanceMethod ⟨"SlottedMesh$Plan", "<init>", "(III)V"⟩ ∈ gz := gz_t (List.mem_of_getElem? (i := 165) (by decide +kernel)) rfl
theorem kw_166 : Cond.code ⟨"SlottedMesh$Plan", "<init>", "(III)V"⟩ prog_6_method_1_code 4 none ∈ gz := gz_t (List.mem_of_getElem? (i := 166) (by decide +kernel)) rfl
theorem kw_167 : Cond.methodLink "SlottedMesh$Plan" 3 ⟨"java/lang/Object", "<init>", "()V"⟩ ∈ gz := gz_t (List.mem_of_getElem? (i := 167) (by decide +kernel)) rfl
theorem kw_168 : Cond.fieldLink "SlottedMesh$Plan" 9 "SlottedMesh$Plan" "slots" "I" ∈ gz := gz_t (List.mem_of_getElem? (i := 168) (by decide +kernel)) rfl
theorem kw_169 : Cond.fieldLink "SlottedMesh$Plan" 15 "SlottedMesh$Plan" "channels" "I" ∈ gz := gz_t (List.mem_of_getElem? (i := 169) (by decide +kernel)) rfl
theorem kw_170 : Cond.fieldLink "SlottedMesh$Plan" 18 "SlottedMesh$Plan" "ranks" "[I" ∈ gz := gz_t (List.mem_of_getElem? (i := 170) (by decide +kernel)) rfl
theorem kw_171 : Cond.fieldLink "SlottedMesh" 146 "SlottedMesh$Plan" "ranks" "[I" ∈ gz := gz_t (List.mem_of_getElem? (i := 171) (by decide +kernel)) rfl
theorem kw_172 : Cond.fieldLink "SlottedMesh$Plan" 22 "SlottedMesh$Plan" "firsts" "[I" ∈ gz := gz_t (List.mem_of_getElem? (i := 172) (by decide +kernel)) rfl
theorem kw_173 : Cond.fieldLink "SlottedMesh" 150 "SlottedMesh$Plan" "firsts" "[I" ∈ gz := gz_t (List.mem_of_getElem? (i := 173) (by decide +kernel)) rfl
theorem kw_174 : Cond.fieldLink "SlottedMesh$Plan" 25 "SlottedMesh$Plan" "seconds" "[I" ∈ gz := gz_t (List.mem_of_getElem? (i := 174) (by decide +kernel)) rfl
theorem kw_175 : Cond.fieldLink "SlottedMesh" 153 "SlottedMesh$Plan" "seconds" "[I" ∈ gz := gz_t (List.mem_of_getElem? (i := 175) (by decide +kernel)) rfl
theorem kw_176 : Cond.fieldLink "SlottedMesh$Plan" 28 "SlottedMesh$Plan" "order" "[I" ∈ gz := gz_t (List.mem_of_getElem? (i := 176) (by decide +kernel)) rfl
theorem kw_177 : Cond.fieldLink "SlottedMesh$Plan" 31 "SlottedMesh$Plan" "codes" "[I" ∈ gz := gz_t (List.mem_of_getElem? (i := 177) (by decide +kernel)) rfl
theorem kw_178 : Cond.fieldLink "SlottedMesh" 76 "SlottedMesh$Plan" "size" "I" ∈ gz := gz_t (List.mem_of_getElem? (i := 178) (by decide +kernel)) rfl
theorem kw_179 : Cond.fieldLink "SlottedMesh$Plan" 38 "SlottedMesh$Plan" "size" "I" ∈ gz := gz_t (List.mem_of_getElem? (i := 179) (by decide +kernel)) rfl
theorem kw_180 : Cond.fieldLink "SlottedMesh$Plan" 34 "SlottedMesh$Plan" "made" "Z" ∈ gz := gz_t (List.mem_of_getElem? (i := 180) (by decide +kernel)) rfl
theorem kw_181 : Cond.fieldLink "SlottedMesh" 133 "SlottedMesh$Plan" "made" "Z" ∈ gz := gz_t (List.mem_of_getElem? (i := 181) (by decide +kernel)) rfl
theorem kw_201 : Cond.fieldLink "SlottedMesh" 13 "SlottedMesh" "slots" "I" ∈ gz := gz_t (List.mem_of_getElem? (i := 201) (by decide +kernel)) rfl
theorem kw_202 : Cond.fieldLink "SlottedMesh" 17 "SlottedMesh" "channels" "I" ∈ gz := gz_t (List.mem_of_getElem? (i := 202) (by decide +kernel)) rfl
theorem kw_203 : Cond.fieldLink "SlottedMesh" 22 "SlottedMesh" "nodes" "[LSlottedMesh$Node;" ∈ gz := gz_t (List.mem_of_getElem? (i := 203) (by decide +kernel)) rfl
theorem kw_204 : Cond.fieldLink "SlottedMesh" 38 "SlottedMesh" "air" "[LSlottedMesh$Channel;" ∈ gz := gz_t (List.mem_of_getElem? (i := 204) (by decide +kernel)) rfl
theorem kw_205 : Cond.fieldLink "SlottedMesh" 28 "SlottedMesh" "loops" "[LSlottedMesh$Loop;" ∈ gz := gz_t (List.mem_of_getElem? (i := 205) (by decide +kernel)) rfl
theorem kw_206 : Cond.fieldLink "SlottedMesh" 48 "SlottedMesh" "active" "LSlottedMesh$Plan;" ∈ gz := gz_t (List.mem_of_getElem? (i := 206) (by decide +kernel)) rfl
theorem kw_207 : Cond.fieldLink "SlottedMesh" 52 "SlottedMesh" "spare" "LSlottedMesh$Plan;" ∈ gz := gz_t (List.mem_of_getElem? (i := 207) (by decide +kernel)) rfl
theorem kw_208 : Cond.fieldLink "SlottedMesh" 55 "SlottedMesh" "time" "I" ∈ gz := gz_t (List.mem_of_getElem? (i := 208) (by decide +kernel)) rfl
theorem kw_209 : Cond.fieldLink "SlottedMesh" 58 "SlottedMesh" "sentFrames" "I" ∈ gz := gz_t (List.mem_of_getElem? (i := 209) (by decide +kernel)) rfl
theorem kw_229 : Cond.methodLink "SlottedMeshLaw" 21 ⟨"SlottedMesh", "pair", "(IIZ)Z"⟩ ∈ gz := gz_t (List.mem_of_getElem? (i := 229) (by decide +kernel)) rfl
theorem kw_230 : Cond.instanceMethod ⟨"SlottedMesh", "pair", "(IIZ)Z"⟩ ∈ gz := gz_t (List.mem_of_getElem? (i := 230) (by decide +kernel)) rfl
theorem kw_231 : Cond.selects "SlottedMesh" ⟨"SlottedMesh", "pair", "(IIZ)Z"⟩ ⟨"SlottedMesh", "pair", "(IIZ)Z"⟩ ∈ gz := gz_t (List.mem_of_getElem? (i := 231) (by decide +kernel)) rfl
theorem kw_232 : Cond.code ⟨"SlottedMesh", "pair", "(IIZ)Z"⟩ prog_1_method_2_code 4 (some .boolean) ∈ gz := gz_t (List.mem_of_getElem? (i := 232) (by decide +kernel)) rfl
theorem kw_233 : Cond.methodLink "SlottedMesh" 61 ⟨"SlottedMesh", "isNode", "(I)Z"⟩ ∈ gz := gz_t (List.mem_of_getElem? (i := 233) (by decide +kernel)) rfl
theorem kw_235 : Cond.instanceMethod ⟨"SlottedMesh", "isNode", "(I)Z"⟩ ∈ gz := gz_t (List.mem_of_getElem? (i := 235) (by decide +kernel)) rfl
theorem kw_236 : Cond.code ⟨"SlottedMesh", "isNode", "(I)Z"⟩ prog_1_method_23_code 2 (some .boolean) ∈ gz := gz_t (List.mem_of_getElem? (i := 236) (by decide +kernel)) rfl
theorem kw_237 : Cond.methodLink "SlottedMeshLaw" 26 ⟨"SlottedMesh", "plan", "()I"⟩ ∈ gz := gz_t (List.mem_of_getElem? (i := 237) (by decide +kernel)) rfl
theorem kw_238 : Cond.instanceMethod ⟨"SlottedMesh", "plan", "()I"⟩ ∈ gz := gz_t (List.mem_of_getElem? (i := 238) (by decide +kernel)) rfl
theorem kw_239 : Cond.selects "SlottedMesh" ⟨"SlottedMesh", "plan", "()I"⟩ ⟨"SlottedMesh", "plan", "()I"⟩ ∈ gz := gz_t (List.mem_of_getElem? (i := 239) (by decide +kernel)) rfl
theorem kw_240 : Cond.code ⟨"SlottedMesh", "plan", "()I"⟩ prog_1_method_3_code 3 (some .int) ∈ gz := gz_t (List.mem_of_getElem? (i := 240) (by decide +kernel)) rfl
theorem kw_241 : Cond.methodLink "SlottedMesh" 69 ⟨"SlottedMesh$Plan", "make", "([LSlottedMesh$Node;)Z"⟩ ∈ gz := gz_t (List.mem_of_getElem? (i := 241) (by decide +kernel)) rfl
theorem kw_242 : Cond.instanceMethod ⟨"SlottedMesh$Plan", "make", "([LSlottedMesh$Node;)Z"⟩ ∈ gz := gz_t (List.mem_of_getElem? (i := 242) (by decide +kernel)) rfl
theorem kw_243 : Cond.selects "SlottedMesh$Plan" ⟨"SlottedMesh$Plan", "make", "([LSlottedMesh$Node;)Z"⟩ ⟨"SlottedMesh$Plan", "make", "([LSlottedMesh$Node;)Z"⟩ ∈ gz := gz_t (List.mem_of_getElem? (i := 243) (by decide +kernel)) rfl
theorem kw_244 : Cond.code ⟨"SlottedMesh$Plan", "make", "([LSlottedMesh$Node;)Z"⟩ prog_6_method_6_code 2 (some .boolean) ∈ gz := gz_t (List.mem_of_getElem? (i := 244) (by decide +kernel)) rfl
theorem kw_245 : Cond.methodLink "SlottedMesh$Plan" 41 ⟨"java/util/Arrays", "fill", "([II)V"⟩ ∈ gz := gz_t (List.mem_of_getElem? (i := 245) (by decide +kernel)) rfl
theorem kw_246 : Cond.static ⟨"java/util/Arrays", "fill", "([II)V"⟩ ∈ gz := gz_t (List.mem_of_getElem? (i := 246) (by decide +kernel)) rfl
theorem kw_247 : Cond.code ⟨"java/util/Arrays", "fill", "([II)V"⟩ prog_10_method_103_code 4 none ∈ gz := gz_t (List.mem_of_getElem? (i := 247) (by decide +kernel)) rfl
theorem kw_248 : Cond.methodLink "SlottedMesh$Plan" 47 ⟨"SlottedMesh$Plan", "findRanks", "([LSlottedMesh$Node;)Z"⟩ ∈ gz := gz_t (List.mem_of_getElem? (i := 248) (by decide +kernel)) rfl
theorem kw_250 : Cond.instanceMethod ⟨"SlottedMesh$Plan", "findRanks", "([LSlottedMesh$Node;)Z"⟩ ∈ gz := gz_t (List.mem_of_getElem? (i := 250) (by decide +kernel)) rfl
theorem kw_251 : Cond.code ⟨"SlottedMesh$Plan", "findRanks", "([LSlottedMesh$Node;)Z"⟩ prog_6_method_8_code 5 (some .boolean) ∈ gz := gz_t (List.mem_of_getElem? (i := 251) (by decide +kernel)) rfl
theorem kw_252 : Cond.methodLink "SlottedMesh$Plan" 62 ⟨"SlottedMesh$Plan", "nextNearOfRank", "(LSlottedMesh$Node;II)I"⟩ ∈ gz := gz_t (List.mem_of_getElem? (i := 252) (by decide +kernel)) rfl
theorem kw_254 : Cond.instanceMethod ⟨"SlottedMesh$Plan", "nextNearOfRank", "(LSlottedMesh$Node;II)I"⟩ ∈ gz := gz_t (List.mem_of_getElem? (i := 254) (by decide +kernel)) rfl
theorem kw_255 : Cond.code ⟨"SlottedMesh$Plan", "nextNearOfRank", "(LSlottedMesh$Node;II)I"⟩ prog_6_method_10_code 5 (some .int) ∈ gz := gz_t (List.mem_of_getElem? (i := 255) (by decide +kernel)) rfl
theorem kw_256 : Cond.methodLink "SlottedMesh$Plan" 51 ⟨"SlottedMesh$Plan", "findParents", "([LSlottedMesh$Node;)V"⟩ ∈ gz := gz_t (List.mem_of_getElem? (i := 256) (by decide +kernel)) rfl
theorem kw_258 : Cond.instanceMethod ⟨"SlottedMesh$Plan", "findParents", "([LSlottedMesh$Node;)V"⟩ ∈ gz := gz_t (List.mem_of_getElem? (i := 258) (by decide +kernel)) rfl
theorem kw_259 : Cond.code ⟨"SlottedMesh$Plan", "findParents", "([LSlottedMesh$Node;)V"⟩ prog_6_method_9_code 3 none ∈ gz := gz_t (List.mem_of_getElem? (i := 259) (by decide +kernel)) rfl
theorem kw_260 : Cond.methodLink "SlottedMesh$Plan" 55 ⟨"SlottedMesh$Plan", "placeAdverts", "()Z"⟩ ∈ gz := gz_t (List.mem_of_getElem? (i := 260) (by decide +kernel)) rfl
theorem kw_262 : Cond.instanceMethod ⟨"SlottedMesh$Plan", "placeAdverts", "()Z"⟩ ∈ gz := gz_t (List.mem_of_getElem? (i := 262) (by decide +kernel)) rfl
theorem kw_263 : Cond.code ⟨"SlottedMesh$Plan", "placeAdverts", "()Z"⟩ prog_6_method_11_code 2 (some .boolean) ∈ gz := gz_t (List.mem_of_getElem? (i := 263) (by decide +kernel)) rfl
theorem kw_264 : Cond.methodLink "SlottedMesh$Plan" 72 ⟨"SlottedMesh$Plan", "placeAdvert", "(I)Z"⟩ ∈ gz := gz_t (List.mem_of_getElem? (i := 264) (by decide +kernel)) rfl
theorem kw_266 : Cond.instanceMethod ⟨"SlottedMesh$Plan", "placeAdvert", "(I)Z"⟩ ∈ gz := gz_t (List.mem_of_getElem? (i := 266) (by decide +kernel)) rfl
theorem kw_267 : Cond.code ⟨"SlottedMesh$Plan", "placeAdvert", "(I)Z"⟩ prog_6_method_12_code 3 (some .boolean) ∈ gz := gz_t (List.mem_of_getElem? (i := 267) (by decide +kernel)) rfl
theorem kw_268 : Cond.methodLink "SlottedMesh$Plan" 76 ⟨"SlottedMesh$Plan", "codeAt", "(II)I"⟩ ∈ gz := gz_t (List.mem_of_getElem? (i := 268) (by decide +kernel)) rfl
theorem kw_269 : Cond.instanceMethod ⟨"SlottedMesh$Plan", "codeAt", "(II)I"⟩ ∈ gz := gz_t (List.mem_of_getElem? (i := 269) (by decide +kernel)) rfl
theorem kw_270 : Cond.selects "SlottedMesh$Plan" ⟨"SlottedMesh$Plan", "codeAt", "(II)I"⟩ ⟨"SlottedMesh$Plan", "codeAt", "(II)I"⟩ ∈ gz := gz_t (List.mem_of_getElem? (i := 270) (by decide +kernel)) rfl
theorem kw_271 : Cond.code ⟨"SlottedMesh$Plan", "codeAt", "(II)I"⟩ prog_6_method_5_code 3 (some .int) ∈ gz := gz_t (List.mem_of_getElem? (i := 271) (by decide +kernel)) rfl
theorem kw_272 : Cond.methodLink "SlottedMesh$Plan" 80 ⟨"SlottedMesh$Plan", "fillSlot", "(II)V"⟩ ∈ gz := gz_t (List.mem_of_getElem? (i := 272) (by decide +kernel)) rfl
theorem kw_274 : Cond.instanceMethod ⟨"SlottedMesh$Plan", "fillSlot", "(II)V"⟩ ∈ gz := gz_t (List.mem_of_getElem? (i := 274) (by decide +kernel)) rfl
theorem kw_275 : Cond.code ⟨"SlottedMesh$Plan", "fillSlot", "(II)V"⟩ prog_6_method_13_code 4 none ∈ gz := gz_t (List.mem_of_getElem? (i := 275) (by decide +kernel)) rfl
theorem kw_276 : Cond.methodLink "SlottedMesh$Plan" 59 ⟨"SlottedMesh$Plan", "placeLinks", "()Z"⟩ ∈ gz := gz_t (List.mem_of_getElem? (i := 276) (by decide +kernel)) rfl
theorem kw_278 : Cond.instanceMethod ⟨"SlottedMesh$Plan", "placeLinks", "()Z"⟩ ∈ gz := gz_t (List.mem_of_getElem? (i := 278) (by decide +kernel)) rfl
theorem kw_279 : Cond.code ⟨"SlottedMesh$Plan", "placeLinks", "()Z"⟩ prog_6_method_14_code 6 (some .boolean) ∈ gz := gz_t (List.mem_of_getElem? (i := 279) (by decide +kernel)) rfl
theorem kw_280 : Cond.methodLink "SlottedMesh$Plan" 84 ⟨"SlottedMesh$Plan", "placeLink", "(III)Z"⟩ ∈ gz := gz_t (List.mem_of_getElem? (i := 280) (by decide +kernel)) rfl
theorem kw_282 : Cond.instanceMethod ⟨"SlottedMesh$Plan", "placeLink", "(III)Z"⟩ ∈ gz := gz_t (List.mem_of_getElem? (i := 282) (by decide +kernel)) rfl
theorem kw_283 : Cond.code ⟨"SlottedMesh$Plan", "placeLink", "(III)Z"⟩ prog_6_method_15_code 6 (some .boolean) ∈ gz := gz_t (List.mem_of_getElem? (i := 283) (by decide +kernel)) rfl
theorem kw_284 : Cond.methodLink "SlottedMesh$Plan" 88 ⟨"SlottedMesh$Plan", "freeChannel", "(III)I"⟩ ∈ gz := gz_t (List.mem_of_getElem? (i := 284) (by decide +kernel)) rfl
theorem kw_286 : Cond.instanceMethod ⟨"SlottedMesh$Plan", "freeChannel", "(III)I"⟩ ∈ gz := gz_t (List.mem_of_getElem? (i := 286) (by decide +kernel)) rfl
theorem kw_287 : Cond.code ⟨"SlottedMesh$Plan", "freeChannel", "(III)I"⟩ prog_6_method_16_code 6 (some .int) ∈ gz := gz_t (List.mem_of_getElem? (i := 287) (by decide +kernel)) rfl
theorem kw_288 : Cond.methodLink "SlottedMesh$Plan" 92 ⟨"SlottedMesh$Plan", "kindOf", "(I)I"⟩ ∈ gz := gz_t (List.mem_of_getElem? (i := 288) (by decide +kernel)) rfl
theorem kw_289 : Cond.static ⟨"SlottedMesh$Plan", "kindOf", "(I)I"⟩ ∈ gz := gz_t (List.mem_of_getElem? (i := 289) (by decide +kernel)) rfl
theorem kw_290 : Cond.code ⟨"SlottedMesh$Plan", "kindOf", "(I)I"⟩ prog_6_method_2_code 1 (some .int) ∈ gz := gz_t (List.mem_of_getElem? (i := 290) (by decide +kernel)) rfl
theorem kw_291 : Cond.methodLink "SlottedMesh$Plan" 96 ⟨"SlottedMesh$Plan", "touches", "(II)Z"⟩ ∈ gz := gz_t (List.mem_of_getElem? (i := 291) (by decide +kernel)) rfl
theorem kw_292 : Cond.static ⟨"SlottedMesh$Plan", "touches", "(II)Z"⟩ ∈ gz := gz_t (List.mem_of_getElem? (i := 292) (by decide +kernel)) rfl
theorem kw_293 : Cond.code ⟨"SlottedMesh$Plan", "touches", "(II)Z"⟩ prog_6_method_17_code 2 (some .boolean) ∈ gz := gz_t (List.mem_of_getElem? (i := 293) (by decide +kernel)) rfl
theorem kw_294 : Cond.methodLink "SlottedMesh$Plan" 100 ⟨"SlottedMesh$Plan", "fromOf", "(I)I"⟩ ∈ gz := gz_t (List.mem_of_getElem? (i := 294) (by decide +kernel)) rfl
theorem kw_295 : Cond.static ⟨"SlottedMesh$Plan", "fromOf", "(I)I"⟩ ∈ gz := gz_t (List.mem_of_getElem? (i := 295) (by decide +kernel)) rfl
theorem kw_296 : Cond.code ⟨"SlottedMesh$Plan", "fromOf", "(I)I"⟩ prog_6_method_3_code 1 (some .int) ∈ gz := gz_t (List.mem_of_getElem? (i := 296) (by decide +kernel)) rfl
theorem kw_297 : Cond.methodLink "SlottedMesh$Plan" 103 ⟨"SlottedMesh$Plan", "toOf", "(I)I"⟩ ∈ gz := gz_t (List.mem_of_getElem? (i := 297) (by decide +kernel)) rfl
theorem kw_298 : Cond.static ⟨"SlottedMesh$Plan", "toOf", "(I)I"⟩ ∈ gz := gz_t (List.mem_of_getElem? (i := 298) (by decide +kernel)) rfl
theorem kw_299 : Cond.code ⟨"SlottedMesh$Plan", "toOf", "(I)I"⟩ prog_6_method_4_code 1 (some .int) ∈ gz := gz_t (List.mem_of_getElem? (i := 299) (by decide +kernel)) rfl
theorem kw_300 : Cond.methodLink "SlottedMesh" 73 ⟨"SlottedMesh$Node", "enterPlan", "()V"⟩ ∈ gz := gz_t (List.mem_of_getElem? (i := 300) (by decide +kernel)) rfl
theorem kw_301 : Cond.instanceMethod ⟨"SlottedMesh$Node", "enterPlan", "()V"⟩ ∈ gz := gz_t (List.mem_of_getElem? (i := 301) (by decide +kernel)) rfl
theorem kw_302 : Cond.selects "SlottedMesh$Node" ⟨"SlottedMesh$Node", "enterPlan", "()V"⟩ ⟨"SlottedMesh$Node", "enterPlan", "()V"⟩ ∈ gz := gz_t (List.mem_of_getElem? (i := 302) (by decide +kernel)) rfl
theorem kw_303 : Cond.code ⟨"SlottedMesh$Node", "enterPlan", "()V"⟩ prog_5_method_2_code 1 none ∈ gz := gz_t (List.mem_of_getElem? (i := 303) (by decide +kernel)) rfl
theorem kw_304 : Cond.methodLink "SlottedMesh$Node" 49 ⟨"SlottedMesh$FrameRow", "clear", "()V"⟩ ∈ gz := gz_t (List.mem_of_getElem? (i := 304) (by decide +kernel)) rfl
theorem kw_305 : Cond.instanceMethod ⟨"SlottedMesh$FrameRow", "clear", "()V"⟩ ∈ gz := gz_t (List.mem_of_getElem? (i := 305) (by decide +kernel)) rfl
theorem kw_306 : Cond.selects "SlottedMesh$FrameRow" ⟨"SlottedMesh$FrameRow", "clear", "()V"⟩ ⟨"SlottedMesh$FrameRow", "clear", "()V"⟩ ∈ gz := gz_t (List.mem_of_getElem? (i := 306) (by decide +kernel)) rfl
theorem kw_307 : Cond.code ⟨"SlottedMesh$FrameRow", "clear", "()V"⟩ prog_3_method_4_code 1 none ∈ gz := gz_t (List.mem_of_getElem? (i := 307) (by decide +kernel)) rfl
theorem kw_308 : Cond.methodLink "SlottedMeshLaw" 31 ⟨"SlottedMesh", "start", "(I)Z"⟩ ∈ gz := gz_t (List.mem_of_getElem? (i := 308) (by decide +kernel)) rfl
theorem kw_309 : Cond.instanceMethod ⟨"SlottedMesh", "start", "(I)Z"⟩ ∈ gz := gz_t (List.mem_of_getElem? (i := 309) (by decide +kernel)) rfl
theorem kw_310 : Cond.selects "SlottedMesh" ⟨"SlottedMesh", "start", "(I)Z"⟩ ⟨"SlottedMesh", "start", "(I)Z"⟩ ∈ gz := gz_t (List.mem_of_getElem? (i := 310) (by decide +kernel)) rfl
theorem kw_311 : Cond.code ⟨"SlottedMesh", "start", "(I)Z"⟩ prog_1_method_4_code 2 (some .boolean) ∈ gz := gz_t (List.mem_of_getElem? (i := 311) (by decide +kernel)) rfl
theorem kw_312 : Cond.methodLink "SlottedMeshLaw" 36 ⟨"SlottedMesh", "stop", "(I)Z"⟩ ∈ gz := gz_t (List.mem_of_getElem? (i := 312) (by decide +kernel)) rfl
theorem kw_313 : Cond.instanceMethod ⟨"SlottedMesh", "stop", "(I)Z"⟩ ∈ gz := gz_t (List.mem_of_getElem? (i := 313) (by decide +kernel)) rfl
theorem kw_314 : Cond.selects "SlottedMesh" ⟨"SlottedMesh", "stop", "(I)Z"⟩ ⟨"SlottedMesh", "stop", "(I)Z"⟩ ∈ gz := gz_t (List.mem_of_getElem? (i := 314) (by decide +kernel)) rfl
theorem kw_315 : Cond.code ⟨"SlottedMesh", "stop", "(I)Z"⟩ prog_1_method_5_code 2 (some .boolean) ∈ gz := gz_t (List.mem_of_getElem? (i := 315) (by decide +kernel)) rfl
theorem kw_316 : Cond.methodLink "SlottedMesh" 86 ⟨"SlottedMesh", "isFieldNode", "(I)Z"⟩ ∈ gz := gz_t (List.mem_of_getElem? (i := 316) (by decide +kernel)) rfl
theorem kw_318 : Cond.instanceMethod ⟨"SlottedMesh", "isFieldNode", "(I)Z"⟩ ∈ gz := gz_t (List.mem_of_getElem? (i := 318) (by decide +kernel)) rfl
theorem kw_319 : Cond.code ⟨"SlottedMesh", "isFieldNode", "(I)Z"⟩ prog_1_method_24_code 2 (some .boolean) ∈ gz := gz_t (List.mem_of_getElem? (i := 319) (by decide +kernel)) rfl
theorem kw_320 : Cond.methodLink "SlottedMesh" 89 ⟨"SlottedMesh$Node", "switchOff", "()V"⟩ ∈ gz := gz_t (List.mem_of_getElem? (i := 320) (by decide +kernel)) rfl
theorem kw_321 : Cond.instanceMethod ⟨"SlottedMesh$Node", "switchOff", "()V"⟩ ∈ gz := gz_t (List.mem_of_getElem? (i := 321) (by decide +kernel)) rfl
theorem kw_322 : Cond.selects "SlottedMesh$Node" ⟨"SlottedMesh$Node", "switchOff", "()V"⟩ ⟨"SlottedMesh$Node", "switchOff", "()V"⟩ ∈ gz := gz_t (List.mem_of_getElem? (i := 322) (by decide +kernel)) rfl
theorem kw_323 : Cond.code ⟨"SlottedMesh$Node", "switchOff", "()V"⟩ prog_5_method_3_code 2 none ∈ gz := gz_t (List.mem_of_getElem? (i := 323) (by decide +kernel)) rfl
theorem kw_324 : Cond.methodLink "SlottedMesh$Node" 55 ⟨"java/util/Arrays", "fill", "([II)V"⟩ ∈ gz := gz_t (List.mem_of_getElem? (i := 324) (by decide +kernel)) rfl
theorem kw_325 : Cond.methodLink "SlottedMeshLaw" 40 ⟨"SlottedMesh", "drift", "(II)Z"⟩ ∈ gz := gz_t (List.mem_of_getElem? (i := 325) (by decide +kernel)) rfl
theorem kw_326 : Cond.instanceMethod ⟨"SlottedMesh", "drift", "(II)Z"⟩ ∈ gz := gz_t (List.mem_of_getElem? (i := 326) (by decide +kernel)) rfl
theorem kw_327 : Cond.selects "SlottedMesh" ⟨"SlottedMesh", "drift", "(II)Z"⟩ ⟨"SlottedMesh", "drift", "(II)Z"⟩ ∈ gz := gz_t (List.mem_of_getElem? (i := 327) (by decide +kernel)) rfl
theorem kw_328 : Cond.code ⟨"SlottedMesh", "drift", "(II)Z"⟩ prog_1_method_6_code 3 (some .boolean) ∈ gz := gz_t (List.mem_of_getElem? (i := 328) (by decide +kernel)) rfl
theorem kw_329 : Cond.methodLink "SlottedMesh" 92 ⟨"SlottedMesh", "isWithin", "(III)Z"⟩ ∈ gz := gz_t (List.mem_of_getElem? (i := 329) (by decide +kernel)) rfl
theorem kw_330 : Cond.static ⟨"SlottedMesh", "isWithin", "(III)Z"⟩ ∈ gz := gz_t (List.mem_of_getElem? (i := 330) (by decide +kernel)) rfl
theorem kw_331 : Cond.code ⟨"SlottedMesh", "isWithin", "(III)Z"⟩ prog_1_method_22_code 3 (some .boolean) ∈ gz := gz_t (List.mem_of_getElem? (i := 331) (by decide +kernel)) rfl
theorem kw_332 : Cond.methodLink "SlottedMeshLaw" 47 ⟨"SlottedMesh", "radio", "(IJJ)Z"⟩ ∈ gz := gz_t (List.mem_of_getElem? (i := 332) (by decide +kernel)) rfl
theorem kw_333 : Cond.instanceMethod ⟨"SlottedMesh", "radio", "(IJJ)Z"⟩ ∈ gz := gz_t (List.mem_of_getElem? (i := 333) (by decide +kernel)) rfl
theorem kw_334 : Cond.selects "SlottedMesh" ⟨"SlottedMesh", "radio", "(IJJ)Z"⟩ ⟨"SlottedMesh", "radio", "(IJJ)Z"⟩ ∈ gz := gz_t (List.mem_of_getElem? (i := 334) (by decide +kernel)) rfl
theorem kw_335 : Cond.code ⟨"SlottedMesh", "radio", "(IJJ)Z"⟩ prog_1_method_7_code 6 (some .boolean) ∈ gz := gz_t (List.mem_of_getElem? (i := 335) (by decide +kernel)) rfl
theorem kw_336 : Cond.methodLink "SlottedMesh" 99 ⟨"SlottedMesh", "isChannel", "(I)Z"⟩ ∈ gz := gz_t (List.mem_of_getElem? (i := 336) (by decide +kernel)) rfl
theorem kw_338 : Cond.instanceMethod ⟨"SlottedMesh", "isChannel", "(I)Z"⟩ ∈ gz := gz_t (List.mem_of_getElem? (i := 338) (by decide +kernel)) rfl
theorem kw_339 : Cond.code ⟨"SlottedMesh", "isChannel", "(I)Z"⟩ prog_1_method_25_code 2 (some .boolean) ∈ gz := gz_t (List.mem_of_getElem? (i := 339) (by decide +kernel)) rfl
theorem kw_340 : Cond.methodLink "SlottedMeshLaw" 52 ⟨"SlottedMesh", "sample", "(II)I"⟩ ∈ gz := gz_t (List.mem_of_getElem? (i := 340) (by decide +kernel)) rfl
theorem kw_341 : Cond.instanceMethod ⟨"SlottedMesh", "sample", "(II)I"⟩ ∈ gz := gz_t (List.mem_of_getElem? (i := 341) (by decide +kernel)) rfl
theorem kw_342 : Cond.selects "SlottedMesh" ⟨"SlottedMesh", "sample", "(II)I"⟩ ⟨"SlottedMesh", "sample", "(II)I"⟩ ∈ gz := gz_t (List.mem_of_getElem? (i := 342) (by decide +kernel)) rfl
theorem kw_343 : Cond.code ⟨"SlottedMesh", "sample", "(II)I"⟩ prog_1_method_8_code 4 (some .int) ∈ gz := gz_t (List.mem_of_getElem? (i := 343) (by decide +kernel)) rfl
theorem kw_344 : Cond.methodLink "SlottedMesh" 116 ⟨"SlottedMesh$FrameRow", "append", "(III)Z"⟩ ∈ gz := gz_t (List.mem_of_getElem? (i := 344) (by decide +kernel)) rfl
theorem kw_345 : Cond.instanceMethod ⟨"SlottedMesh$FrameRow", "append", "(III)Z"⟩ ∈ gz := gz_t (List.mem_of_getElem? (i := 345) (by decide +kernel)) rfl
theorem kw_346 : Cond.selects "SlottedMesh$FrameRow" ⟨"SlottedMesh$FrameRow", "append", "(III)Z"⟩ ⟨"SlottedMesh$FrameRow", "append", "(III)Z"⟩ ∈ gz := gz_t (List.mem_of_getElem? (i := 346) (by decide +kernel)) rfl
theorem kw_347 : Cond.code ⟨"SlottedMesh$FrameRow", "append", "(III)Z"⟩ prog_3_method_2_code 4 (some .boolean) ∈ gz := gz_t (List.mem_of_getElem? (i := 347) (by decide +kernel)) rfl
theorem kw_348 : Cond.methodLink "SlottedMeshLaw" 57 ⟨"SlottedMesh", "control", "(IIII)Z"⟩ ∈ gz := gz_t (List.mem_of_getElem? (i := 348) (by decide +kernel)) rfl
theorem kw_349 : Cond.instanceMethod ⟨"SlottedMesh", "control", "(IIII)Z"⟩ ∈ gz := gz_t (List.mem_of_getElem? (i := 349) (by decide +kernel)) rfl
theorem kw_350 : Cond.selects "SlottedMesh" ⟨"SlottedMesh", "control", "(IIII)Z"⟩ ⟨"SlottedMesh", "control", "(IIII)Z"⟩ ∈ gz := gz_t (List.mem_of_getElem? (i := 350) (by decide +kernel)) rfl
theorem kw_351 : Cond.code ⟨"SlottedMesh", "control", "(IIII)Z"⟩ prog_1_method_9_code 5 (some .boolean) ∈ gz := gz_t (List.mem_of_getElem? (i := 351) (by decide +kernel)) rfl
theorem kw_352 : Cond.methodLink "SlottedMeshLaw" 62 ⟨"SlottedMesh", "run", "(I)I"⟩ ∈ gz := gz_t (List.mem_of_getElem? (i := 352) (by decide +kernel)) rfl
theorem kw_353 : Cond.instanceMethod ⟨"SlottedMesh", "run", "(I)I"⟩ ∈ gz := gz_t (List.mem_of_getElem? (i := 353) (by decide +kernel)) rfl
theorem kw_354 : Cond.selects "SlottedMesh" ⟨"SlottedMesh", "run", "(I)I"⟩ ⟨"SlottedMesh", "run", "(I)I"⟩ ∈ gz := gz_t (List.mem_of_getElem? (i := 354) (by decide +kernel)) rfl
theorem kw_355 : Cond.code ⟨"SlottedMesh", "run", "(I)I"⟩ prog_1_method_10_code 3 (some .int) ∈ gz := gz_t (List.mem_of_getElem? (i := 355) (by decide +kernel)) rfl
theorem kw_356 : Cond.methodLink "SlottedMesh" 130 ⟨"SlottedMesh", "driftClocks", "()V"⟩ ∈ gz := gz_t (List.mem_of_getElem? (i := 356) (by decide +kernel)) rfl
theorem kw_358 : Cond.instanceMethod ⟨"SlottedMesh", "driftClocks", "()V"⟩ ∈ gz := gz_t (List.mem_of_getElem? (i := 358) (by decide +kernel)) rfl
theorem kw_359 : Cond.code ⟨"SlottedMesh", "driftClocks", "()V"⟩ prog_1_method_26_code 2 none ∈ gz := gz_t (List.mem_of_getElem? (i := 359) (by decide +kernel)) rfl
theorem kw_360 : Cond.methodLink "SlottedMesh" 136 ⟨"java/lang/Math", "floorMod", "(II)I"⟩ ∈ gz := gz_t (List.mem_of_getElem? (i := 360) (by decide +kernel)) rfl
theorem kw_361 : Cond.static ⟨"java/lang/Math", "floorMod", "(II)I"⟩ ∈ gz := gz_t (List.mem_of_getElem? (i := 361) (by decide +kernel)) rfl
theorem kw_362 : Cond.code ⟨"java/lang/Math", "floorMod", "(II)I"⟩ prog_9_method_50_code 3 (some .int) ∈ gz := gz_t (List.mem_of_getElem? (i := 362) (by decide +kernel)) rfl
theorem kw_363 : Cond.methodLink "SlottedMesh" 142 ⟨"SlottedMesh", "playCells", "(I)V"⟩ ∈ gz := gz_t (List.mem_of_getElem? (i := 363) (by decide +kernel)) rfl
theorem kw_365 : Cond.instanceMethod ⟨"SlottedMesh", "playCells", "(I)V"⟩ ∈ gz := gz_t (List.mem_of_getElem? (i := 365) (by decide +kernel)) rfl
theorem kw_366 : Cond.code ⟨"SlottedMesh", "playCells", "(I)V"⟩ prog_1_method_27_code 7 none ∈ gz := gz_t (List.mem_of_getElem? (i := 366) (by decide +kernel)) rfl
theorem kw_367 : Cond.methodLink "SlottedMesh" 156 ⟨"SlottedMesh$Plan", "codeAt", "(II)I"⟩ ∈ gz := gz_t (List.mem_of_getElem? (i := 367) (by decide +kernel)) rfl
theorem kw_368 : Cond.methodLink "SlottedMesh" 190 ⟨"SlottedMesh$Plan", "fromOf", "(I)I"⟩ ∈ gz := gz_t (List.mem_of_getElem? (i := 368) (by decide +kernel)) rfl
theorem kw_369 : Cond.methodLink "SlottedMesh" 194 ⟨"SlottedMesh$Plan", "toOf", "(I)I"⟩ ∈ gz := gz_t (List.mem_of_getElem? (i := 369) (by decide +kernel)) rfl
theorem kw_370 : Cond.methodLink "SlottedMesh" 197 ⟨"SlottedMesh$Plan", "kindOf", "(I)I"⟩ ∈ gz := gz_t (List.mem_of_getElem? (i := 370) (by decide +kernel)) rfl
theorem kw_371 : Cond.methodLink "SlottedMesh" 200 ⟨"SlottedMesh", "advertise", "(LSlottedMesh$Node;LSlottedMesh$Channel;)V"⟩ ∈ gz := gz_t (List.mem_of_getElem? (i := 371) (by decide +kernel)) rfl
theorem kw_373 : Cond.instanceMethod ⟨"SlottedMesh", "advertise", "(LSlottedMesh$Node;LSlottedMesh$Channel;)V"⟩ ∈ gz := gz_t (List.mem_of_getElem? (i := 373) (by decide +kernel)) rfl
theorem kw_374 : Cond.code ⟨"SlottedMesh", "advertise", "(LSlottedMesh$Node;LSlottedMesh$Channel;)V"⟩ prog_1_method_28_code 4 none ∈ gz := gz_t (List.mem_of_getElem? (i := 374) (by decide +kernel)) rfl
theorem kw_375 : Cond.methodLink "SlottedMesh" 211 ⟨"SlottedMesh$Channel", "carriesFrame", "(I)Z"⟩ ∈ gz := gz_t (List.mem_of_getElem? (i := 375) (by decide +kernel)) rfl
theorem kw_376 : Cond.instanceMethod ⟨"SlottedMesh$Channel", "carriesFrame", "(I)Z"⟩ ∈ gz := gz_t (List.mem_of_getElem? (i := 376) (by decide +kernel)) rfl
theorem kw_377 : Cond.selects "SlottedMesh$Channel" ⟨"SlottedMesh$Channel", "carriesFrame", "(I)Z"⟩ ⟨"SlottedMesh$Channel", "carriesFrame", "(I)Z"⟩ ∈ gz := gz_t (List.mem_of_getElem? (i := 377) (by decide +kernel)) rfl
theorem kw_378 : Cond.code ⟨"SlottedMesh$Channel", "carriesFrame", "(I)Z"⟩ prog_2_method_2_code 2 (some .boolean) ∈ gz := gz_t (List.mem_of_getElem? (i := 378) (by decide +kernel)) rfl
theorem kw_379 : Cond.methodLink "SlottedMesh$Channel" 18 ⟨"SlottedMesh$Channel", "bitAt", "(JI)Z"⟩ ∈ gz := gz_t (List.mem_of_getElem? (i := 379) (by decide +kernel)) rfl
theorem kw_380 : Cond.static ⟨"SlottedMesh$Channel", "bitAt", "(JI)Z"⟩ ∈ gz := gz_t (List.mem_of_getElem? (i := 380) (by decide +kernel)) rfl
theorem kw_381 : Cond.code ⟨"SlottedMesh$Channel", "bitAt", "(JI)Z"⟩ prog_2_method_4_code 3 (some .boolean) ∈ gz := gz_t (List.mem_of_getElem? (i := 381) (by decide +kernel)) rfl
theorem kw_382 : Cond.methodLink "SlottedMesh$Channel" 22 ⟨"java/lang/Math", "floorMod", "(II)I"⟩ ∈ gz := gz_t (List.mem_of_getElem? (i := 382) (by decide +kernel)) rfl
theorem kw_383 : Cond.methodLink "SlottedMesh" 214 ⟨"SlottedMesh", "answerAdvert", "(LSlottedMesh$Node;LSlottedMesh$Node;)V"⟩ ∈ gz := gz_t (List.mem_of_getElem? (i := 383) (by decide +kernel)) rfl
theorem kw_385 : Cond.instanceMethod ⟨"SlottedMesh", "answerAdvert", "(LSlottedMesh$Node;LSlottedMesh$Node;)V"⟩ ∈ gz := gz_t (List.mem_of_getElem? (i := 385) (by decide +kernel)) rfl
theorem kw_386 : Cond.code ⟨"SlottedMesh", "answerAdvert", "(LSlottedMesh$Node;LSlottedMesh$Node;)V"⟩ prog_1_method_29_code 3 none ∈ gz := gz_t (List.mem_of_getElem? (i := 386) (by decide +kernel)) rfl
theorem kw_387 : Cond.methodLink "SlottedMesh" 221 ⟨"SlottedMesh$Node", "clockIsCloseTo", "(LSlottedMesh$Node;)Z"⟩ ∈ gz := gz_t (List.mem_of_getElem? (i := 387) (by decide +kernel)) rfl
theorem kw_388 : Cond.instanceMethod ⟨"SlottedMesh$Node", "clockIsCloseTo", "(LSlottedMesh$Node;)Z"⟩ ∈ gz := gz_t (List.mem_of_getElem? (i := 388) (by decide +kernel)) rfl
theorem kw_389 : Cond.selects "SlottedMesh$Node" ⟨"SlottedMesh$Node", "clockIsCloseTo", "(LSlottedMesh$Node;)Z"⟩ ⟨"SlottedMesh$Node", "clockIsCloseTo", "(LSlottedMesh$Node;)Z"⟩ ∈ gz := gz_t (List.mem_of_getElem? (i := 389) (by decide +kernel)) rfl
theorem kw_390 : Cond.code ⟨"SlottedMesh$Node", "clockIsCloseTo", "(LSlottedMesh$Node;)Z"⟩ prog_5_method_4_code 2 (some .boolean) ∈ gz := gz_t (List.mem_of_getElem? (i := 390) (by decide +kernel)) rfl
theorem kw_391 : Cond.methodLink "SlottedMesh$Node" 61 ⟨"java/lang/Math", "abs", "(I)I"⟩ ∈ gz := gz_t (List.mem_of_getElem? (i := 391) (by decide +kernel)) rfl
theorem kw_392 : Cond.static ⟨"java/lang/Math", "abs", "(I)I"⟩ ∈ gz := gz_t (List.mem_of_getElem? (i := 392) (by decide +kernel)) rfl
theorem kw_393 : Cond.code ⟨"java/lang/Math", "abs", "(I)I"⟩ prog_9_method_59_code 1 (some .int) ∈ gz := gz_t (List.mem_of_getElem? (i := 393) (by decide +kernel)) rfl
theorem kw_394 : Cond.methodLink "SlottedMesh" 204 ⟨"SlottedMesh", "sendUp", "(LSlottedMesh$Node;LSlottedMesh$Node;LSlottedMesh$Channel;)V"⟩ ∈ gz := gz_t (List.mem_of_getElem? (i := 394) (by decide +kernel)) rfl
theorem kw_396 : Cond.instanceMethod ⟨"SlottedMesh", "sendUp", "(LSlottedMesh$Node;LSlottedMesh$Node;LSlottedMesh$Channel;)V"⟩ ∈ gz := gz_t (List.mem_of_getElem? (i := 396) (by decide +kernel)) rfl
theorem kw_397 : Cond.code ⟨"SlottedMesh", "sendUp", "(LSlottedMesh$Node;LSlottedMesh$Node;LSlottedMesh$Channel;)V"⟩ prog_1_method_31_code 5 none ∈ gz := gz_t (List.mem_of_getElem? (i := 397) (by decide +kernel)) rfl
theorem kw_398 : Cond.methodLink "SlottedMesh" 225 ⟨"SlottedMesh", "hears", "(LSlottedMesh$Node;LSlottedMesh$Node;LSlottedMesh$Channel;)Z"⟩ ∈ gz := gz_t (List.mem_of_getElem? (i := 398) (by decide +kernel)) rfl
theorem kw_400 : Cond.instanceMethod ⟨"SlottedMesh", "hears", "(LSlottedMesh$Node;LSlottedMesh$Node;LSlottedMesh$Channel;)Z"⟩ ∈ gz := gz_t (List.mem_of_getElem? (i := 400) (by decide +kernel)) rfl
theorem kw_401 : Cond.code ⟨"SlottedMesh", "hears", "(LSlottedMesh$Node;LSlottedMesh$Node;LSlottedMesh$Channel;)Z"⟩ prog_1_method_30_code 4 (some .boolean) ∈ gz := gz_t (List.mem_of_getElem? (i := 401) (by decide +kernel)) rfl
theorem kw_402 : Cond.methodLink "SlottedMesh" 229 ⟨"SlottedMesh", "settleUp", "(LSlottedMesh$FrameRow;LSlottedMesh$Node;)Z"⟩ ∈ gz := gz_t (List.mem_of_getElem? (i := 402) (by decide +kernel)) rfl
theorem kw_404 : Cond.instanceMethod ⟨"SlottedMesh", "settleUp", "(LSlottedMesh$FrameRow;LSlottedMesh$Node;)Z"⟩ ∈ gz := gz_t (List.mem_of_getElem? (i := 404) (by decide +kernel)) rfl
theorem kw_405 : Cond.code ⟨"SlottedMesh", "settleUp", "(LSlottedMesh$FrameRow;LSlottedMesh$Node;)Z"⟩ prog_1_method_32_code 5 (some .boolean) ∈ gz := gz_t (List.mem_of_getElem? (i := 405) (by decide +kernel)) rfl
theorem kw_406 : Cond.methodLink "SlottedMesh" 251 ⟨"SlottedMesh", "cacheSample", "(III)V"⟩ ∈ gz := gz_t (List.mem_of_getElem? (i := 406) (by decide +kernel)) rfl
theorem kw_408 : Cond.instanceMethod ⟨"SlottedMesh", "cacheSample", "(III)V"⟩ ∈ gz := gz_t (List.mem_of_getElem? (i := 408) (by decide +kernel)) rfl
theorem kw_409 : Cond.code ⟨"SlottedMesh", "cacheSample", "(III)V"⟩ prog_1_method_33_code 4 none ∈ gz := gz_t (List.mem_of_getElem? (i := 409) (by decide +kernel)) rfl
theorem kw_410 : Cond.methodLink "SlottedMesh" 254 ⟨"SlottedMesh$Loop", "keep", "(I)V"⟩ ∈ gz := gz_t (List.mem_of_getElem? (i := 410) (by decide +kernel)) rfl
theorem kw_411 : Cond.instanceMethod ⟨"SlottedMesh$Loop", "keep", "(I)V"⟩ ∈ gz := gz_t (List.mem_of_getElem? (i := 411) (by decide +kernel)) rfl
theorem kw_412 : Cond.selects "SlottedMesh$Loop" ⟨"SlottedMesh$Loop", "keep", "(I)V"⟩ ⟨"SlottedMesh$Loop", "keep", "(I)V"⟩ ∈ gz := gz_t (List.mem_of_getElem? (i := 412) (by decide +kernel)) rfl
theorem kw_413 : Cond.code ⟨"SlottedMesh$Loop", "keep", "(I)V"⟩ prog_4_method_2_code 3 none ∈ gz := gz_t (List.mem_of_getElem? (i := 413) (by decide +kernel)) rfl
theorem kw_414 : Cond.methodLink "SlottedMesh$Loop" 17 ⟨"java/lang/Math", "min", "(II)I"⟩ ∈ gz := gz_t (List.mem_of_getElem? (i := 414) (by decide +kernel)) rfl
theorem kw_415 : Cond.methodLink "SlottedMesh" 257 ⟨"SlottedMesh$Loop", "nextCommand", "(I)I"⟩ ∈ gz := gz_t (List.mem_of_getElem? (i := 415) (by decide +kernel)) rfl
theorem kw_416 : Cond.instanceMethod ⟨"SlottedMesh$Loop", "nextCommand", "(I)I"⟩ ∈ gz := gz_t (List.mem_of_getElem? (i := 416) (by decide +kernel)) rfl
theorem kw_417 : Cond.selects "SlottedMesh$Loop" ⟨"SlottedMesh$Loop", "nextCommand", "(I)I"⟩ ⟨"SlottedMesh$Loop", "nextCommand", "(I)I"⟩ ∈ gz := gz_t (List.mem_of_getElem? (i := 417) (by decide +kernel)) rfl
theorem kw_418 : Cond.code ⟨"SlottedMesh$Loop", "nextCommand", "(I)I"⟩ prog_4_method_3_code 4 (some .int) ∈ gz := gz_t (List.mem_of_getElem? (i := 418) (by decide +kernel)) rfl
theorem kx_419 : Cond.methodLinkNest "SlottedMesh$Loop" 29 ⟨"SlottedMesh", "nearest", "(III)I"⟩ "SlottedMesh" ∈ lw_tbl := List.mem_append_right _ (List.mem_of_getElem? (i := 419) (by decide +kernel))
theorem kw_420 : Cond.methodLink "SlottedMesh$Loop" 41 ⟨"java/lang/Math", "floorDiv", "(II)I"⟩ ∈ gz := gz_t (List.mem_of_getElem? (i := 420) (by decide +kernel)) rfl
theorem kw_421 : Cond.static ⟨"java/lang/Math", "floorDiv", "(II)I"⟩ ∈ gz := gz_t (List.mem_of_getElem? (i := 421) (by decide +kernel)) rfl
theorem kw_422 : Cond.code ⟨"java/lang/Math", "floorDiv", "(II)I"⟩ prog_9_method_47_code 3 (some .int) ∈ gz := gz_t (List.mem_of_getElem? (i := 422) (by decide +kernel)) rfl
theorem kw_423 : Cond.methodLink "SlottedMesh" 233 ⟨"SlottedMesh$Channel", "carriesConfirmation", "(I)Z"⟩ ∈ gz := gz_t (List.mem_of_getElem? (i := 423) (by decide +kernel)) rfl
theorem kw_424 : Cond.instanceMethod ⟨"SlottedMesh$Channel", "carriesConfirmation", "(I)Z"⟩ ∈ gz := gz_t (List.mem_of_getElem? (i := 424) (by decide +kernel)) rfl
theorem kw_425 : Cond.selects "SlottedMesh$Channel" ⟨"SlottedMesh$Channel", "carriesConfirmation", "(I)Z"⟩ ⟨"SlottedMesh$Channel", "carriesConfirmation", "(I)Z"⟩ ∈ gz := gz_t (List.mem_of_getElem? (i := 425) (by decide +kernel)) rfl
theorem kw_426 : Cond.code ⟨"SlottedMesh$Channel", "carriesConfirmation", "(I)Z"⟩ prog_2_method_3_code 2 (some .boolean) ∈ gz := gz_t (List.mem_of_getElem? (i := 426) (by decide +kernel)) rfl
theorem kw_427 : Cond.methodLink "SlottedMesh" 236 ⟨"SlottedMesh$Node", "failUp", "()V"⟩ ∈ gz := gz_t (List.mem_of_getElem? (i := 427) (by decide +kernel)) rfl
theorem kw_428 : Cond.instanceMethod ⟨"SlottedMesh$Node", "failUp", "()V"⟩ ∈ gz := gz_t (List.mem_of_getElem? (i := 428) (by decide +kernel)) rfl
theorem kw_429 : Cond.selects "SlottedMesh$Node" ⟨"SlottedMesh$Node", "failUp", "()V"⟩ ⟨"SlottedMesh$Node", "failUp", "()V"⟩ ∈ gz := gz_t (List.mem_of_getElem? (i := 429) (by decide +kernel)) rfl
theorem kw_430 : Cond.code ⟨"SlottedMesh$Node", "failUp", "()V"⟩ prog_5_method_5_code 1 none ∈ gz := gz_t (List.mem_of_getElem? (i := 430) (by decide +kernel)) rfl
theorem kw_431 : Cond.methodLink "SlottedMesh" 239 ⟨"SlottedMesh$FrameRow", "dropFirst", "()V"⟩ ∈ gz := gz_t (List.mem_of_getElem? (i := 431) (by decide +kernel)) rfl
theorem kw_432 : Cond.instanceMethod ⟨"SlottedMesh$FrameRow", "dropFirst", "()V"⟩ ∈ gz := gz_t (List.mem_of_getElem? (i := 432) (by decide +kernel)) rfl
theorem kw_433 : Cond.selects "SlottedMesh$FrameRow" ⟨"SlottedMesh$FrameRow", "dropFirst", "()V"⟩ ⟨"SlottedMesh$FrameRow", "dropFirst", "()V"⟩ ∈ gz := gz_t (List.mem_of_getElem? (i := 433) (by decide +kernel)) rfl
theorem kw_434 : Cond.code ⟨"SlottedMesh$FrameRow", "dropFirst", "()V"⟩ prog_3_method_3_code 2 none ∈ gz := gz_t (List.mem_of_getElem? (i := 434) (by decide +kernel)) rfl
theorem kw_435 : Cond.methodLink "SlottedMesh" 208 ⟨"SlottedMesh", "sendDown", "(LSlottedMesh$Node;LSlottedMesh$Node;LSlottedMesh$Channel;)V"⟩ ∈ gz := gz_t (List.mem_of_getElem? (i := 435) (by decide +kernel)) rfl
theorem kw_437 : Cond.instanceMethod ⟨"SlottedMesh", "sendDown", "(LSlottedMesh$Node;LSlottedMesh$Node;LSlottedMesh$Channel;)V"⟩ ∈ gz := gz_t (List.mem_of_getElem? (i := 437) (by decide +kernel)) rfl
theorem kw_438 : Cond.code ⟨"SlottedMesh", "sendDown", "(LSlottedMesh$Node;LSlottedMesh$Node;LSlottedMesh$Channel;)V"⟩ prog_1_method_34_code 6 none ∈ gz := gz_t (List.mem_of_getElem? (i := 438) (by decide +kernel)) rfl
theorem kw_439 : Cond.methodLink "SlottedMesh" 260 ⟨"SlottedMesh$Plan", "leadsUp", "(II)Z"⟩ ∈ gz := gz_t (List.mem_of_getElem? (i := 439) (by decide +kernel)) rfl
theorem kw_440 : Cond.instanceMethod ⟨"SlottedMesh$Plan", "leadsUp", "(II)Z"⟩ ∈ gz := gz_t (List.mem_of_getElem? (i := 440) (by decide +kernel)) rfl
theorem kw_441 : Cond.selects "SlottedMesh$Plan" ⟨"SlottedMesh$Plan", "leadsUp", "(II)Z"⟩ ⟨"SlottedMesh$Plan", "leadsUp", "(II)Z"⟩ ∈ gz := gz_t (List.mem_of_getElem? (i := 441) (by decide +kernel)) rfl
theorem kw_442 : Cond.code ⟨"SlottedMesh$Plan", "leadsUp", "(II)Z"⟩ prog_6_method_7_code 5 (some .boolean) ∈ gz := gz_t (List.mem_of_getElem? (i := 442) (by decide +kernel)) rfl
theorem kw_443 : Cond.methodLink "SlottedMesh" 264 ⟨"SlottedMesh", "settleDown", "(LSlottedMesh$FrameRow;LSlottedMesh$Node;)Z"⟩ ∈ gz := gz_t (List.mem_of_getElem? (i := 443) (by decide +kernel)) rfl
theorem kw_444 : Cond.static ⟨"SlottedMesh", "settleDown", "(LSlottedMesh$FrameRow;LSlottedMesh$Node;)Z"⟩ ∈ gz := gz_t (List.mem_of_getElem? (i := 444) (by decide +kernel)) rfl
theorem kw_445 : Cond.code ⟨"SlottedMesh", "settleDown", "(LSlottedMesh$FrameRow;LSlottedMesh$Node;)Z"⟩ prog_1_method_35_code 4 (some .boolean) ∈ gz := gz_t (List.mem_of_getElem? (i := 445) (by decide +kernel)) rfl
theorem kw_446 : Cond.methodLink "SlottedMesh" 267 ⟨"SlottedMesh$Node", "failDown", "()V"⟩ ∈ gz := gz_t (List.mem_of_getElem? (i := 446) (by decide +kernel)) rfl
theorem kw_447 : Cond.instanceMethod ⟨"SlottedMesh$Node", "failDown", "()V"⟩ ∈ gz := gz_t (List.mem_of_getElem? (i := 447) (by decide +kernel)) rfl
theorem kw_448 : Cond.selects "SlottedMesh$Node" ⟨"SlottedMesh$Node", "failDown", "()V"⟩ ⟨"SlottedMesh$Node", "failDown", "()V"⟩ ∈ gz := gz_t (List.mem_of_getElem? (i := 448) (by decide +kernel)) rfl
theorem kw_449 : Cond.code ⟨"SlottedMesh$Node", "failDown", "()V"⟩ prog_5_method_6_code 1 none ∈ gz := gz_t (List.mem_of_getElem? (i := 449) (by decide +kernel)) rfl
theorem kw_450 : Cond.methodLink "SlottedMesh$Node" 67 ⟨"SlottedMesh$FrameRow", "dropFirst", "()V"⟩ ∈ gz := gz_t (List.mem_of_getElem? (i := 450) (by decide +kernel)) rfl
theorem kw_451 : Cond.methodLink "SlottedMeshLaw" 67 ⟨"SlottedMesh", "rank", "(I)I"⟩ ∈ gz := gz_t (List.mem_of_getElem? (i := 451) (by decide +kernel)) rfl
theorem kw_452 : Cond.instanceMethod ⟨"SlottedMesh", "rank", "(I)I"⟩ ∈ gz := gz_t (List.mem_of_getElem? (i := 452) (by decide +kernel)) rfl
theorem kw_453 : Cond.selects "SlottedMesh" ⟨"SlottedMesh", "rank", "(I)I"⟩ ⟨"SlottedMesh", "rank", "(I)I"⟩ ∈ gz := gz_t (List.mem_of_getElem? (i := 453) (by decide +kernel)) rfl
theorem kw_454 : Cond.code ⟨"SlottedMesh", "rank", "(I)I"⟩ prog_1_method_11_code 2 (some .int) ∈ gz := gz_t (List.mem_of_getElem? (i := 454) (by decide +kernel)) rfl
theorem kw_455 : Cond.methodLink "SlottedMeshLaw" 71 ⟨"SlottedMesh", "parent", "(II)I"⟩ ∈ gz := gz_t (List.mem_of_getElem? (i := 455) (by decide +kernel)) rfl
theorem kw_456 : Cond.instanceMethod ⟨"SlottedMesh", "parent", "(II)I"⟩ ∈ gz := gz_t (List.mem_of_getElem? (i := 456) (by decide +kernel)) rfl
theorem kw_457 : Cond.selects "SlottedMesh" ⟨"SlottedMesh", "parent", "(II)I"⟩ ⟨"SlottedMesh", "parent", "(II)I"⟩ ∈ gz := gz_t (List.mem_of_getElem? (i := 457) (by decide +kernel)) rfl
theorem kw_458 : Cond.code ⟨"SlottedMesh", "parent", "(II)I"⟩ prog_1_method_12_code 3 (some .int) ∈ gz := gz_t (List.mem_of_getElem? (i := 458) (by decide +kernel)) rfl
theorem kw_459 : Cond.methodLink "SlottedMeshLaw" 75 ⟨"SlottedMesh", "cell", "(II)I"⟩ ∈ gz := gz_t (List.mem_of_getElem? (i := 459) (by decide +kernel)) rfl
theorem kw_460 : Cond.instanceMethod ⟨"SlottedMesh", "cell", "(II)I"⟩ ∈ gz := gz_t (List.mem_of_getElem? (i := 460) (by decide +kernel)) rfl
theorem kw_461 : Cond.selects "SlottedMesh" ⟨"SlottedMesh", "cell", "(II)I"⟩ ⟨"SlottedMesh", "cell", "(II)I"⟩ ∈ gz := gz_t (List.mem_of_getElem? (i := 461) (by decide +kernel)) rfl
theorem kw_462 : Cond.code ⟨"SlottedMesh", "cell", "(II)I"⟩ prog_1_method_13_code 3 (some .int) ∈ gz := gz_t (List.mem_of_getElem? (i := 462) (by decide +kernel)) rfl
theorem kw_463 : Cond.methodLink "SlottedMeshLaw" 78 ⟨"SlottedMesh", "current", "(I)Z"⟩ ∈ gz := gz_t (List.mem_of_getElem? (i := 463) (by decide +kernel)) rfl
theorem kw_464 : Cond.instanceMethod ⟨"SlottedMesh", "current", "(I)Z"⟩ ∈ gz := gz_t (List.mem_of_getElem? (i := 464) (by decide +kernel)) rfl
theorem kw_465 : Cond.selects "SlottedMesh" ⟨"SlottedMesh", "current", "(I)Z"⟩ ⟨"SlottedMesh", "current", "(I)Z"⟩ ∈ gz := gz_t (List.mem_of_getElem? (i := 465) (by decide +kernel)) rfl
theorem kw_466 : Cond.code ⟨"SlottedMesh", "current", "(I)Z"⟩ prog_1_method_14_code 2 (some .boolean) ∈ gz := gz_t (List.mem_of_getElem? (i := 466) (by decide +kernel)) rfl
theorem kw_467 : Cond.methodLink "SlottedMeshLaw" 82 ⟨"SlottedMesh", "offset", "(I)I"⟩ ∈ gz := gz_t (List.mem_of_getElem? (i := 467) (by decide +kernel)) rfl
theorem kw_468 : Cond.instanceMethod ⟨"SlottedMesh", "offset", "(I)I"⟩ ∈ gz := gz_t (List.mem_of_getElem? (i := 468) (by decide +kernel)) rfl
theorem kw_469 : Cond.selects "SlottedMesh" ⟨"SlottedMesh", "offset", "(I)I"⟩ ⟨"SlottedMesh", "offset", "(I)I"⟩ ∈ gz := gz_t (List.mem_of_getElem? (i := 469) (by decide +kernel)) rfl
theorem kw_470 : Cond.code ⟨"SlottedMesh", "offset", "(I)I"⟩ prog_1_method_15_code 2 (some .int) ∈ gz := gz_t (List.mem_of_getElem? (i := 470) (by decide +kernel)) rfl
theorem kw_471 : Cond.methodLink "SlottedMeshLaw" 86 ⟨"SlottedMesh", "count", "(II)I"⟩ ∈ gz := gz_t (List.mem_of_getElem? (i := 471) (by decide +kernel)) rfl
theorem kw_472 : Cond.instanceMethod ⟨"SlottedMesh", "count", "(II)I"⟩ ∈ gz := gz_t (List.mem_of_getElem? (i := 472) (by decide +kernel)) rfl
theorem kw_473 : Cond.selects "SlottedMesh" ⟨"SlottedMesh", "count", "(II)I"⟩ ⟨"SlottedMesh", "count", "(II)I"⟩ ∈ gz := gz_t (List.mem_of_getElem? (i := 473) (by decide +kernel)) rfl
theorem kw_474 : Cond.code ⟨"SlottedMesh", "count", "(II)I"⟩ prog_1_method_16_code 3 (some .int) ∈ gz := gz_t (List.mem_of_getElem? (i := 474) (by decide +kernel)) rfl
theorem kw_475 : Cond.methodLink "SlottedMeshLaw" 90 ⟨"SlottedMesh", "cached", "(II)I"⟩ ∈ gz := gz_t (List.mem_of_getElem? (i := 475) (by decide +kernel)) rfl
theorem kw_476 : Cond.instanceMethod ⟨"SlottedMesh", "cached", "(II)I"⟩ ∈ gz := gz_t (List.mem_of_getElem? (i := 476) (by decide +kernel)) rfl
theorem kw_477 : Cond.selects "SlottedMesh" ⟨"SlottedMesh", "cached", "(II)I"⟩ ⟨"SlottedMesh", "cached", "(II)I"⟩ ∈ gz := gz_t (List.mem_of_getElem? (i := 477) (by decide +kernel)) rfl
theorem kw_478 : Cond.code ⟨"SlottedMesh", "cached", "(II)I"⟩ prog_1_method_17_code 3 (some .int) ∈ gz := gz_t (List.mem_of_getElem? (i := 478) (by decide +kernel)) rfl
theorem kw_479 : Cond.methodLink "SlottedMeshLaw" 94 ⟨"SlottedMesh", "latest", "(I)I"⟩ ∈ gz := gz_t (List.mem_of_getElem? (i := 479) (by decide +kernel)) rfl
theorem kw_480 : Cond.instanceMethod ⟨"SlottedMesh", "latest", "(I)I"⟩ ∈ gz := gz_t (List.mem_of_getElem? (i := 480) (by decide +kernel)) rfl
theorem kw_481 : Cond.selects "SlottedMesh" ⟨"SlottedMesh", "latest", "(I)I"⟩ ⟨"SlottedMesh", "latest", "(I)I"⟩ ∈ gz := gz_t (List.mem_of_getElem? (i := 481) (by decide +kernel)) rfl
theorem kw_482 : Cond.code ⟨"SlottedMesh", "latest", "(I)I"⟩ prog_1_method_18_code 2 (some .int) ∈ gz := gz_t (List.mem_of_getElem? (i := 482) (by decide +kernel)) rfl
theorem kw_483 : Cond.methodLink "SlottedMeshLaw" 98 ⟨"SlottedMesh", "actuator", "(I)I"⟩ ∈ gz := gz_t (List.mem_of_getElem? (i := 483) (by decide +kernel)) rfl
theorem kw_484 : Cond.instanceMethod ⟨"SlottedMesh", "actuator", "(I)I"⟩ ∈ gz := gz_t (List.mem_of_getElem? (i := 484) (by decide +kernel)) rfl
theorem kw_485 : Cond.selects "SlottedMesh" ⟨"SlottedMesh", "actuator", "(I)I"⟩ ⟨"SlottedMesh", "actuator", "(I)I"⟩ ∈ gz := gz_t (List.mem_of_getElem? (i := 485) (by decide +kernel)) rfl
theorem kw_486 : Cond.code ⟨"SlottedMesh", "actuator", "(I)I"⟩ prog_1_method_19_code 2 (some .int) ∈ gz := gz_t (List.mem_of_getElem? (i := 486) (by decide +kernel)) rfl
theorem kw_487 : Cond.methodLink "SlottedMeshLaw" 102 ⟨"SlottedMesh", "sent", "()I"⟩ ∈ gz := gz_t (List.mem_of_getElem? (i := 487) (by decide +kernel)) rfl
theorem kw_488 : Cond.instanceMethod ⟨"SlottedMesh", "sent", "()I"⟩ ∈ gz := gz_t (List.mem_of_getElem? (i := 488) (by decide +kernel)) rfl
theorem kw_489 : Cond.selects "SlottedMesh" ⟨"SlottedMesh", "sent", "()I"⟩ ⟨"SlottedMesh", "sent", "()I"⟩ ∈ gz := gz_t (List.mem_of_getElem? (i := 489) (by decide +kernel)) rfl
theorem kw_490 : Cond.code ⟨"SlottedMesh", "sent", "()I"⟩ prog_1_method_20_code 1 (some .int) ∈ gz := gz_t (List.mem_of_getElem? (i := 490) (by decide +kernel)) rfl
theorem kw_491 : Cond.methodLink "SlottedMeshLaw" 9 ⟨"SlottedMeshLaw", "cell", "([II)I"⟩ ∈ gz := gz_t (List.mem_of_getElem? (i := 491) (by decide +kernel)) rfl
theorem kw_492 : Cond.static ⟨"SlottedMeshLaw", "cell", "([II)I"⟩ ∈ gz := gz_t (List.mem_of_getElem? (i := 492) (by decide +kernel)) rfl
theorem kw_493 : Cond.code ⟨"SlottedMeshLaw", "cell", "([II)I"⟩ method_2_code 2 (some .int) ∈ gz := gz_t (List.mem_of_getElem? (i := 493) (by decide +kernel)) rfl
theorem kw_494 : Cond.classLink "SlottedMeshLaw" 18 "SlottedMeshModel" ∈ gz := gz_t (List.mem_of_getElem? (i := 494) (by decide +kernel)) rfl
theorem kw_495 : Cond.instantiable "SlottedMeshModel" 34 ∈ gz := gz_t (List.mem_of_getElem? (i := 495) (by decide +kernel)) rfl
theorem kw_496 : Cond.methodLink "SlottedMeshLaw" 20 ⟨"SlottedMeshModel", "<init>", "(III)V"⟩ ∈ gz := gz_t (List.mem_of_getElem? (i := 496) (by decide +kernel)) rfl
theorem kw_497 : Cond.instanceMethod ⟨"SlottedMeshModel", "<init>", "(III)V"⟩ ∈ gz := gz_t (List.mem_of_getElem? (i := 497) (by decide +kernel)) rfl
theorem kw_498 : Cond.code ⟨"SlottedMeshModel", "<init>", "(III)V"⟩ prog_8_method_1_code 5 none ∈ gz := gz_t (List.mem_of_getElem? (i := 498) (by decide +kernel)) rfl
theorem kw_499 : Cond.methodLink "SlottedMeshModel" 1 ⟨"java/lang/Object", "<init>", "()V"⟩ ∈ gz := gz_t (List.mem_of_getElem? (i := 499) (by decide +kernel)) rfl
theorem kw_500 : Cond.constantLong "SlottedMeshModel" 106 (-1) ∈ gz := gz_t (List.mem_of_getElem? (i := 500) (by decide +kernel)) rfl
theorem kw_501 : Cond.fieldLink "SlottedMeshModel" 96 "SlottedMeshModel" "nodes" "I" ∈ gz := gz_t (List.mem_of_getElem? (i := 501) (by decide +kernel)) rfl
theorem kw_502 : Cond.fieldLink "SlottedMeshModel" 100 "SlottedMeshModel" "slots" "I" ∈ gz := gz_t (List.mem_of_getElem? (i := 502) (by decide +kernel)) rfl
theorem kw_503 : Cond.fieldLink "SlottedMeshModel" 103 "SlottedMeshModel" "channels" "I" ∈ gz := gz_t (List.mem_of_getElem? (i := 503) (by decide +kernel)) rfl
theorem kw_504 : Cond.fieldLink "SlottedMeshModel" 147 "SlottedMeshModel" "time" "I" ∈ gz := gz_t (List.mem_of_getElem? (i := 504) (by decide +kernel)) rfl
theorem kw_505 : Cond.fieldLink "SlottedMeshModel" 158 "SlottedMeshModel" "sends" "I" ∈ gz := gz_t (List.mem_of_getElem? (i := 505) (by decide +kernel)) rfl
theorem kw_506 : Cond.fieldLink "SlottedMeshModel" 7 "SlottedMeshModel" "near" "[Z" ∈ gz := gz_t (List.mem_of_getElem? (i := 506) (by decide +kernel)) rfl
theorem kw_507 : Cond.fieldLink "SlottedMeshModel" 13 "SlottedMeshModel" "started" "[Z" ∈ gz := gz_t (List.mem_of_getElem? (i := 507) (by decide +kernel)) rfl
theorem kw_508 : Cond.fieldLink "SlottedMeshModel" 16 "SlottedMeshModel" "current" "[Z" ∈ gz := gz_t (List.mem_of_getElem? (i := 508) (by decide +kernel)) rfl
theorem kw_509 : Cond.fieldLink "SlottedMeshModel" 19 "SlottedMeshModel" "offset" "[I" ∈ gz := gz_t (List.mem_of_getElem? (i := 509) (by decide +kernel)) rfl
theorem kw_510 : Cond.fieldLink "SlottedMeshModel" 23 "SlottedMeshModel" "drift" "[I" ∈ gz := gz_t (List.mem_of_getElem? (i := 510) (by decide +kernel)) rfl
theorem kw_511 : Cond.fieldLink "SlottedMeshModel" 26 "SlottedMeshModel" "heard" "[J" ∈ gz := gz_t (List.mem_of_getElem? (i := 511) (by decide +kernel)) rfl
theorem kw_512 : Cond.fieldLink "SlottedMeshModel" 30 "SlottedMeshModel" "confirmed" "[J" ∈ gz := gz_t (List.mem_of_getElem? (i := 512) (by decide +kernel)) rfl
theorem kw_513 : Cond.fieldLink "SlottedMeshModel" 135 "SlottedMeshModel" "planned" "Z" ∈ gz := gz_t (List.mem_of_getElem? (i := 513) (by decide +kernel)) rfl
theorem kw_514 : Cond.fieldLink "SlottedMeshModel" 33 "SlottedMeshModel" "rank" "[I" ∈ gz := gz_t (List.mem_of_getElem? (i := 514) (by decide +kernel)) rfl
theorem kw_515 : Cond.fieldLink "SlottedMeshModel" 36 "SlottedMeshModel" "parents" "[I" ∈ gz := gz_t (List.mem_of_getElem? (i := 515) (by decide +kernel)) rfl
theorem kw_516 : Cond.fieldLink "SlottedMeshModel" 39 "SlottedMeshModel" "cells" "[I" ∈ gz := gz_t (List.mem_of_getElem? (i := 516) (by decide +kernel)) rfl
theorem kw_517 : Cond.fieldLink "SlottedMeshModel" 42 "SlottedMeshModel" "newRank" "[I" ∈ gz := gz_t (List.mem_of_getElem? (i := 517) (by decide +kernel)) rfl
theorem kw_518 : Cond.fieldLink "SlottedMeshModel" 45 "SlottedMeshModel" "newParents" "[I" ∈ gz := gz_t (List.mem_of_getElem? (i := 518) (by decide +kernel)) rfl
theorem kw_519 : Cond.fieldLink "SlottedMeshModel" 48 "SlottedMeshModel" "newCells" "[I" ∈ gz := gz_t (List.mem_of_getElem? (i := 519) (by decide +kernel)) rfl
theorem kw_520 : Cond.fieldLink "SlottedMeshModel" 51 "SlottedMeshModel" "many" "[I" ∈ gz := gz_t (List.mem_of_getElem? (i := 520) (by decide +kernel)) rfl
theorem kw_521 : Cond.fieldLink "SlottedMeshModel" 54 "SlottedMeshModel" "end" "[I" ∈ gz := gz_t (List.mem_of_getElem? (i := 521) (by decide +kernel)) rfl
theorem kw_522 : Cond.fieldLink "SlottedMeshModel" 57 "SlottedMeshModel" "number" "[I" ∈ gz := gz_t (List.mem_of_getElem? (i := 522) (by decide +kernel)) rfl
theorem kw_523 : Cond.fieldLink "SlottedMeshModel" 60 "SlottedMeshModel" "value" "[I" ∈ gz := gz_t (List.mem_of_getElem? (i := 523) (by decide +kernel)) rfl
theorem kw_524 : Cond.fieldLink "SlottedMeshModel" 63 "SlottedMeshModel" "fails" "[I" ∈ gz := gz_t (List.mem_of_getElem? (i := 524) (by decide +kernel)) rfl
theorem kw_525 : Cond.fieldLink "SlottedMeshModel" 66 "SlottedMeshModel" "tries" "[I" ∈ gz := gz_t (List.mem_of_getElem? (i := 525) (by decide +kernel)) rfl
theorem kw_526 : Cond.fieldLink "SlottedMeshModel" 69 "SlottedMeshModel" "took" "[I" ∈ gz := gz_t (List.mem_of_getElem? (i := 526) (by decide +kernel)) rfl
theorem kw_527 : Cond.fieldLink "SlottedMeshModel" 72 "SlottedMeshModel" "counted" "[I" ∈ gz := gz_t (List.mem_of_getElem? (i := 527) (by decide +kernel)) rfl
theorem kw_528 : Cond.fieldLink "SlottedMeshModel" 75 "SlottedMeshModel" "kept" "[I" ∈ gz := gz_t (List.mem_of_getElem? (i := 528) (by decide +kernel)) rfl
theorem kw_529 : Cond.fieldLink "SlottedMeshModel" 78 "SlottedMeshModel" "keeps" "[I" ∈ gz := gz_t (List.mem_of_getElem? (i := 529) (by decide +kernel)) rfl
theorem kw_530 : Cond.fieldLink "SlottedMeshModel" 81 "SlottedMeshModel" "target" "[I" ∈ gz := gz_t (List.mem_of_getElem? (i := 530) (by decide +kernel)) rfl
theorem kw_531 : Cond.fieldLink "SlottedMeshModel" 84 "SlottedMeshModel" "ps" "[I" ∈ gz := gz_t (List.mem_of_getElem? (i := 531) (by decide +kernel)) rfl
theorem kw_532 : Cond.fieldLink "SlottedMeshModel" 87 "SlottedMeshModel" "is" "[I" ∈ gz := gz_t (List.mem_of_getElem? (i := 532) (by decide +kernel)) rfl
theorem kw_533 : Cond.fieldLink "SlottedMeshModel" 90 "SlottedMeshModel" "sum" "[I" ∈ gz := gz_t (List.mem_of_getElem? (i := 533) (by decide +kernel)) rfl
theorem kw_534 : Cond.fieldLink "SlottedMeshModel" 93 "SlottedMeshModel" "actuators" "[I" ∈ gz := gz_t (List.mem_of_getElem? (i := 534) (by decide +kernel)) rfl
theorem kw_604 : Cond.arrayClass .long ∈ gz := gz_t (List.mem_of_getElem? (i := 604) (by decide +kernel)) rfl
theorem kw_605 : Cond.methodLink "SlottedMeshLaw" 25 ⟨"SlottedMeshModel", "pair", "(IIZ)Z"⟩ ∈ gz := gz_t (List.mem_of_getElem? (i := 605) (by decide +kernel)) rfl
theorem kw_606 : Cond.instanceMethod ⟨"SlottedMeshModel", "pair", "(IIZ)Z"⟩ ∈ gz := gz_t (List.mem_of_getElem? (i := 606) (by decide +kernel)) rfl
theorem kw_607 : Cond.selects "SlottedMeshModel" ⟨"SlottedMeshModel", "pair", "(IIZ)Z"⟩ ⟨"SlottedMeshModel", "pair", "(IIZ)Z"⟩ ∈ gz := gz_t (List.mem_of_getElem? (i := 607) (by decide +kernel)) rfl
theorem kw_608 : Cond.code ⟨"SlottedMeshModel", "pair", "(IIZ)Z"⟩ prog_8_method_3_code 4 (some .boolean) ∈ gz := gz_t (List.mem_of_getElem? (i := 608) (by decide +kernel)) rfl
theorem kw_609 : Cond.methodLink "SlottedMeshModel" 108 ⟨"SlottedMeshModel", "noNode", "(I)Z"⟩ ∈ gz := gz_t (List.mem_of_getElem? (i := 609) (by decide +kernel)) rfl
theorem kw_611 : Cond.instanceMethod ⟨"SlottedMeshModel", "noNode", "(I)Z"⟩ ∈ gz := gz_t (List.mem_of_getElem? (i := 611) (by decide +kernel)) rfl
theorem kw_612 : Cond.code ⟨"SlottedMeshModel", "noNode", "(I)Z"⟩ prog_8_method_2_code 2 (some .boolean) ∈ gz := gz_t (List.mem_of_getElem? (i := 612) (by decide +kernel)) rfl
theorem kw_613 : Cond.methodLink "SlottedMeshLaw" 30 ⟨"SlottedMeshModel", "plan", "()I"⟩ ∈ gz := gz_t (List.mem_of_getElem? (i := 613) (by decide +kernel)) rfl
theorem kw_614 : Cond.instanceMethod ⟨"SlottedMeshModel", "plan", "()I"⟩ ∈ gz := gz_t (List.mem_of_getElem? (i := 614) (by decide +kernel)) rfl
theorem kw_615 : Cond.selects "SlottedMeshModel" ⟨"SlottedMeshModel", "plan", "()I"⟩ ⟨"SlottedMeshModel", "plan", "()I"⟩ ∈ gz := gz_t (List.mem_of_getElem? (i := 615) (by decide +kernel)) rfl
theorem kw_616 : Cond.code ⟨"SlottedMeshModel", "plan", "()I"⟩ prog_8_method_11_code 3 (some .int) ∈ gz := gz_t (List.mem_of_getElem? (i := 616) (by decide +kernel)) rfl
theorem kw_617 : Cond.methodLink "SlottedMeshModel" 125 ⟨"SlottedMeshModel", "ranks", "()Z"⟩ ∈ gz := gz_t (List.mem_of_getElem? (i := 617) (by decide +kernel)) rfl
theorem kw_619 : Cond.instanceMethod ⟨"SlottedMeshModel", "ranks", "()Z"⟩ ∈ gz := gz_t (List.mem_of_getElem? (i := 619) (by decide +kernel)) rfl
theorem kw_620 : Cond.code ⟨"SlottedMeshModel", "ranks", "()Z"⟩ prog_8_method_4_code 4 (some .boolean) ∈ gz := gz_t (List.mem_of_getElem? (i := 620) (by decide +kernel)) rfl
theorem kw_621 : Cond.methodLink "SlottedMeshModel" 129 ⟨"SlottedMeshModel", "findParents", "()V"⟩ ∈ gz := gz_t (List.mem_of_getElem? (i := 621) (by decide +kernel)) rfl
theorem kw_623 : Cond.instanceMethod ⟨"SlottedMeshModel", "findParents", "()V"⟩ ∈ gz := gz_t (List.mem_of_getElem? (i := 623) (by decide +kernel)) rfl
theorem kw_624 : Cond.code ⟨"SlottedMeshModel", "findParents", "()V"⟩ prog_8_method_5_code 4 none ∈ gz := gz_t (List.mem_of_getElem? (i := 624) (by decide +kernel)) rfl
theorem kw_625 : Cond.methodLink "SlottedMeshModel" 132 ⟨"SlottedMeshModel", "placeAll", "()Z"⟩ ∈ gz := gz_t (List.mem_of_getElem? (i := 625) (by decide +kernel)) rfl
theorem kw_627 : Cond.instanceMethod ⟨"SlottedMeshModel", "placeAll", "()Z"⟩ ∈ gz := gz_t (List.mem_of_getElem? (i := 627) (by decide +kernel)) rfl
theorem kw_628 : Cond.code ⟨"SlottedMeshModel", "placeAll", "()Z"⟩ prog_8_method_10_code 6 (some .boolean) ∈ gz := gz_t (List.mem_of_getElem? (i := 628) (by decide +kernel)) rfl
theorem kw_629 : Cond.methodLink "SlottedMeshModel" 119 ⟨"SlottedMeshModel", "placeAdvert", "(I)Z"⟩ ∈ gz := gz_t (List.mem_of_getElem? (i := 629) (by decide +kernel)) rfl
theorem kw_631 : Cond.instanceMethod ⟨"SlottedMeshModel", "placeAdvert", "(I)Z"⟩ ∈ gz := gz_t (List.mem_of_getElem? (i := 631) (by decide +kernel)) rfl
theorem kw_632 : Cond.code ⟨"SlottedMeshModel", "placeAdvert", "(I)Z"⟩ prog_8_method_8_code 4 (some .boolean) ∈ gz := gz_t (List.mem_of_getElem? (i := 632) (by decide +kernel)) rfl
theorem kw_633 : Cond.methodLink "SlottedMeshModel" 122 ⟨"SlottedMeshModel", "place", "(I)Z"⟩ ∈ gz := gz_t (List.mem_of_getElem? (i := 633) (by decide +kernel)) rfl
theorem kw_635 : Cond.instanceMethod ⟨"SlottedMeshModel", "place", "(I)Z"⟩ ∈ gz := gz_t (List.mem_of_getElem? (i := 635) (by decide +kernel)) rfl
theorem kw_636 : Cond.code ⟨"SlottedMeshModel", "place", "(I)Z"⟩ prog_8_method_9_code 8 (some .boolean) ∈ gz := gz_t (List.mem_of_getElem? (i := 636) (by decide +kernel)) rfl
theorem kw_637 : Cond.methodLink "SlottedMeshModel" 112 ⟨"SlottedMeshModel", "first", "(I)I"⟩ ∈ gz := gz_t (List.mem_of_getElem? (i := 637) (by decide +kernel)) rfl
theorem kw_638 : Cond.static ⟨"SlottedMeshModel", "first", "(I)I"⟩ ∈ gz := gz_t (List.mem_of_getElem? (i := 638) (by decide +kernel)) rfl
theorem kw_639 : Cond.code ⟨"SlottedMeshModel", "first", "(I)I"⟩ prog_8_method_6_code 1 (some .int) ∈ gz := gz_t (List.mem_of_getElem? (i := 639) (by decide +kernel)) rfl
theorem kw_640 : Cond.methodLink "SlottedMeshModel" 116 ⟨"SlottedMeshModel", "second", "(I)I"⟩ ∈ gz := gz_t (List.mem_of_getElem? (i := 640) (by decide +kernel)) rfl
theorem kw_641 : Cond.static ⟨"SlottedMeshModel", "second", "(I)I"⟩ ∈ gz := gz_t (List.mem_of_getElem? (i := 641) (by decide +kernel)) rfl
theorem kw_642 : Cond.code ⟨"SlottedMeshModel", "second", "(I)I"⟩ prog_8_method_7_code 1 (some .int) ∈ gz := gz_t (List.mem_of_getElem? (i := 642) (by decide +kernel)) rfl
theorem kw_643 : Cond.methodLink "SlottedMeshLaw" 35 ⟨"SlottedMeshModel", "start", "(I)Z"⟩ ∈ gz := gz_t (List.mem_of_getElem? (i := 643) (by decide +kernel)) rfl
theorem kw_644 : Cond.instanceMethod ⟨"SlottedMeshModel", "start", "(I)Z"⟩ ∈ gz := gz_t (List.mem_of_getElem? (i := 644) (by decide +kernel)) rfl
theorem kw_645 : Cond.selects "SlottedMeshModel" ⟨"SlottedMeshModel", "start", "(I)Z"⟩ ⟨"SlottedMeshModel", "start", "(I)Z"⟩ ∈ gz := gz_t (List.mem_of_getElem? (i := 645) (by decide +kernel)) rfl
theorem kw_646 : Cond.code ⟨"SlottedMeshModel", "start", "(I)Z"⟩ prog_8_method_12_code 2 (some .boolean) ∈ gz := gz_t (List.mem_of_getElem? (i := 646) (by decide +kernel)) rfl
theorem kw_647 : Cond.methodLink "SlottedMeshLaw" 39 ⟨"SlottedMeshModel", "stop", "(I)Z"⟩ ∈ gz := gz_t (List.mem_of_getElem? (i := 647) (by decide +kernel)) rfl
theorem kw_648 : Cond.instanceMethod ⟨"SlottedMeshModel", "stop", "(I)Z"⟩ ∈ gz := gz_t (List.mem_of_getElem? (i := 648) (by decide +kernel)) rfl
theorem kw_649 : Cond.selects "SlottedMeshModel" ⟨"SlottedMeshModel", "stop", "(I)Z"⟩ ⟨"SlottedMeshModel", "stop", "(I)Z"⟩ ∈ gz := gz_t (List.mem_of_getElem? (i := 649) (by decide +kernel)) rfl
theorem kw_650 : Cond.code ⟨"SlottedMeshModel", "stop", "(I)Z"⟩ prog_8_method_13_code 3 (some .boolean) ∈ gz := gz_t (List.mem_of_getElem? (i := 650) (by decide +kernel)) rfl
theorem kw_651 : Cond.methodLink "SlottedMeshLaw" 44 ⟨"SlottedMeshModel", "drift", "(II)Z"⟩ ∈ gz := gz_t (List.mem_of_getElem? (i := 651) (by decide +kernel)) rfl
theorem kw_652 : Cond.instanceMethod ⟨"SlottedMeshModel", "drift", "(II)Z"⟩ ∈ gz := gz_t (List.mem_of_getElem? (i := 652) (by decide +kernel)) rfl
theorem kw_653 : Cond.selects "SlottedMeshModel" ⟨"SlottedMeshModel", "drift", "(II)Z"⟩ ⟨"SlottedMeshModel", "drift", "(II)Z"⟩ ∈ gz := gz_t (List.mem_of_getElem? (i := 653) (by decide +kernel)) rfl
theorem kw_654 : Cond.code ⟨"SlottedMeshModel", "drift", "(II)Z"⟩ prog_8_method_14_code 3 (some .boolean) ∈ gz := gz_t (List.mem_of_getElem? (i := 654) (by decide +kernel)) rfl
theorem kw_655 : Cond.methodLink "SlottedMeshLaw" 51 ⟨"SlottedMeshModel", "radio", "(IJJ)Z"⟩ ∈ gz := gz_t (List.mem_of_getElem? (i := 655) (by decide +kernel)) rfl
theorem kw_656 : Cond.instanceMethod ⟨"SlottedMeshModel", "radio", "(IJJ)Z"⟩ ∈ gz := gz_t (List.mem_of_getElem? (i := 656) (by decide +kernel)) rfl
theorem kw_657 : Cond.selects "SlottedMeshModel" ⟨"SlottedMeshModel", "radio", "(IJJ)Z"⟩ ⟨"SlottedMeshModel", "radio", "(IJJ)Z"⟩ ∈ gz := gz_t (List.mem_of_getElem? (i := 657) (by decide +kernel)) rfl
theorem kw_658 : Cond.code ⟨"SlottedMeshModel", "radio", "(IJJ)Z"⟩ prog_8_method_15_code 6 (some .boolean) ∈ gz := gz_t (List.mem_of_getElem? (i := 658) (by decide +kernel)) rfl
theorem kw_659 : Cond.methodLink "SlottedMeshLaw" 56 ⟨"SlottedMeshModel", "sample", "(II)I"⟩ ∈ gz := gz_t (List.mem_of_getElem? (i := 659) (by decide +kernel)) rfl
theorem kw_660 : Cond.instanceMethod ⟨"SlottedMeshModel", "sample", "(II)I"⟩ ∈ gz := gz_t (List.mem_of_getElem? (i := 660) (by decide +kernel)) rfl
theorem kw_661 : Cond.selects "SlottedMeshModel" ⟨"SlottedMeshModel", "sample", "(II)I"⟩ ⟨"SlottedMeshModel", "sample", "(II)I"⟩ ∈ gz := gz_t (List.mem_of_getElem? (i := 661) (by decide +kernel)) rfl
theorem kw_662 : Cond.code ⟨"SlottedMeshModel", "sample", "(II)I"⟩ prog_8_method_18_code 3 (some .int) ∈ gz := gz_t (List.mem_of_getElem? (i := 662) (by decide +kernel)) rfl
theorem kw_663 : Cond.methodLink "SlottedMeshModel" 139 ⟨"SlottedMeshModel", "add", "(IIII)V"⟩ ∈ gz := gz_t (List.mem_of_getElem? (i := 663) (by decide +kernel)) rfl
theorem kw_665 : Cond.instanceMethod ⟨"SlottedMeshModel", "add", "(IIII)V"⟩ ∈ gz := gz_t (List.mem_of_getElem? (i := 665) (by decide +kernel)) rfl
theorem kw_666 : Cond.code ⟨"SlottedMeshModel", "add", "(IIII)V"⟩ prog_8_method_16_code 6 none ∈ gz := gz_t (List.mem_of_getElem? (i := 666) (by decide +kernel)) rfl
theorem kw_667 : Cond.methodLink "SlottedMeshLaw" 61 ⟨"SlottedMeshModel", "control", "(IIII)Z"⟩ ∈ gz := gz_t (List.mem_of_getElem? (i := 667) (by decide +kernel)) rfl
theorem kw_668 : Cond.instanceMethod ⟨"SlottedMeshModel", "control", "(IIII)Z"⟩ ∈ gz := gz_t (List.mem_of_getElem? (i := 668) (by decide +kernel)) rfl
theorem kw_669 : Cond.selects "SlottedMeshModel" ⟨"SlottedMeshModel", "control", "(IIII)Z"⟩ ⟨"SlottedMeshModel", "control", "(IIII)Z"⟩ ∈ gz := gz_t (List.mem_of_getElem? (i := 669) (by decide +kernel)) rfl
theorem kw_670 : Cond.code ⟨"SlottedMeshModel", "control", "(IIII)Z"⟩ prog_8_method_19_code 5 (some .boolean) ∈ gz := gz_t (List.mem_of_getElem? (i := 670) (by decide +kernel)) rfl
theorem kw_671 : Cond.methodLink "SlottedMeshLaw" 66 ⟨"SlottedMeshModel", "run", "(I)I"⟩ ∈ gz := gz_t (List.mem_of_getElem? (i := 671) (by decide +kernel)) rfl
theorem kw_672 : Cond.instanceMethod ⟨"SlottedMeshModel", "run", "(I)I"⟩ ∈ gz := gz_t (List.mem_of_getElem? (i := 672) (by decide +kernel)) rfl
theorem kw_673 : Cond.selects "SlottedMeshModel" ⟨"SlottedMeshModel", "run", "(I)I"⟩ ⟨"SlottedMeshModel", "run", "(I)I"⟩ ∈ gz := gz_t (List.mem_of_getElem? (i := 673) (by decide +kernel)) rfl
theorem kw_674 : Cond.code ⟨"SlottedMeshModel", "run", "(I)I"⟩ prog_8_method_30_code 3 (some .int) ∈ gz := gz_t (List.mem_of_getElem? (i := 674) (by decide +kernel)) rfl
theorem kw_675 : Cond.methodLink "SlottedMeshModel" 185 ⟨"SlottedMeshModel", "slot", "()V"⟩ ∈ gz := gz_t (List.mem_of_getElem? (i := 675) (by decide +kernel)) rfl
theorem kw_677 : Cond.instanceMethod ⟨"SlottedMeshModel", "slot", "()V"⟩ ∈ gz := gz_t (List.mem_of_getElem? (i := 677) (by decide +kernel)) rfl
theorem kw_678 : Cond.code ⟨"SlottedMeshModel", "slot", "()V"⟩ prog_8_method_29_code 6 none ∈ gz := gz_t (List.mem_of_getElem? (i := 678) (by decide +kernel)) rfl
theorem kw_679 : Cond.methodLink "SlottedMeshModel" 176 ⟨"SlottedMeshModel", "advert", "(I)V"⟩ ∈ gz := gz_t (List.mem_of_getElem? (i := 679) (by decide +kernel)) rfl
theorem kw_681 : Cond.instanceMethod ⟨"SlottedMeshModel", "advert", "(I)V"⟩ ∈ gz := gz_t (List.mem_of_getElem? (i := 681) (by decide +kernel)) rfl
theorem kw_682 : Cond.code ⟨"SlottedMeshModel", "advert", "(I)V"⟩ prog_8_method_24_code 3 none ∈ gz := gz_t (List.mem_of_getElem? (i := 682) (by decide +kernel)) rfl
theorem kw_683 : Cond.methodLink "SlottedMeshModel" 150 ⟨"SlottedMeshModel", "bit", "(JI)Z"⟩ ∈ gz := gz_t (List.mem_of_getElem? (i := 683) (by decide +kernel)) rfl
theorem kw_684 : Cond.static ⟨"SlottedMeshModel", "bit", "(JI)Z"⟩ ∈ gz := gz_t (List.mem_of_getElem? (i := 684) (by decide +kernel)) rfl
theorem kw_685 : Cond.code ⟨"SlottedMeshModel", "bit", "(JI)Z"⟩ prog_8_method_22_code 3 (some .boolean) ∈ gz := gz_t (List.mem_of_getElem? (i := 685) (by decide +kernel)) rfl
theorem kw_686 : Cond.methodLink "SlottedMeshModel" 154 ⟨"SlottedMeshModel", "close", "(II)Z"⟩ ∈ gz := gz_t (List.mem_of_getElem? (i := 686) (by decide +kernel)) rfl
theorem kw_688 : Cond.instanceMethod ⟨"SlottedMeshModel", "close", "(II)Z"⟩ ∈ gz := gz_t (List.mem_of_getElem? (i := 688) (by decide +kernel)) rfl
theorem kw_689 : Cond.code ⟨"SlottedMeshModel", "close", "(II)Z"⟩ prog_8_method_23_code 4 (some .boolean) ∈ gz := gz_t (List.mem_of_getElem? (i := 689) (by decide +kernel)) rfl
theorem kw_690 : Cond.methodLink "SlottedMeshModel" 179 ⟨"SlottedMeshModel", "down", "(III)V"⟩ ∈ gz := gz_t (List.mem_of_getElem? (i := 690) (by decide +kernel)) rfl
theorem kw_692 : Cond.instanceMethod ⟨"SlottedMeshModel", "down", "(III)V"⟩ ∈ gz := gz_t (List.mem_of_getElem? (i := 692) (by decide +kernel)) rfl
theorem kw_693 : Cond.code ⟨"SlottedMeshModel", "down", "(III)V"⟩ prog_8_method_28_code 8 none ∈ gz := gz_t (List.mem_of_getElem? (i := 693) (by decide +kernel)) rfl
theorem kw_694 : Cond.methodLink "SlottedMeshModel" 173 ⟨"SlottedMeshModel", "below", "(II)Z"⟩ ∈ gz := gz_t (List.mem_of_getElem? (i := 694) (by decide +kernel)) rfl
theorem kw_696 : Cond.instanceMethod ⟨"SlottedMeshModel", "below", "(II)Z"⟩ ∈ gz := gz_t (List.mem_of_getElem? (i := 696) (by decide +kernel)) rfl
theorem kw_697 : Cond.code ⟨"SlottedMeshModel", "below", "(II)Z"⟩ prog_8_method_27_code 5 (some .boolean) ∈ gz := gz_t (List.mem_of_getElem? (i := 697) (by decide +kernel)) rfl
theorem kw_698 : Cond.methodLink "SlottedMeshModel" 161 ⟨"SlottedMeshModel", "hears", "(III)Z"⟩ ∈ gz := gz_t (List.mem_of_getElem? (i := 698) (by decide +kernel)) rfl
theorem kw_700 : Cond.instanceMethod ⟨"SlottedMeshModel", "hears", "(III)Z"⟩ ∈ gz := gz_t (List.mem_of_getElem? (i := 700) (by decide +kernel)) rfl
theorem kw_701 : Cond.code ⟨"SlottedMeshModel", "hears", "(III)Z"⟩ prog_8_method_25_code 4 (some .boolean) ∈ gz := gz_t (List.mem_of_getElem? (i := 701) (by decide +kernel)) rfl
theorem kw_702 : Cond.methodLink "SlottedMeshModel" 169 ⟨"SlottedMeshModel", "leave", "(I)V"⟩ ∈ gz := gz_t (List.mem_of_getElem? (i := 702) (by decide +kernel)) rfl
theorem kw_704 : Cond.instanceMethod ⟨"SlottedMeshModel", "leave", "(I)V"⟩ ∈ gz := gz_t (List.mem_of_getElem? (i := 704) (by decide +kernel)) rfl
theorem kw_705 : Cond.code ⟨"SlottedMeshModel", "leave", "(I)V"⟩ prog_8_method_17_code 3 none ∈ gz := gz_t (List.mem_of_getElem? (i := 705) (by decide +kernel)) rfl
theorem kw_706 : Cond.methodLink "SlottedMeshModel" 182 ⟨"SlottedMeshModel", "up", "(III)V"⟩ ∈ gz := gz_t (List.mem_of_getElem? (i := 706) (by decide +kernel)) rfl
theorem kw_708 : Cond.instanceMethod ⟨"SlottedMeshModel", "up", "(III)V"⟩ ∈ gz := gz_t (List.mem_of_getElem? (i := 708) (by decide +kernel)) rfl
theorem kw_709 : Cond.code ⟨"SlottedMeshModel", "up", "(III)V"⟩ prog_8_method_26_code 7 none ∈ gz := gz_t (List.mem_of_getElem? (i := 709) (by decide +kernel)) rfl
theorem kw_710 : Cond.methodLink "SlottedMeshModel" 165 ⟨"SlottedMeshModel", "cache", "(III)V"⟩ ∈ gz := gz_t (List.mem_of_getElem? (i := 710) (by decide +kernel)) rfl
theorem kw_712 : Cond.instanceMethod ⟨"SlottedMeshModel", "cache", "(III)V"⟩ ∈ gz := gz_t (List.mem_of_getElem? (i := 712) (by decide +kernel)) rfl
theorem kw_713 : Cond.code ⟨"SlottedMeshModel", "cache", "(III)V"⟩ prog_8_method_21_code 7 none ∈ gz := gz_t (List.mem_of_getElem? (i := 713) (by decide +kernel)) rfl
theorem kw_714 : Cond.methodLink "SlottedMeshModel" 143 ⟨"SlottedMeshModel", "within", "(II)I"⟩ ∈ gz := gz_t (List.mem_of_getElem? (i := 714) (by decide +kernel)) rfl
theorem kw_715 : Cond.static ⟨"SlottedMeshModel", "within", "(II)I"⟩ ∈ gz := gz_t (List.mem_of_getElem? (i := 715) (by decide +kernel)) rfl
theorem kw_716 : Cond.code ⟨"SlottedMeshModel", "within", "(II)I"⟩ prog_8_method_20_code 2 (some .int) ∈ gz := gz_t (List.mem_of_getElem? (i := 716) (by decide +kernel)) rfl
theorem kw_717 : Cond.methodLink "SlottedMeshLaw" 70 ⟨"SlottedMeshModel", "rank", "(I)I"⟩ ∈ gz := gz_t (List.mem_of_getElem? (i := 717) (by decide +kernel)) rfl
theorem kw_718 : Cond.instanceMethod ⟨"SlottedMeshModel", "rank", "(I)I"⟩ ∈ gz := gz_t (List.mem_of_getElem? (i := 718) (by decide +kernel)) rfl
theorem kw_719 : Cond.selects "SlottedMeshModel" ⟨"SlottedMeshModel", "rank", "(I)I"⟩ ⟨"SlottedMeshModel", "rank", "(I)I"⟩ ∈ gz := gz_t (List.mem_of_getElem? (i := 719) (by decide +kernel)) rfl
theorem kw_720 : Cond.code ⟨"SlottedMeshModel", "rank", "(I)I"⟩ prog_8_method_31_code 2 (some .int) ∈ gz := gz_t (List.mem_of_getElem? (i := 720) (by decide +kernel)) rfl
theorem kw_721 : Cond.methodLink "SlottedMeshLaw" 74 ⟨"SlottedMeshModel", "parent", "(II)I"⟩ ∈ gz := gz_t (List.mem_of_getElem? (i := 721) (by decide +kernel)) rfl
theorem kw_722 : Cond.instanceMethod ⟨"SlottedMeshModel", "parent", "(II)I"⟩ ∈ gz := gz_t (List.mem_of_getElem? (i := 722) (by decide +kernel)) rfl
theorem kw_723 : Cond.selects "SlottedMeshModel" ⟨"SlottedMeshModel", "parent", "(II)I"⟩ ⟨"SlottedMeshModel", "parent", "(II)I"⟩ ∈ gz := gz_t (List.mem_of_getElem? (i := 723) (by decide +kernel)) rfl
theorem kw_724 : Cond.code ⟨"SlottedMeshModel", "parent", "(II)I"⟩ prog_8_method_32_code 3 (some .int) ∈ gz := gz_t (List.mem_of_getElem? (i := 724) (by decide +kernel)) rfl
theorem kw_725 : Cond.methodLink "SlottedMeshLaw" 77 ⟨"SlottedMeshModel", "cell", "(II)I"⟩ ∈ gz := gz_t (List.mem_of_getElem? (i := 725) (by decide +kernel)) rfl
theorem kw_726 : Cond.instanceMethod ⟨"SlottedMeshModel", "cell", "(II)I"⟩ ∈ gz := gz_t (List.mem_of_getElem? (i := 726) (by decide +kernel)) rfl
theorem kw_727 : Cond.selects "SlottedMeshModel" ⟨"SlottedMeshModel", "cell", "(II)I"⟩ ⟨"SlottedMeshModel", "cell", "(II)I"⟩ ∈ gz := gz_t (List.mem_of_getElem? (i := 727) (by decide +kernel)) rfl
theorem kw_728 : Cond.code ⟨"SlottedMeshModel", "cell", "(II)I"⟩ prog_8_method_33_code 3 (some .int) ∈ gz := gz_t (List.mem_of_getElem? (i := 728) (by decide +kernel)) rfl
theorem kw_729 : Cond.methodLink "SlottedMeshLaw" 81 ⟨"SlottedMeshModel", "current", "(I)Z"⟩ ∈ gz := gz_t (List.mem_of_getElem? (i := 729) (by decide +kernel)) rfl
theorem kw_730 : Cond.instanceMethod ⟨"SlottedMeshModel", "current", "(I)Z"⟩ ∈ gz := gz_t (List.mem_of_getElem? (i := 730) (by decide +kernel)) rfl
theorem kw_731 : Cond.selects "SlottedMeshModel" ⟨"SlottedMeshModel", "current", "(I)Z"⟩ ⟨"SlottedMeshModel", "current", "(I)Z"⟩ ∈ gz := gz_t (List.mem_of_getElem? (i := 731) (by decide +kernel)) rfl
theorem kw_732 : Cond.code ⟨"SlottedMeshModel", "current", "(I)Z"⟩ prog_8_method_34_code 2 (some .boolean) ∈ gz := gz_t (List.mem_of_getElem? (i := 732) (by decide +kernel)) rfl
theorem kw_733 : Cond.methodLink "SlottedMeshLaw" 85 ⟨"SlottedMeshModel", "offset", "(I)I"⟩ ∈ gz := gz_t (List.mem_of_getElem? (i := 733) (by decide +kernel)) rfl
theorem kw_734 : Cond.instanceMethod ⟨"SlottedMeshModel", "offset", "(I)I"⟩ ∈ gz := gz_t (List.mem_of_getElem? (i := 734) (by decide +kernel)) rfl
theorem kw_735 : Cond.selects "SlottedMeshModel" ⟨"SlottedMeshModel", "offset", "(I)I"⟩ ⟨"SlottedMeshModel", "offset", "(I)I"⟩ ∈ gz := gz_t (List.mem_of_getElem? (i := 735) (by decide +kernel)) rfl
theorem kw_736 : Cond.code ⟨"SlottedMeshModel", "offset", "(I)I"⟩ prog_8_method_35_code 2 (some .int) ∈ gz := gz_t (List.mem_of_getElem? (i := 736) (by decide +kernel)) rfl
theorem kw_737 : Cond.methodLink "SlottedMeshLaw" 89 ⟨"SlottedMeshModel", "count", "(II)I"⟩ ∈ gz := gz_t (List.mem_of_getElem? (i := 737) (by decide +kernel)) rfl
theorem kw_738 : Cond.instanceMethod ⟨"SlottedMeshModel", "count", "(II)I"⟩ ∈ gz := gz_t (List.mem_of_getElem? (i := 738) (by decide +kernel)) rfl
theorem kw_739 : Cond.selects "SlottedMeshModel" ⟨"SlottedMeshModel", "count", "(II)I"⟩ ⟨"SlottedMeshModel", "count", "(II)I"⟩ ∈ gz := gz_t (List.mem_of_getElem? (i := 739) (by decide +kernel)) rfl
theorem kw_740 : Cond.code ⟨"SlottedMeshModel", "count", "(II)I"⟩ prog_8_method_36_code 3 (some .int) ∈ gz := gz_t (List.mem_of_getElem? (i := 740) (by decide +kernel)) rfl
theorem kw_741 : Cond.methodLink "SlottedMeshLaw" 93 ⟨"SlottedMeshModel", "cached", "(II)I"⟩ ∈ gz := gz_t (List.mem_of_getElem? (i := 741) (by decide +kernel)) rfl
theorem kw_742 : Cond.instanceMethod ⟨"SlottedMeshModel", "cached", "(II)I"⟩ ∈ gz := gz_t (List.mem_of_getElem? (i := 742) (by decide +kernel)) rfl
theorem kw_743 : Cond.selects "SlottedMeshModel" ⟨"SlottedMeshModel", "cached", "(II)I"⟩ ⟨"SlottedMeshModel", "cached", "(II)I"⟩ ∈ gz := gz_t (List.mem_of_getElem? (i := 743) (by decide +kernel)) rfl
theorem kw_744 : Cond.code ⟨"SlottedMeshModel", "cached", "(II)I"⟩ prog_8_method_37_code 3 (some .int) ∈ gz := gz_t (List.mem_of_getElem? (i := 744) (by decide +kernel)) rfl
theorem kw_745 : Cond.methodLink "SlottedMeshLaw" 97 ⟨"SlottedMeshModel", "latest", "(I)I"⟩ ∈ gz := gz_t (List.mem_of_getElem? (i := 745) (by decide +kernel)) rfl
theorem kw_746 : Cond.instanceMethod ⟨"SlottedMeshModel", "latest", "(I)I"⟩ ∈ gz := gz_t (List.mem_of_getElem? (i := 746) (by decide +kernel)) rfl
theorem kw_747 : Cond.selects "SlottedMeshModel" ⟨"SlottedMeshModel", "latest", "(I)I"⟩ ⟨"SlottedMeshModel", "latest", "(I)I"⟩ ∈ gz := gz_t (List.mem_of_getElem? (i := 747) (by decide +kernel)) rfl
theorem kw_748 : Cond.code ⟨"SlottedMeshModel", "latest", "(I)I"⟩ prog_8_method_38_code 2 (some .int) ∈ gz := gz_t (List.mem_of_getElem? (i := 748) (by decide +kernel)) rfl
theorem kw_749 : Cond.methodLink "SlottedMeshLaw" 101 ⟨"SlottedMeshModel", "actuator", "(I)I"⟩ ∈ gz := gz_t (List.mem_of_getElem? (i := 749) (by decide +kernel)) rfl
theorem kw_750 : Cond.instanceMethod ⟨"SlottedMeshModel", "actuator", "(I)I"⟩ ∈ gz := gz_t (List.mem_of_getElem? (i := 750) (by decide +kernel)) rfl
theorem kw_751 : Cond.selects "SlottedMeshModel" ⟨"SlottedMeshModel", "actuator", "(I)I"⟩ ⟨"SlottedMeshModel", "actuator", "(I)I"⟩ ∈ gz := gz_t (List.mem_of_getElem? (i := 751) (by decide +kernel)) rfl
theorem kw_752 : Cond.code ⟨"SlottedMeshModel", "actuator", "(I)I"⟩ prog_8_method_39_code 2 (some .int) ∈ gz := gz_t (List.mem_of_getElem? (i := 752) (by decide +kernel)) rfl
theorem kw_753 : Cond.methodLink "SlottedMeshLaw" 105 ⟨"SlottedMeshModel", "sent", "()I"⟩ ∈ gz := gz_t (List.mem_of_getElem? (i := 753) (by decide +kernel)) rfl
theorem kw_754 : Cond.instanceMethod ⟨"SlottedMeshModel", "sent", "()I"⟩ ∈ gz := gz_t (List.mem_of_getElem? (i := 754) (by decide +kernel)) rfl
theorem kw_755 : Cond.selects "SlottedMeshModel" ⟨"SlottedMeshModel", "sent", "()I"⟩ ⟨"SlottedMeshModel", "sent", "()I"⟩ ∈ gz := gz_t (List.mem_of_getElem? (i := 755) (by decide +kernel)) rfl
theorem kw_756 : Cond.code ⟨"SlottedMeshModel", "sent", "()I"⟩ prog_8_method_40_code 1 (some .int) ∈ gz := gz_t (List.mem_of_getElem? (i := 756) (by decide +kernel)) rfl
theorem kw_757 : Cond.constantLong "SlottedMeshLaw" 45 4294967295 ∈ gz := gz_t (List.mem_of_getElem? (i := 757) (by decide +kernel)) rfl
theorem ks_0 : Cond.selects "SlottedMesh" ⟨"SlottedMesh", "isNode", "(I)Z"⟩ ⟨"SlottedMesh", "isNode", "(I)Z"⟩ ∈ gz := gz_s (List.mem_of_getElem? (i := 0) (by decide +kernel)) rfl
theorem ks_1 : Cond.selects "SlottedMesh$Plan" ⟨"SlottedMesh$Plan", "findRanks", "([LSlottedMesh$Node;)Z"⟩ ⟨"SlottedMesh$Plan", "findRanks", "([LSlottedMesh$Node;)Z"⟩ ∈ gz := gz_s (List.mem_of_getElem? (i := 1) (by decide +kernel)) rfl
theorem ks_2 : Cond.selects "SlottedMesh$Plan" ⟨"SlottedMesh$Plan", "nextNearOfRank", "(LSlottedMesh$Node;II)I"⟩ ⟨"SlottedMesh$Plan", "nextNearOfRank", "(LSlottedMesh$Node;II)I"⟩ ∈ gz := gz_s (List.mem_of_getElem? (i := 2) (by decide +kernel)) rfl
theorem ks_3 : Cond.selects "SlottedMesh$Plan" ⟨"SlottedMesh$Plan", "findParents", "([LSlottedMesh$Node;)V"⟩ ⟨"SlottedMesh$Plan", "findParents", "([LSlottedMesh$Node;)V"⟩ ∈ gz := gz_s (List.mem_of_getElem? (i := 3) (by decide +kernel)) rfl
theorem ks_4 : Cond.selects "SlottedMesh$Plan" ⟨"SlottedMesh$Plan", "placeAdverts", "()Z"⟩ ⟨"SlottedMesh$Plan", "placeAdverts", "()Z"⟩ ∈ gz := gz_s (List.mem_of_getElem? (i := 4) (by decide +kernel)) rfl
theorem ks_5 : Cond.selects "SlottedMesh$Plan" ⟨"SlottedMesh$Plan", "placeAdvert", "(I)Z"⟩ ⟨"SlottedMesh$Plan", "placeAdvert", "(I)Z"⟩ ∈ gz := gz_s (List.mem_of_getElem? (i := 5) (by decide +kernel)) rfl
theorem ks_6 : Cond.selects "SlottedMesh$Plan" ⟨"SlottedMesh$Plan", "fillSlot", "(II)V"⟩ ⟨"SlottedMesh$Plan", "fillSlot", "(II)V"⟩ ∈ gz := gz_s (List.mem_of_getElem? (i := 6) (by decide +kernel)) rfl
theorem ks_7 : Cond.selects "SlottedMesh$Plan" ⟨"SlottedMesh$Plan", "placeLinks", "()Z"⟩ ⟨"SlottedMesh$Plan", "placeLinks", "()Z"⟩ ∈ gz := gz_s (List.mem_of_getElem? (i := 7) (by decide +kernel)) rfl
theorem ks_8 : Cond.selects "SlottedMesh$Plan" ⟨"SlottedMesh$Plan", "placeLink", "(III)Z"⟩ ⟨"SlottedMesh$Plan", "placeLink", "(III)Z"⟩ ∈ gz := gz_s (List.mem_of_getElem? (i := 8) (by decide +kernel)) rfl
theorem ks_9 : Cond.selects "SlottedMesh$Plan" ⟨"SlottedMesh$Plan", "freeChannel", "(III)I"⟩ ⟨"SlottedMesh$Plan", "freeChannel", "(III)I"⟩ ∈ gz := gz_s (List.mem_of_getElem? (i := 9) (by decide +kernel)) rfl
theorem ks_10 : Cond.selects "SlottedMesh" ⟨"SlottedMesh", "isFieldNode", "(I)Z"⟩ ⟨"SlottedMesh", "isFieldNode", "(I)Z"⟩ ∈ gz := gz_s (List.mem_of_getElem? (i := 10) (by decide +kernel)) rfl
theorem ks_11 : Cond.selects "SlottedMesh" ⟨"SlottedMesh", "isChannel", "(I)Z"⟩ ⟨"SlottedMesh", "isChannel", "(I)Z"⟩ ∈ gz := gz_s (List.mem_of_getElem? (i := 11) (by decide +kernel)) rfl
theorem ks_12 : Cond.selects "SlottedMesh" ⟨"SlottedMesh", "driftClocks", "()V"⟩ ⟨"SlottedMesh", "driftClocks", "()V"⟩ ∈ gz := gz_s (List.mem_of_getElem? (i := 12) (by decide +kernel)) rfl
theorem ks_13 : Cond.selects "SlottedMesh" ⟨"SlottedMesh", "playCells", "(I)V"⟩ ⟨"SlottedMesh", "playCells", "(I)V"⟩ ∈ gz := gz_s (List.mem_of_getElem? (i := 13) (by decide +kernel)) rfl
theorem ks_14 : Cond.selects "SlottedMesh" ⟨"SlottedMesh", "advertise", "(LSlottedMesh$Node;LSlottedMesh$Channel;)V"⟩ ⟨"SlottedMesh", "advertise", "(LSlottedMesh$Node;LSlottedMesh$Channel;)V"⟩ ∈ gz := gz_s (List.mem_of_getElem? (i := 14) (by decide +kernel)) rfl
theorem ks_15 : Cond.selects "SlottedMesh" ⟨"SlottedMesh", "answerAdvert", "(LSlottedMesh$Node;LSlottedMesh$Node;)V"⟩ ⟨"SlottedMesh", "answerAdvert", "(LSlottedMesh$Node;LSlottedMesh$Node;)V"⟩ ∈ gz := gz_s (List.mem_of_getElem? (i := 15) (by decide +kernel)) rfl
theorem ks_16 : Cond.selects "SlottedMesh" ⟨"SlottedMesh", "sendUp", "(LSlottedMesh$Node;LSlottedMesh$Node;LSlottedMesh$Channel;)V"⟩ ⟨"SlottedMesh", "sendUp", "(LSlottedMesh$Node;LSlottedMesh$Node;LSlottedMesh$Channel;)V"⟩ ∈ gz := gz_s (List.mem_of_getElem? (i := 16) (by decide +kernel)) rfl
theorem ks_17 : Cond.selects "SlottedMesh" ⟨"SlottedMesh", "hears", "(LSlottedMesh$Node;LSlottedMesh$Node;LSlottedMesh$Channel;)Z"⟩ ⟨"SlottedMesh", "hears", "(LSlottedMesh$Node;LSlottedMesh$Node;LSlottedMesh$Channel;)Z"⟩ ∈ gz := gz_s (List.mem_of_getElem? (i := 17) (by decide +kernel)) rfl
theorem ks_18 : Cond.selects "SlottedMesh" ⟨"SlottedMesh", "settleUp", "(LSlottedMesh$FrameRow;LSlottedMesh$Node;)Z"⟩ ⟨"SlottedMesh", "settleUp", "(LSlottedMesh$FrameRow;LSlottedMesh$Node;)Z"⟩ ∈ gz := gz_s (List.mem_of_getElem? (i := 18) (by decide +kernel)) rfl
theorem ks_19 : Cond.selects "SlottedMesh" ⟨"SlottedMesh", "cacheSample", "(III)V"⟩ ⟨"SlottedMesh", "cacheSample", "(III)V"⟩ ∈ gz := gz_s (List.mem_of_getElem? (i := 19) (by decide +kernel)) rfl
theorem ks_20 : Cond.selects "SlottedMesh" ⟨"SlottedMesh", "sendDown", "(LSlottedMesh$Node;LSlottedMesh$Node;LSlottedMesh$Channel;)V"⟩ ⟨"SlottedMesh", "sendDown", "(LSlottedMesh$Node;LSlottedMesh$Node;LSlottedMesh$Channel;)V"⟩ ∈ gz := gz_s (List.mem_of_getElem? (i := 20) (by decide +kernel)) rfl
theorem ks_21 : Cond.selects "SlottedMeshModel" ⟨"SlottedMeshModel", "noNode", "(I)Z"⟩ ⟨"SlottedMeshModel", "noNode", "(I)Z"⟩ ∈ gz := gz_s (List.mem_of_getElem? (i := 21) (by decide +kernel)) rfl
theorem ks_22 : Cond.selects "SlottedMeshModel" ⟨"SlottedMeshModel", "ranks", "()Z"⟩ ⟨"SlottedMeshModel", "ranks", "()Z"⟩ ∈ gz := gz_s (List.mem_of_getElem? (i := 22) (by decide +kernel)) rfl
theorem ks_23 : Cond.selects "SlottedMeshModel" ⟨"SlottedMeshModel", "findParents", "()V"⟩ ⟨"SlottedMeshModel", "findParents", "()V"⟩ ∈ gz := gz_s (List.mem_of_getElem? (i := 23) (by decide +kernel)) rfl
theorem ks_24 : Cond.selects "SlottedMeshModel" ⟨"SlottedMeshModel", "placeAll", "()Z"⟩ ⟨"SlottedMeshModel", "placeAll", "()Z"⟩ ∈ gz := gz_s (List.mem_of_getElem? (i := 24) (by decide +kernel)) rfl
theorem ks_25 : Cond.selects "SlottedMeshModel" ⟨"SlottedMeshModel", "placeAdvert", "(I)Z"⟩ ⟨"SlottedMeshModel", "placeAdvert", "(I)Z"⟩ ∈ gz := gz_s (List.mem_of_getElem? (i := 25) (by decide +kernel)) rfl
theorem ks_26 : Cond.selects "SlottedMeshModel" ⟨"SlottedMeshModel", "place", "(I)Z"⟩ ⟨"SlottedMeshModel", "place", "(I)Z"⟩ ∈ gz := gz_s (List.mem_of_getElem? (i := 26) (by decide +kernel)) rfl
theorem ks_27 : Cond.selects "SlottedMeshModel" ⟨"SlottedMeshModel", "add", "(IIII)V"⟩ ⟨"SlottedMeshModel", "add", "(IIII)V"⟩ ∈ gz := gz_s (List.mem_of_getElem? (i := 27) (by decide +kernel)) rfl
theorem ks_28 : Cond.selects "SlottedMeshModel" ⟨"SlottedMeshModel", "slot", "()V"⟩ ⟨"SlottedMeshModel", "slot", "()V"⟩ ∈ gz := gz_s (List.mem_of_getElem? (i := 28) (by decide +kernel)) rfl
theorem ks_29 : Cond.selects "SlottedMeshModel" ⟨"SlottedMeshModel", "advert", "(I)V"⟩ ⟨"SlottedMeshModel", "advert", "(I)V"⟩ ∈ gz := gz_s (List.mem_of_getElem? (i := 29) (by decide +kernel)) rfl
theorem ks_30 : Cond.selects "SlottedMeshModel" ⟨"SlottedMeshModel", "close", "(II)Z"⟩ ⟨"SlottedMeshModel", "close", "(II)Z"⟩ ∈ gz := gz_s (List.mem_of_getElem? (i := 30) (by decide +kernel)) rfl
theorem ks_31 : Cond.selects "SlottedMeshModel" ⟨"SlottedMeshModel", "down", "(III)V"⟩ ⟨"SlottedMeshModel", "down", "(III)V"⟩ ∈ gz := gz_s (List.mem_of_getElem? (i := 31) (by decide +kernel)) rfl
theorem ks_32 : Cond.selects "SlottedMeshModel" ⟨"SlottedMeshModel", "below", "(II)Z"⟩ ⟨"SlottedMeshModel", "below", "(II)Z"⟩ ∈ gz := gz_s (List.mem_of_getElem? (i := 32) (by decide +kernel)) rfl
theorem ks_33 : Cond.selects "SlottedMeshModel" ⟨"SlottedMeshModel", "hears", "(III)Z"⟩ ⟨"SlottedMeshModel", "hears", "(III)Z"⟩ ∈ gz := gz_s (List.mem_of_getElem? (i := 33) (by decide +kernel)) rfl
theorem ks_34 : Cond.selects "SlottedMeshModel" ⟨"SlottedMeshModel", "leave", "(I)V"⟩ ⟨"SlottedMeshModel", "leave", "(I)V"⟩ ∈ gz := gz_s (List.mem_of_getElem? (i := 34) (by decide +kernel)) rfl
theorem ks_35 : Cond.selects "SlottedMeshModel" ⟨"SlottedMeshModel", "up", "(III)V"⟩ ⟨"SlottedMeshModel", "up", "(III)V"⟩ ∈ gz := gz_s (List.mem_of_getElem? (i := 35) (by decide +kernel)) rfl
theorem ks_36 : Cond.selects "SlottedMeshModel" ⟨"SlottedMeshModel", "cache", "(III)V"⟩ ⟨"SlottedMeshModel", "cache", "(III)V"⟩ ∈ gz := gz_s (List.mem_of_getElem? (i := 36) (by decide +kernel)) rfl
