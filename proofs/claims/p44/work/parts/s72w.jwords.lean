/-! The words of the JDK members that are reached (by program: wip/p44/gen_jdk.py). -/
def jy_coder : MethodName := ⟨"java/lang/String", "coder", "()B"⟩
abbrev jb_c_coder : ByteArray := prog_32_method_152_code
theorem jw_coder : Cond.code jy_coder prog_32_method_152_code 1 (some .byte) ∈ jm_WW := jm_wk (jm_t2 (i := 101) (by decide +kernel)) (by decide +kernel)
def jy_length : MethodName := ⟨"java/lang/String", "length", "()I"⟩
abbrev jb_c_length : ByteArray := prog_32_method_54_code
theorem jw_length : Cond.code jy_length prog_32_method_54_code 1 (some .int) ∈ jm_WW := jm_wk (jm_t2 (i := 97) (by decide +kernel)) (by decide +kernel)
def jy_isLatin1 : MethodName := ⟨"java/lang/String", "isLatin1", "()Z"⟩
abbrev jb_c_isLatin1 : ByteArray := prog_32_method_154_code
theorem jw_isLatin1 : Cond.code jy_isLatin1 prog_32_method_154_code 1 (some .boolean) ∈ jm_WW := jm_wk (jm_t2 (i := 111) (by decide +kernel)) (by decide +kernel)
def jy_charAt : MethodName := ⟨"java/lang/String", "charAt", "(I)C"⟩
abbrev jb_c_charAt : ByteArray := prog_32_method_56_code
theorem jw_charAt : Cond.code jy_charAt prog_32_method_56_code 2 (some .char) ∈ jm_WW := jm_wk (jm_t2 (i := 107) (by decide +kernel)) (by decide +kernel)
def jy_l1charAt : MethodName := ⟨"java/lang/StringLatin1", "charAt", "([BI)C"⟩
abbrev jb_c_l1charAt : ByteArray := prog_34_method_2_code
theorem jw_l1charAt : Cond.code jy_l1charAt prog_34_method_2_code 2 (some .char) ∈ jm_WW := jm_wk (jm_t2 (i := 114) (by decide +kernel)) (by decide +kernel)
def jy_chk : MethodName := ⟨"java/lang/String", "checkIndex", "(II)V"⟩
abbrev jb_c_chk : ByteArray := prog_32_method_155_code
theorem jw_chk : Cond.code jy_chk prog_32_method_155_code 2 none ∈ jm_WW := jm_wk (jm_t2 (i := 117) (by decide +kernel)) (by decide +kernel)
def jy_pchk : MethodName := ⟨"jdk/internal/util/Preconditions", "checkIndex", "(IILjava/util/function/BiFunction;)I"⟩
abbrev jb_c_pchk : ByteArray := prog_50_method_11_code
theorem jw_pchk : Cond.code jy_pchk prog_50_method_11_code 3 (some .int) ∈ jm_WW := jm_wk (jm_t2 (i := 122) (by decide +kernel)) (by decide +kernel)
def jy_fmod : MethodName := ⟨"java/lang/Math", "floorMod", "(II)I"⟩
abbrev jb_c_fmod : ByteArray := prog_29_method_50_code
theorem jw_fmod : Cond.code jy_fmod prog_29_method_50_code 3 (some .int) ∈ jm_WW := jm_wk (jm_t6 (i := 196) (by decide +kernel)) (by decide +kernel)
def jy_intValue : MethodName := ⟨"java/lang/Integer", "intValue", "()I"⟩
abbrev jb_c_intValue : ByteArray := prog_26_method_27_code
theorem jw_intValue : Cond.code jy_intValue prog_26_method_27_code 1 (some .int) ∈ jm_WW := jm_wk (jm_t6 (i := 143) (by decide +kernel)) (by decide +kernel)
def jy_valueOf : MethodName := ⟨"java/lang/Integer", "valueOf", "(I)Ljava/lang/Integer;"⟩
abbrev jb_c_valueOf : ByteArray := prog_26_method_22_code
theorem jw_valueOf : Cond.code jy_valueOf prog_26_method_22_code 1 (some (.object "java/lang/Integer")) ∈ jm_WW := jm_wk (jm_t6 (i := 120) (by decide +kernel)) (by decide +kernel)
def jy_getBytes : MethodName := ⟨"java/lang/String", "getBytes", "([BIB)V"⟩
abbrev jb_c_getBytes : ByteArray := prog_32_method_147_code
theorem jw_getBytes : Cond.code jy_getBytes prog_32_method_147_code 4 none ∈ jm_WW := jm_wk (jm_t4 (i := 49) (by decide +kernel)) (by decide +kernel)
def jy_copyO : MethodName := ⟨"java/util/Arrays", "copyOf", "([Ljava/lang/Object;I)[Ljava/lang/Object;"⟩
abbrev jb_c_copyO : ByteArray := prog_43_method_119_code
theorem jw_copyO : Cond.code jy_copyO prog_43_method_119_code 2 (some (.array (.object "java/lang/Object"))) ∈ jm_WW := jm_wk (jm_t4 (i := 166) (by decide +kernel)) (by decide +kernel)
def jy_copyC : MethodName := ⟨"java/util/Arrays", "copyOf", "([Ljava/lang/Object;ILjava/lang/Class;)[Ljava/lang/Object;"⟩
abbrev jb_c_copyC : ByteArray := prog_43_method_120_code
theorem jw_copyC : Cond.code jy_copyC prog_43_method_120_code 4 (some (.array (.object "java/lang/Object"))) ∈ jm_WW := jm_wk (jm_t4 (i := 194) (by decide +kernel)) (by decide +kernel)
def jy_ochk : MethodName := ⟨"java/util/Objects", "checkIndex", "(II)I"⟩
abbrev jb_c_ochk : ByteArray := prog_46_method_17_code
theorem jw_ochk : Cond.code jy_ochk prog_46_method_17_code 2 (some .int) ∈ jm_WW := jm_wk (jm_t4 (i := 215) (by decide +kernel)) (by decide +kernel)
theorem jl_coder : Cond.methodLink "java/lang/String" 335 jy_coder ∈ jm_WW := jm_wk (jm_t2 (i := 98) (by decide +kernel)) (by decide +kernel)
theorem jl_isLatin1 : Cond.methodLink "java/lang/String" 492 jy_isLatin1 ∈ jm_WW := jm_wk (jm_t2 (i := 108) (by decide +kernel)) (by decide +kernel)
theorem jl_l1charAt : Cond.methodLink "java/lang/String" 495 jy_l1charAt ∈ jm_WW := jm_wk (jm_t2 (i := 112) (by decide +kernel)) (by decide +kernel)
theorem jl_chk : Cond.methodLink "java/lang/StringLatin1" 9 jy_chk ∈ jm_WW := jm_wk (jm_t2 (i := 115) (by decide +kernel)) (by decide +kernel)
theorem jl_pchk : Cond.methodLink "java/lang/String" 1059 jy_pchk ∈ jm_WW := jm_wk (jm_t2 (i := 120) (by decide +kernel)) (by decide +kernel)
theorem jl_opchk : Cond.methodLink "java/util/Objects" 105 jy_pchk ∈ jm_WW := jm_wk (jm_t4 (i := 216) (by decide +kernel)) (by decide +kernel)
theorem jl_copyC : Cond.methodLink "java/util/Arrays" 300 jy_copyC ∈ jm_WW := jm_wk (jm_t4 (i := 192) (by decide +kernel)) (by decide +kernel)
theorem jf_compact : Cond.fieldLink "java/lang/String" 38 "java/lang/String" "COMPACT_STRINGS" "Z" ∈ jm_WW := jm_wk (jm_t2 (i := 102) (by decide +kernel)) (by decide +kernel)
theorem jf_sioobe : Cond.fieldLink "java/lang/String" 1053 "jdk/internal/util/Preconditions" "SIOOBE_FORMATTER" "Ljava/util/function/BiFunction;" ∈ jm_WW := jm_wk (jm_t2 (i := 118) (by decide +kernel)) (by decide +kernel)
theorem jf_value : Cond.fieldLink "java/lang/String" 9 "java/lang/String" "value" "[B" ∈ jm_WW := jm_wk (jm_t5 (i := 27) (by decide +kernel)) (by decide +kernel)
theorem jf_coderF : Cond.fieldLink "java/lang/String" 15 "java/lang/String" "coder" "B" ∈ jm_WW := jm_wk (jm_t5 (i := 28) (by decide +kernel)) (by decide +kernel)
theorem jf_ivalue : Cond.fieldLink "java/lang/Integer" 205 "java/lang/Integer" "value" "I" ∈ jm_WW := jm_wk (jm_t6 (i := 134) (by decide +kernel)) (by decide +kernel)
theorem jf_high : Cond.fieldLink "java/lang/Integer" 191 "java/lang/Integer$IntegerCache" "high" "I" ∈ jm_WW := jm_wk (jm_t6 (i := 121) (by decide +kernel)) (by decide +kernel)
theorem jf_cache : Cond.fieldLink "java/lang/Integer" 195 "java/lang/Integer$IntegerCache" "cache" "[Ljava/lang/Integer;" ∈ jm_WW := jm_wk (jm_t6 (i := 123) (by decide +kernel)) (by decide +kernel)
theorem ji_coder : Cond.instanceMethod jy_coder ∈ jm_WW := jm_wk (jm_t2 (i := 99) (by decide +kernel)) (by decide +kernel)
theorem js_coder : Cond.selects "java/lang/String" jy_coder jy_coder ∈ jm_WW := jm_wk (jm_t2 (i := 100) (by decide +kernel)) (by decide +kernel)
theorem ji_length : Cond.instanceMethod jy_length ∈ jm_WW := jm_wk (jm_t2 (i := 95) (by decide +kernel)) (by decide +kernel)
theorem js_length : Cond.selects "java/lang/String" jy_length jy_length ∈ jm_WW := jm_wk (jm_t2 (i := 96) (by decide +kernel)) (by decide +kernel)
theorem ji_isLatin1 : Cond.instanceMethod jy_isLatin1 ∈ jm_WW := jm_wk (jm_t2 (i := 109) (by decide +kernel)) (by decide +kernel)
theorem js_isLatin1 : Cond.selects "java/lang/String" jy_isLatin1 jy_isLatin1 ∈ jm_WW := jm_wk (jm_t2 (i := 110) (by decide +kernel)) (by decide +kernel)
theorem ji_charAt : Cond.instanceMethod jy_charAt ∈ jm_WW := jm_wk (jm_t2 (i := 105) (by decide +kernel)) (by decide +kernel)
theorem js_charAt : Cond.selects "java/lang/String" jy_charAt jy_charAt ∈ jm_WW := jm_wk (jm_t2 (i := 106) (by decide +kernel)) (by decide +kernel)
theorem ji_intValue : Cond.instanceMethod jy_intValue ∈ jm_WW := jm_wk (jm_t6 (i := 141) (by decide +kernel)) (by decide +kernel)
theorem js_intValue : Cond.selects "java/lang/Integer" jy_intValue jy_intValue ∈ jm_WW := jm_wk (jm_t6 (i := 142) (by decide +kernel)) (by decide +kernel)
theorem ji_getBytes : Cond.instanceMethod jy_getBytes ∈ jm_WW := jm_wk (jm_t4 (i := 47) (by decide +kernel)) (by decide +kernel)
theorem js_getBytes : Cond.selects "java/lang/String" jy_getBytes jy_getBytes ∈ jm_WW := jm_wk (jm_t4 (i := 48) (by decide +kernel)) (by decide +kernel)
theorem jt_l1charAt : Cond.static jy_l1charAt ∈ jm_WW := jm_wk (jm_t2 (i := 113) (by decide +kernel)) (by decide +kernel)
theorem jt_chk : Cond.static jy_chk ∈ jm_WW := jm_wk (jm_t2 (i := 116) (by decide +kernel)) (by decide +kernel)
theorem jt_pchk : Cond.static jy_pchk ∈ jm_WW := jm_wk (jm_t2 (i := 121) (by decide +kernel)) (by decide +kernel)
theorem jt_fmod : Cond.static jy_fmod ∈ jm_WW := jm_wk (jm_t6 (i := 195) (by decide +kernel)) (by decide +kernel)
theorem jt_valueOf : Cond.static jy_valueOf ∈ jm_WW := jm_wk (jm_t6 (i := 119) (by decide +kernel)) (by decide +kernel)
theorem jt_copyO : Cond.static jy_copyO ∈ jm_WW := jm_wk (jm_t4 (i := 165) (by decide +kernel)) (by decide +kernel)
theorem jt_copyC : Cond.static jy_copyC ∈ jm_WW := jm_wk (jm_t4 (i := 193) (by decide +kernel)) (by decide +kernel)
theorem jt_ochk : Cond.static jy_ochk ∈ jm_WW := jm_wk (jm_t4 (i := 214) (by decide +kernel)) (by decide +kernel)
theorem jt_copy : Cond.static arraycopyName ∈ jm_WW := jm_wk (jm_t3 (i := 60) (by decide +kernel)) (by decide +kernel)
theorem jn_copy : Cond.native arraycopyName ∈ jm_WW := jm_wk (jm_t3 (i := 61) (by decide +kernel)) (by decide +kernel)
theorem jl_copyS : Cond.methodLink "java/lang/String" 212 arraycopyName ∈ jm_WW := jm_wk (jm_t4 (i := 50) (by decide +kernel)) (by decide +kernel)
theorem jl_copyA : Cond.methodLink "java/util/Arrays" 150 arraycopyName ∈ jm_WW := jm_wk (jm_t3 (i := 237) (by decide +kernel)) (by decide +kernel)
theorem jl_minA : Cond.methodLink "java/util/Arrays" 304 Lib.Math.min.name ∈ jm_WW := jm_wk (jm_t3 (i := 236) (by decide +kernel)) (by decide +kernel)
def jy_getClass : MethodName := ⟨"java/lang/Object", "getClass", "()Ljava/lang/Class;"⟩
theorem jl_getClass : Cond.methodLink "java/util/Arrays" 86 jy_getClass ∈ jm_WW := jm_wk (jm_t4 (i := 167) (by decide +kernel)) (by decide +kernel)
theorem js_getClass : Cond.selects "[Ljava/lang/Object;" jy_getClass jy_getClass ∈ jm_WW := jm_wk (jm_t7 (i := 73) (by decide +kernel)) (by decide +kernel)
theorem ji_getClass : Cond.instanceMethod jy_getClass ∈ jm_WW := jm_wk (jm_t4 (i := 168) (by decide +kernel)) (by decide +kernel)
theorem jn_getClass : Cond.native jy_getClass ∈ jm_WW := jm_wk (jm_t4 (i := 191) (by decide +kernel)) (by decide +kernel)
theorem jd_getClass : Cond.declares jy_getClass ∈ jm_NW := jm_nk (jm_t7 (i := 74) (by decide +kernel)) rfl
theorem jk_oarr : Cond.classLink "java/util/Arrays" 110 "[Ljava/lang/Object;" ∈ jm_WW := jm_wk (jm_t4 (i := 195) (by decide +kernel)) (by decide +kernel)
theorem jk_obj : Cond.classLink "java/util/Arrays" 2 "java/lang/Object" ∈ jm_WW := jm_wk (jm_t4 (i := 197) (by decide +kernel)) (by decide +kernel)
def jy_clone : MethodName := ⟨"java/lang/Object", "clone", "()Ljava/lang/Object;"⟩
def jy_cloneB : MethodName := ⟨"[B", "clone", "()Ljava/lang/Object;"⟩
theorem ji_clone : Cond.instanceMethod jy_clone ∈ jm_WW := jm_wk (jm_t3 (i := 232) (by decide +kernel)) (by decide +kernel)
theorem jn_clone : Cond.native jy_clone ∈ jm_WW := jm_wk (jm_t3 (i := 231) (by decide +kernel)) (by decide +kernel)
theorem js_clone : Cond.selects "[B" jy_cloneB jy_clone ∈ jm_WW := jm_wk (jm_t3 (i := 233) (by decide +kernel)) (by decide +kernel)
theorem jx_clone : Cond.sameMethod "[B" "java/lang/Object" "clone" "()Ljava/lang/Object;" ∈ jm_WW := jm_wk (jm_t3 (i := 230) (by decide +kernel)) (by decide +kernel)
theorem jb_str : Cond.initialized "java/lang/String" ∈ jm_WW := jm_wk (jm_t1 (i := 14) (by decide +kernel)) (by decide +kernel)
theorem jb_l1 : Cond.initialized "java/lang/StringLatin1" ∈ jm_WW := jm_wk (jm_t1 (i := 15) (by decide +kernel)) (by decide +kernel)
theorem jb_pre : Cond.initialized "jdk/internal/util/Preconditions" ∈ jm_WW := jm_wk (jm_t1 (i := 16) (by decide +kernel)) (by decide +kernel)
theorem jb_sys : Cond.initialized "java/lang/System" ∈ jm_WW := jm_wk (jm_t1 (i := 18) (by decide +kernel)) (by decide +kernel)
theorem jb_math : Cond.initialized "java/lang/Math" ∈ jm_WW := jm_wk (jm_t1 (i := 3) (by decide +kernel)) (by decide +kernel)
theorem jb_int : Cond.initialized "java/lang/Integer" ∈ jm_WW := jm_wk (jm_t1 (i := 27) (by decide +kernel)) (by decide +kernel)
theorem jb_arr : Cond.initialized "java/util/Arrays" ∈ jm_WW := jm_wk (jm_t1 (i := 25) (by decide +kernel)) (by decide +kernel)
theorem jb_objs : Cond.initialized "java/util/Objects" ∈ jm_WW := jm_wk (jm_t1 (i := 29) (by decide +kernel)) (by decide +kernel)
theorem ji_obj : Cond.instanceMethod Lib.objectInit ∈ jm_WW := jm_wk (jm_t1 (i := 43) (by decide +kernel)) (by decide +kernel)
theorem jw_obj : Cond.code Lib.objectInit ⟨#[0xb1]⟩ 1 none ∈ jm_WW := jm_wk (jm_t1 (i := 44) (by decide +kernel)) (by decide +kernel)
theorem jt_max : Cond.static Lib.Math.max.name ∈ jm_WW := jm_wk (jm_t1 (i := 52) (by decide +kernel)) (by decide +kernel)
theorem jw_max : Cond.code Lib.Math.max.name Lib.Math.max.code 2 (some .int) ∈ jm_WW := jm_wk (jm_t1 (i := 53) (by decide +kernel)) (by decide +kernel)
theorem jt_min : Cond.static Lib.Math.min.name ∈ jm_WW := jm_wk (jm_t2 (i := 184) (by decide +kernel)) (by decide +kernel)
theorem jw_min : Cond.code Lib.Math.min.name Lib.Math.min.code 2 (some .int) ∈ jm_WW := jm_wk (jm_t2 (i := 185) (by decide +kernel)) (by decide +kernel)
theorem jt_abs : Cond.static Lib.MathLoose.abs_long.x ∈ jm_WW := jm_wk (jm_t5 (i := 160) (by decide +kernel)) (by decide +kernel)
theorem jw_abs : Cond.code Lib.MathLoose.abs_long.x Lib.MathLoose.abs_long.code 2 (some .long) ∈ jm_WW := jm_wk (jm_t5 (i := 161) (by decide +kernel)) (by decide +kernel)
theorem jt_minL : Cond.static Lib.MathLoose.min_long.x ∈ jm_WW := jm_wk (jm_t6 (i := 6) (by decide +kernel)) (by decide +kernel)
theorem jw_minL : Cond.code Lib.MathLoose.min_long.x Lib.MathLoose.min_long.code 4 (some .long) ∈ jm_WW := jm_wk (jm_t6 (i := 7) (by decide +kernel)) (by decide +kernel)
theorem ja_I : Cond.arrayClass .int ∈ jm_WW := jm_wk (jm_t1 (i := 63) (by decide +kernel)) (by decide +kernel)
theorem ja_Z : Cond.arrayClass .boolean ∈ jm_WW := jm_wk (jm_t1 (i := 111) (by decide +kernel)) (by decide +kernel)
theorem ja_J : Cond.arrayClass .long ∈ jm_WW := jm_wk (jm_t1 (i := 185) (by decide +kernel)) (by decide +kernel)
theorem ja_B : Cond.arrayClass .byte ∈ jm_WW := jm_wk (jm_t3 (i := 118) (by decide +kernel)) (by decide +kernel)
theorem jc_IO : Cond.castable "java/lang/Integer" "java/lang/Object" ∈ jm_NW := jm_nk (jm_t7 (i := 52) (by decide +kernel)) rfl
theorem jc_AO : Cond.castable "java/util/ArrayList" "java/lang/Object" ∈ jm_NW := jm_nk (jm_t7 (i := 64) (by decide +kernel)) rfl
theorem jc_SO : Cond.castable "PaperLandLaw$Series" "java/lang/Object" ∈ jm_NW := jm_nk (jm_t7 (i := 66) (by decide +kernel)) rfl
theorem jc_AL : Cond.castable "java/util/ArrayList" "java/util/List" ∈ jm_NW := jm_nk (jm_t4 (i := 131) (by decide +kernel)) rfl
theorem jc_BC : Cond.castable "[B" "java/lang/Cloneable" ∈ jm_NW := jm_nk (jm_t3 (i := 234) (by decide +kernel)) rfl
theorem jo_S : Cond.arrayOver (.object "PaperLand$Series") ∈ jm_NW := jm_nk (jm_t1 (i := 143) (by decide +kernel)) rfl
theorem jo_L : Cond.arrayOver (.object "PaperLand$Land") ∈ jm_NW := jm_nk (jm_t1 (i := 226) (by decide +kernel)) rfl
theorem jo_O : Cond.arrayOver (.object "java/lang/Object") ∈ jm_NW := jm_nk (jm_t4 (i := 196) (by decide +kernel)) rfl
