/-! The words of the JDK members that are reached (by program: wip/whole/gen_jdk.py). -/
def jy_coder : MethodName := ⟨"java/lang/String", "coder", "()B"⟩
theorem jw_coder : Cond.code jy_coder prog_22_method_152_code 1 (some .byte) ∈ jm_WW := jm_ww (i := 458) (by decide +kernel) (by decide +kernel)
def jy_length : MethodName := ⟨"java/lang/String", "length", "()I"⟩
theorem jw_length : Cond.code jy_length prog_22_method_54_code 1 (some .int) ∈ jm_WW := jm_ww (i := 454) (by decide +kernel) (by decide +kernel)
def jy_isLatin1 : MethodName := ⟨"java/lang/String", "isLatin1", "()Z"⟩
theorem jw_isLatin1 : Cond.code jy_isLatin1 prog_22_method_154_code 1 (some .boolean) ∈ jm_WW := jm_ww (i := 468) (by decide +kernel) (by decide +kernel)
def jy_charAt : MethodName := ⟨"java/lang/String", "charAt", "(I)C"⟩
theorem jw_charAt : Cond.code jy_charAt prog_22_method_56_code 2 (some .char) ∈ jm_WW := jm_ww (i := 464) (by decide +kernel) (by decide +kernel)
def jy_l1charAt : MethodName := ⟨"java/lang/StringLatin1", "charAt", "([BI)C"⟩
theorem jw_l1charAt : Cond.code jy_l1charAt prog_23_method_2_code 2 (some .char) ∈ jm_WW := jm_ww (i := 471) (by decide +kernel) (by decide +kernel)
def jy_chk : MethodName := ⟨"java/lang/String", "checkIndex", "(II)V"⟩
theorem jw_chk : Cond.code jy_chk prog_22_method_155_code 2 none ∈ jm_WW := jm_ww (i := 474) (by decide +kernel) (by decide +kernel)
def jy_pchk : MethodName := ⟨"jdk/internal/util/Preconditions", "checkIndex", "(IILjava/util/function/BiFunction;)I"⟩
theorem jw_pchk : Cond.code jy_pchk prog_27_method_11_code 3 (some .int) ∈ jm_WW := jm_ww (i := 479) (by decide +kernel) (by decide +kernel)
def jy_f2ib : MethodName := ⟨"java/lang/Float", "floatToIntBits", "(F)I"⟩
theorem jw_f2ib : Cond.code jy_f2ib prog_16_method_24_code 1 (some .int) ∈ jm_WW := jm_ww (i := 2062) (by decide +kernel) (by decide +kernel)
def jy_fmod : MethodName := ⟨"java/lang/Math", "floorMod", "(II)I"⟩
theorem jw_fmod : Cond.code jy_fmod prog_20_method_50_code 3 (some .int) ∈ jm_WW := jm_ww (i := 773) (by decide +kernel) (by decide +kernel)
def jy_isNaN : MethodName := ⟨"java/lang/Float", "isNaN", "(F)Z"⟩
theorem jw_isNaN : Cond.code jy_isNaN prog_16_method_6_code 1 (some .boolean) ∈ jm_WW := jm_ww (i := 2065) (by decide +kernel) (by decide +kernel)
theorem jl_coder : Cond.methodLink "java/lang/String" 335 jy_coder ∈ jm_WW := jm_wk (jm_t2 (i := 104) (by decide +kernel)) (by decide +kernel)
theorem jl_isLatin1 : Cond.methodLink "java/lang/String" 492 jy_isLatin1 ∈ jm_WW := jm_wk (jm_t2 (i := 114) (by decide +kernel)) (by decide +kernel)
theorem jl_l1charAt : Cond.methodLink "java/lang/String" 495 jy_l1charAt ∈ jm_WW := jm_wk (jm_t2 (i := 118) (by decide +kernel)) (by decide +kernel)
theorem jl_chk : Cond.methodLink "java/lang/StringLatin1" 9 jy_chk ∈ jm_WW := jm_wk (jm_t2 (i := 121) (by decide +kernel)) (by decide +kernel)
theorem jl_pchk : Cond.methodLink "java/lang/String" 1059 jy_pchk ∈ jm_WW := jm_wk (jm_t2 (i := 126) (by decide +kernel)) (by decide +kernel)
theorem jl_isNaN : Cond.methodLink "java/lang/Float" 59 jy_isNaN ∈ jm_WW := jm_wk (jm_t9 (i := 32) (by decide +kernel)) (by decide +kernel)
theorem jl_raw : Cond.methodLink "java/lang/Float" 74 ⟨"java/lang/Float", "floatToRawIntBits", "(F)I"⟩ ∈ jm_WW := jm_wk (jm_t9 (i := 35) (by decide +kernel)) (by decide +kernel)
theorem jf_compact : Cond.fieldLink "java/lang/String" 38 "java/lang/String" "COMPACT_STRINGS" "Z" ∈ jm_WW := jm_wk (jm_t2 (i := 108) (by decide +kernel)) (by decide +kernel)
theorem jf_sioobe : Cond.fieldLink "java/lang/String" 1053 "jdk/internal/util/Preconditions" "SIOOBE_FORMATTER" "Ljava/util/function/BiFunction;" ∈ jm_WW := jm_wk (jm_t2 (i := 124) (by decide +kernel)) (by decide +kernel)
theorem jf_value : Cond.fieldLink "java/lang/String" 9 "java/lang/String" "value" "[B" ∈ jm_WW := jm_wk (jm_t9 (i := 153) (by decide +kernel)) (by decide +kernel)
theorem jf_coderF : Cond.fieldLink "java/lang/String" 15 "java/lang/String" "coder" "B" ∈ jm_WW := jm_wk (jm_t9 (i := 154) (by decide +kernel)) (by decide +kernel)
theorem ji_coder : Cond.instanceMethod jy_coder ∈ jm_WW := jm_wk (jm_t2 (i := 105) (by decide +kernel)) (by decide +kernel)
theorem js_coder : Cond.selects "java/lang/String" jy_coder jy_coder ∈ jm_WW := jm_wk (jm_t2 (i := 106) (by decide +kernel)) (by decide +kernel)
theorem ji_length : Cond.instanceMethod jy_length ∈ jm_WW := jm_wk (jm_t2 (i := 101) (by decide +kernel)) (by decide +kernel)
theorem js_length : Cond.selects "java/lang/String" jy_length jy_length ∈ jm_WW := jm_wk (jm_t2 (i := 102) (by decide +kernel)) (by decide +kernel)
theorem ji_isLatin1 : Cond.instanceMethod jy_isLatin1 ∈ jm_WW := jm_wk (jm_t2 (i := 115) (by decide +kernel)) (by decide +kernel)
theorem js_isLatin1 : Cond.selects "java/lang/String" jy_isLatin1 jy_isLatin1 ∈ jm_WW := jm_wk (jm_t2 (i := 116) (by decide +kernel)) (by decide +kernel)
theorem ji_charAt : Cond.instanceMethod jy_charAt ∈ jm_WW := jm_wk (jm_t2 (i := 111) (by decide +kernel)) (by decide +kernel)
theorem js_charAt : Cond.selects "java/lang/String" jy_charAt jy_charAt ∈ jm_WW := jm_wk (jm_t2 (i := 112) (by decide +kernel)) (by decide +kernel)
theorem jt_l1charAt : Cond.static jy_l1charAt ∈ jm_WW := jm_wk (jm_t2 (i := 119) (by decide +kernel)) (by decide +kernel)
theorem jt_chk : Cond.static jy_chk ∈ jm_WW := jm_wk (jm_t2 (i := 122) (by decide +kernel)) (by decide +kernel)
theorem jt_pchk : Cond.static jy_pchk ∈ jm_WW := jm_wk (jm_t2 (i := 127) (by decide +kernel)) (by decide +kernel)
theorem jt_f2ib : Cond.static jy_f2ib ∈ jm_WW := jm_wk (jm_t9 (i := 30) (by decide +kernel)) (by decide +kernel)
theorem jt_isNaN : Cond.static jy_isNaN ∈ jm_WW := jm_wk (jm_t9 (i := 33) (by decide +kernel)) (by decide +kernel)
theorem jt_fmod : Cond.static jy_fmod ∈ jm_WW := jm_wk (jm_t3 (i := 181) (by decide +kernel)) (by decide +kernel)
theorem jt_raw : Cond.static ⟨"java/lang/Float", "floatToRawIntBits", "(F)I"⟩ ∈ jm_WW := jm_wk (jm_t9 (i := 36) (by decide +kernel)) (by decide +kernel)
theorem jn_raw : Cond.native ⟨"java/lang/Float", "floatToRawIntBits", "(F)I"⟩ ∈ jm_WW := jm_wk (jm_t9 (i := 37) (by decide +kernel)) (by decide +kernel)
theorem jt_copy : Cond.static arraycopyName ∈ jm_WW := jm_wk (jm_t3 (i := 66) (by decide +kernel)) (by decide +kernel)
theorem jn_copy : Cond.native arraycopyName ∈ jm_WW := jm_wk (jm_t3 (i := 67) (by decide +kernel)) (by decide +kernel)
theorem jb_str : Cond.initialized "java/lang/String" ∈ jm_WW := jm_wk (jm_t1 (i := 14) (by decide +kernel)) (by decide +kernel)
theorem jb_l1 : Cond.initialized "java/lang/StringLatin1" ∈ jm_WW := jm_wk (jm_t1 (i := 15) (by decide +kernel)) (by decide +kernel)
theorem jb_pre : Cond.initialized "jdk/internal/util/Preconditions" ∈ jm_WW := jm_wk (jm_t1 (i := 16) (by decide +kernel)) (by decide +kernel)
theorem jb_flo : Cond.initialized "java/lang/Float" ∈ jm_WW := jm_wk (jm_t1 (i := 26) (by decide +kernel)) (by decide +kernel)
theorem jb_sys : Cond.initialized "java/lang/System" ∈ jm_WW := jm_wk (jm_t1 (i := 18) (by decide +kernel)) (by decide +kernel)
theorem jb_math : Cond.initialized "java/lang/Math" ∈ jm_WW := jm_wk (jm_t1 (i := 3) (by decide +kernel)) (by decide +kernel)
theorem ji_obj : Cond.instanceMethod Lib.objectInit ∈ jm_WW := jm_wk (jm_t1 (i := 33) (by decide +kernel)) (by decide +kernel)
theorem jw_obj : Cond.code Lib.objectInit ⟨#[0xb1]⟩ 1 none ∈ jm_WW := jm_wk (jm_t1 (i := 34) (by decide +kernel)) (by decide +kernel)
theorem jt_max : Cond.static Lib.Math.max.name ∈ jm_WW := jm_wk (jm_t1 (i := 42) (by decide +kernel)) (by decide +kernel)
theorem jw_max : Cond.code Lib.Math.max.name Lib.Math.max.code 2 (some .int) ∈ jm_WW := jm_wk (jm_t1 (i := 43) (by decide +kernel)) (by decide +kernel)
theorem jt_min : Cond.static Lib.Math.min.name ∈ jm_WW := jm_wk (jm_t2 (i := 190) (by decide +kernel)) (by decide +kernel)
theorem jw_min : Cond.code Lib.Math.min.name Lib.Math.min.code 2 (some .int) ∈ jm_WW := jm_wk (jm_t2 (i := 191) (by decide +kernel)) (by decide +kernel)
theorem jt_abs : Cond.static Lib.MathLoose.abs_long.x ∈ jm_WW := jm_wk (jm_t4 (i := 124) (by decide +kernel)) (by decide +kernel)
theorem jw_abs : Cond.code Lib.MathLoose.abs_long.x Lib.MathLoose.abs_long.code 2 (some .long) ∈ jm_WW := jm_wk (jm_t4 (i := 125) (by decide +kernel)) (by decide +kernel)
theorem jt_minL : Cond.static Lib.MathLoose.min_long.x ∈ jm_WW := jm_wk (jm_t5 (i := 165) (by decide +kernel)) (by decide +kernel)
theorem jw_minL : Cond.code Lib.MathLoose.min_long.x Lib.MathLoose.min_long.code 4 (some .long) ∈ jm_WW := jm_wk (jm_t5 (i := 166) (by decide +kernel)) (by decide +kernel)
theorem ja_I : Cond.arrayClass .int ∈ jm_WW := jm_wk (jm_t1 (i := 54) (by decide +kernel)) (by decide +kernel)
theorem ja_Z : Cond.arrayClass .boolean ∈ jm_WW := jm_wk (jm_t1 (i := 108) (by decide +kernel)) (by decide +kernel)
theorem ja_J : Cond.arrayClass .long ∈ jm_WW := jm_wk (jm_t1 (i := 184) (by decide +kernel)) (by decide +kernel)
theorem ja_D : Cond.arrayClass .double ∈ jm_WW := jm_wk (jm_t9 (i := 151) (by decide +kernel)) (by decide +kernel)
theorem jc_IAE : Cond.castable "java/lang/IllegalArgumentException" "java/lang/IllegalArgumentException" ∈ jm_NW := jm_nk (jm_t5 (i := 18) (by decide +kernel)) rfl
theorem jc_ISE : Cond.castable "java/lang/IllegalStateException" "java/lang/IllegalStateException" ∈ jm_NW := jm_nk (jm_t4 (i := 176) (by decide +kernel)) rfl
theorem jc_IOB : Cond.castable "java/lang/IndexOutOfBoundsException" "java/lang/IndexOutOfBoundsException" ∈ jm_NW := jm_nk (jm_t5 (i := 62) (by decide +kernel)) rfl
theorem jb_law : Cond.initialized "PaperLandLaw" ∈ jm_WW := jm_wk (jm_t1 (i := 0) (by decide +kernel)) (by decide +kernel)
theorem jo_S : Cond.arrayOver (.object "PaperLand$Series") ∈ jm_NW := jm_nk (jm_t1 (i := 142) (by decide +kernel)) rfl
theorem jo_L : Cond.arrayOver (.object "PaperLand$Land") ∈ jm_NW := jm_nk (jm_t1 (i := 225) (by decide +kernel)) rfl
