theorem k_0 : Cond.selects "HalfFloats" ⟨"HalfFloats","isPattern","(II)Z"⟩ ⟨"HalfFloats","isPattern","(II)Z"⟩ ∈ hx_tb := List.mem_filter.mpr ⟨List.mem_of_getElem? (i := 0) (by decide +kernel), by decide +kernel⟩
theorem k_1 : Cond.selects "HalfFloats$Rounder" ⟨"HalfFloats$Rounder","infinite","(ZLHalfFloats$Format;)I"⟩ ⟨"HalfFloats$Rounder","infinite","(ZLHalfFloats$Format;)I"⟩ ∈ hx_tb := List.mem_filter.mpr ⟨List.mem_of_getElem? (i := 1) (by decide +kernel), by decide +kernel⟩
theorem k_2 : Cond.selects "HalfFloats$Rounder" ⟨"HalfFloats$Rounder","finite","(ZJIZLHalfFloats$Format;I)I"⟩ ⟨"HalfFloats$Rounder","finite","(ZJIZLHalfFloats$Format;I)I"⟩ ∈ hx_tb := List.mem_filter.mpr ⟨List.mem_of_getElem? (i := 2) (by decide +kernel), by decide +kernel⟩
theorem k_3 : Cond.selects "HalfFloats$Rounder" ⟨"HalfFloats$Rounder","draw","()J"⟩ ⟨"HalfFloats$Rounder","draw","()J"⟩ ∈ hx_tb := List.mem_filter.mpr ⟨List.mem_of_getElem? (i := 3) (by decide +kernel), by decide +kernel⟩
theorem k_4 : Cond.selects "HalfFloats$Exact" ⟨"HalfFloats$Exact","addFinite","(ZJI)V"⟩ ⟨"HalfFloats$Exact","addFinite","(ZJI)V"⟩ ∈ hx_tb := List.mem_filter.mpr ⟨List.mem_of_getElem? (i := 4) (by decide +kernel), by decide +kernel⟩
theorem k_5 : Cond.selects "HalfFloats$Exact" ⟨"HalfFloats$Exact","spread","(ZJI)V"⟩ ⟨"HalfFloats$Exact","spread","(ZJI)V"⟩ ∈ hx_tb := List.mem_filter.mpr ⟨List.mem_of_getElem? (i := 5) (by decide +kernel), by decide +kernel⟩
theorem k_6 : Cond.selects "HalfFloats$Exact" ⟨"HalfFloats$Exact","noteInfinite","(Z)V"⟩ ⟨"HalfFloats$Exact","noteInfinite","(Z)V"⟩ ∈ hx_tb := List.mem_filter.mpr ⟨List.mem_of_getElem? (i := 6) (by decide +kernel), by decide +kernel⟩
theorem k_7 : Cond.selects "HalfFloats$Exact" ⟨"HalfFloats$Exact","carry","(I)J"⟩ ⟨"HalfFloats$Exact","carry","(I)J"⟩ ∈ hx_tb := List.mem_filter.mpr ⟨List.mem_of_getElem? (i := 7) (by decide +kernel), by decide +kernel⟩
theorem k_8 : Cond.selects "HalfFloats$Exact" ⟨"HalfFloats$Exact","take","(I)V"⟩ ⟨"HalfFloats$Exact","take","(I)V"⟩ ∈ hx_tb := List.mem_filter.mpr ⟨List.mem_of_getElem? (i := 8) (by decide +kernel), by decide +kernel⟩
theorem k_9 : Cond.selects "HalfFloats" ⟨"HalfFloats","rowOf","(I)LHalfFloats$Row;"⟩ ⟨"HalfFloats","rowOf","(I)LHalfFloats$Row;"⟩ ∈ hx_tb := List.mem_filter.mpr ⟨List.mem_of_getElem? (i := 9) (by decide +kernel), by decide +kernel⟩
theorem k_10 : Cond.selects "HalfFloats" ⟨"HalfFloats","sumFromLeft","(LHalfFloats$Row;LHalfFloats$Format;I)I"⟩ ⟨"HalfFloats","sumFromLeft","(LHalfFloats$Row;LHalfFloats$Format;I)I"⟩ ∈ hx_tb := List.mem_filter.mpr ⟨List.mem_of_getElem? (i := 10) (by decide +kernel), by decide +kernel⟩
theorem k_11 : Cond.selects "HalfFloats" ⟨"HalfFloats","plus","(LHalfFloats$Format;ILHalfFloats$Format;II)I"⟩ ⟨"HalfFloats","plus","(LHalfFloats$Format;ILHalfFloats$Format;II)I"⟩ ∈ hx_tb := List.mem_filter.mpr ⟨List.mem_of_getElem? (i := 11) (by decide +kernel), by decide +kernel⟩
theorem k_12 : Cond.selects "HalfFloats" ⟨"HalfFloats","sumAsTree","(LHalfFloats$Row;LHalfFloats$Format;I)I"⟩ ⟨"HalfFloats","sumAsTree","(LHalfFloats$Row;LHalfFloats$Format;I)I"⟩ ∈ hx_tb := List.mem_filter.mpr ⟨List.mem_of_getElem? (i := 12) (by decide +kernel), by decide +kernel⟩
theorem k_13 : Cond.selects "HalfFloats" ⟨"HalfFloats","pairUp","(ILHalfFloats$Format;I)V"⟩ ⟨"HalfFloats","pairUp","(ILHalfFloats$Format;I)V"⟩ ∈ hx_tb := List.mem_filter.mpr ⟨List.mem_of_getElem? (i := 13) (by decide +kernel), by decide +kernel⟩
theorem k_14 : Cond.selects "HalfFloats" ⟨"HalfFloats","sumAtOnce","(LHalfFloats$Row;LHalfFloats$Format;I)I"⟩ ⟨"HalfFloats","sumAtOnce","(LHalfFloats$Row;LHalfFloats$Format;I)I"⟩ ∈ hx_tb := List.mem_filter.mpr ⟨List.mem_of_getElem? (i := 14) (by decide +kernel), by decide +kernel⟩
theorem k_15 : Cond.selects "HalfFloats" ⟨"HalfFloats","productsAtOnce","(LHalfFloats$Format;I)I"⟩ ⟨"HalfFloats","productsAtOnce","(LHalfFloats$Format;I)I"⟩ ∈ hx_tb := List.mem_filter.mpr ⟨List.mem_of_getElem? (i := 15) (by decide +kernel), by decide +kernel⟩
theorem k_16 : Cond.selects "HalfFloats" ⟨"HalfFloats","addProductAt","(I)V"⟩ ⟨"HalfFloats","addProductAt","(I)V"⟩ ∈ hx_tb := List.mem_filter.mpr ⟨List.mem_of_getElem? (i := 16) (by decide +kernel), by decide +kernel⟩
theorem k_17 : Cond.selects "HalfFloats" ⟨"HalfFloats","productsInPieces","(ILHalfFloats$Format;LHalfFloats$Format;I)I"⟩ ⟨"HalfFloats","productsInPieces","(ILHalfFloats$Format;LHalfFloats$Format;I)I"⟩ ∈ hx_tb := List.mem_filter.mpr ⟨List.mem_of_getElem? (i := 17) (by decide +kernel), by decide +kernel⟩
theorem k_18 : Cond.selects "HalfFloats" ⟨"HalfFloats","blockScale","(LHalfFloats$Format;)I"⟩ ⟨"HalfFloats","blockScale","(LHalfFloats$Format;)I"⟩ ∈ hx_tb := List.mem_filter.mpr ⟨List.mem_of_getElem? (i := 18) (by decide +kernel), by decide +kernel⟩
theorem k_19 : Cond.selects "HalfFloats" ⟨"HalfFloats","slopesBroke","()Z"⟩ ⟨"HalfFloats","slopesBroke","()Z"⟩ ∈ hx_tb := List.mem_filter.mpr ⟨List.mem_of_getElem? (i := 19) (by decide +kernel), by decide +kernel⟩
theorem k_20 : Cond.selects "HalfFloats" ⟨"HalfFloats","stepped","(III)I"⟩ ⟨"HalfFloats","stepped","(III)I"⟩ ∈ hx_tb := List.mem_filter.mpr ⟨List.mem_of_getElem? (i := 20) (by decide +kernel), by decide +kernel⟩
theorem k_21 : Cond.selects "HalfFloats" ⟨"HalfFloats","comesBack","(LHalfFloats$Format;ILHalfFloats$Format;I)Z"⟩ ⟨"HalfFloats","comesBack","(LHalfFloats$Format;ILHalfFloats$Format;I)Z"⟩ ∈ hx_tb := List.mem_filter.mpr ⟨List.mem_of_getElem? (i := 21) (by decide +kernel), by decide +kernel⟩
theorem k_22 : Cond.selects "HalfFloatsModel" ⟨"HalfFloatsModel","set","(IIII)V"⟩ ⟨"HalfFloatsModel","set","(IIII)V"⟩ ∈ hx_tb := List.mem_filter.mpr ⟨List.mem_of_getElem? (i := 22) (by decide +kernel), by decide +kernel⟩
theorem k_23 : Cond.selects "HalfFloatsModel" ⟨"HalfFloatsModel","limit","(I)J"⟩ ⟨"HalfFloatsModel","limit","(I)J"⟩ ∈ hx_tb := List.mem_filter.mpr ⟨List.mem_of_getElem? (i := 23) (by decide +kernel), by decide +kernel⟩
theorem k_24 : Cond.selects "HalfFloatsModel" ⟨"HalfFloatsModel","signBit","(I)J"⟩ ⟨"HalfFloatsModel","signBit","(I)J"⟩ ∈ hx_tb := List.mem_filter.mpr ⟨List.mem_of_getElem? (i := 24) (by decide +kernel), by decide +kernel⟩
theorem k_25 : Cond.selects "HalfFloatsModel" ⟨"HalfFloatsModel","nan","(I)J"⟩ ⟨"HalfFloatsModel","nan","(I)J"⟩ ∈ hx_tb := List.mem_filter.mpr ⟨List.mem_of_getElem? (i := 25) (by decide +kernel), by decide +kernel⟩
theorem k_26 : Cond.selects "HalfFloatsModel" ⟨"HalfFloatsModel","isPattern","(II)Z"⟩ ⟨"HalfFloatsModel","isPattern","(II)Z"⟩ ∈ hx_tb := List.mem_filter.mpr ⟨List.mem_of_getElem? (i := 26) (by decide +kernel), by decide +kernel⟩
theorem k_27 : Cond.selects "HalfFloatsModel" ⟨"HalfFloatsModel","pattern","(II)J"⟩ ⟨"HalfFloatsModel","pattern","(II)J"⟩ ∈ hx_tb := List.mem_filter.mpr ⟨List.mem_of_getElem? (i := 27) (by decide +kernel), by decide +kernel⟩
theorem k_28 : Cond.selects "HalfFloatsModel" ⟨"HalfFloatsModel","sortOf","(IJ)I"⟩ ⟨"HalfFloatsModel","sortOf","(IJ)I"⟩ ∈ hx_tb := List.mem_filter.mpr ⟨List.mem_of_getElem? (i := 28) (by decide +kernel), by decide +kernel⟩
theorem k_29 : Cond.selects "HalfFloatsModel" ⟨"HalfFloatsModel","isBelow","(IJ)Z"⟩ ⟨"HalfFloatsModel","isBelow","(IJ)Z"⟩ ∈ hx_tb := List.mem_filter.mpr ⟨List.mem_of_getElem? (i := 29) (by decide +kernel), by decide +kernel⟩
theorem k_30 : Cond.selects "HalfFloatsModel" ⟨"HalfFloatsModel","wholeOf","(IJ)J"⟩ ⟨"HalfFloatsModel","wholeOf","(IJ)J"⟩ ∈ hx_tb := List.mem_filter.mpr ⟨List.mem_of_getElem? (i := 30) (by decide +kernel), by decide +kernel⟩
theorem k_31 : Cond.selects "HalfFloatsModel" ⟨"HalfFloatsModel","powerOf","(IJ)I"⟩ ⟨"HalfFloatsModel","powerOf","(IJ)I"⟩ ∈ hx_tb := List.mem_filter.mpr ⟨List.mem_of_getElem? (i := 31) (by decide +kernel), by decide +kernel⟩
theorem k_32 : Cond.selects "HalfFloatsModel" ⟨"HalfFloatsModel","bias","(I)I"⟩ ⟨"HalfFloatsModel","bias","(I)I"⟩ ∈ hx_tb := List.mem_filter.mpr ⟨List.mem_of_getElem? (i := 32) (by decide +kernel), by decide +kernel⟩
theorem k_33 : Cond.selects "HalfFloatsModel" ⟨"HalfFloatsModel","turned","(IJII)J"⟩ ⟨"HalfFloatsModel","turned","(IJII)J"⟩ ∈ hx_tb := List.mem_filter.mpr ⟨List.mem_of_getElem? (i := 33) (by decide +kernel), by decide +kernel⟩
theorem k_34 : Cond.selects "HalfFloatsModel" ⟨"HalfFloatsModel","begin","()V"⟩ ⟨"HalfFloatsModel","begin","()V"⟩ ∈ hx_tb := List.mem_filter.mpr ⟨List.mem_of_getElem? (i := 34) (by decide +kernel), by decide +kernel⟩
theorem k_35 : Cond.selects "HalfFloatsModel" ⟨"HalfFloatsModel","value","(IJZI)V"⟩ ⟨"HalfFloatsModel","value","(IJZI)V"⟩ ∈ hx_tb := List.mem_filter.mpr ⟨List.mem_of_getElem? (i := 35) (by decide +kernel), by decide +kernel⟩
theorem k_36 : Cond.selects "HalfFloatsModel" ⟨"HalfFloatsModel","term","(ZZJI)V"⟩ ⟨"HalfFloatsModel","term","(ZZJI)V"⟩ ∈ hx_tb := List.mem_filter.mpr ⟨List.mem_of_getElem? (i := 36) (by decide +kernel), by decide +kernel⟩
theorem k_37 : Cond.selects "HalfFloatsModel" ⟨"HalfFloatsModel","put","(JIZ)V"⟩ ⟨"HalfFloatsModel","put","(JIZ)V"⟩ ∈ hx_tb := List.mem_filter.mpr ⟨List.mem_of_getElem? (i := 37) (by decide +kernel), by decide +kernel⟩
theorem k_38 : Cond.selects "HalfFloatsModel" ⟨"HalfFloatsModel","end","(II)J"⟩ ⟨"HalfFloatsModel","end","(II)J"⟩ ∈ hx_tb := List.mem_filter.mpr ⟨List.mem_of_getElem? (i := 38) (by decide +kernel), by decide +kernel⟩
theorem k_39 : Cond.selects "HalfFloatsModel" ⟨"HalfFloatsModel","bitAt","(I)I"⟩ ⟨"HalfFloatsModel","bitAt","(I)I"⟩ ∈ hx_tb := List.mem_filter.mpr ⟨List.mem_of_getElem? (i := 39) (by decide +kernel), by decide +kernel⟩
theorem k_40 : Cond.selects "HalfFloatsModel" ⟨"HalfFloatsModel","negate","()V"⟩ ⟨"HalfFloatsModel","negate","()V"⟩ ∈ hx_tb := List.mem_filter.mpr ⟨List.mem_of_getElem? (i := 40) (by decide +kernel), by decide +kernel⟩
theorem k_41 : Cond.selects "HalfFloatsModel" ⟨"HalfFloatsModel","round","(IIZI)J"⟩ ⟨"HalfFloatsModel","round","(IIZI)J"⟩ ∈ hx_tb := List.mem_filter.mpr ⟨List.mem_of_getElem? (i := 41) (by decide +kernel), by decide +kernel⟩
theorem k_42 : Cond.selects "HalfFloatsModel" ⟨"HalfFloatsModel","hasLower","(I)Z"⟩ ⟨"HalfFloatsModel","hasLower","(I)Z"⟩ ∈ hx_tb := List.mem_filter.mpr ⟨List.mem_of_getElem? (i := 42) (by decide +kernel), by decide +kernel⟩
theorem k_43 : Cond.selects "HalfFloatsModel" ⟨"HalfFloatsModel","isFarther","(IZIJ)Z"⟩ ⟨"HalfFloatsModel","isFarther","(IZIJ)Z"⟩ ∈ hx_tb := List.mem_filter.mpr ⟨List.mem_of_getElem? (i := 43) (by decide +kernel), by decide +kernel⟩
theorem k_44 : Cond.selects "HalfFloatsModel" ⟨"HalfFloatsModel","drawn","()I"⟩ ⟨"HalfFloatsModel","drawn","()I"⟩ ∈ hx_tb := List.mem_filter.mpr ⟨List.mem_of_getElem? (i := 44) (by decide +kernel), by decide +kernel⟩
theorem k_45 : Cond.selects "HalfFloatsModel" ⟨"HalfFloatsModel","product","(IJIJZ)V"⟩ ⟨"HalfFloatsModel","product","(IJIJZ)V"⟩ ∈ hx_tb := List.mem_filter.mpr ⟨List.mem_of_getElem? (i := 45) (by decide +kernel), by decide +kernel⟩
theorem k_46 : Cond.selects "HalfFloatsModel" ⟨"HalfFloatsModel","shorter","()I"⟩ ⟨"HalfFloatsModel","shorter","()I"⟩ ∈ hx_tb := List.mem_filter.mpr ⟨List.mem_of_getElem? (i := 46) (by decide +kernel), by decide +kernel⟩
theorem k_47 : Cond.selects "HalfFloatsModel" ⟨"HalfFloatsModel","scaleOf","(I)I"⟩ ⟨"HalfFloatsModel","scaleOf","(I)I"⟩ ∈ hx_tb := List.mem_filter.mpr ⟨List.mem_of_getElem? (i := 47) (by decide +kernel), by decide +kernel⟩
theorem k_48 : Cond.selects "HalfFloatsModel" ⟨"HalfFloatsModel","powerBelow","(IJ)I"⟩ ⟨"HalfFloatsModel","powerBelow","(IJ)I"⟩ ∈ hx_tb := List.mem_filter.mpr ⟨List.mem_of_getElem? (i := 48) (by decide +kernel), by decide +kernel⟩
theorem k_49 : Cond.initialized "HalfFloatsLaw" ∈ hx_tb := List.mem_filter.mpr ⟨List.mem_of_getElem? (i := 49) (by decide +kernel), by decide +kernel⟩
theorem k_50 : Cond.initialized "HalfFloats" ∈ hx_tb := List.mem_filter.mpr ⟨List.mem_of_getElem? (i := 50) (by decide +kernel), by decide +kernel⟩
theorem k_51 : Cond.initialized "HalfFloats$Format" ∈ hx_tb := List.mem_filter.mpr ⟨List.mem_of_getElem? (i := 51) (by decide +kernel), by decide +kernel⟩
theorem k_52 : Cond.initialized "HalfFloats$Row" ∈ hx_tb := List.mem_filter.mpr ⟨List.mem_of_getElem? (i := 52) (by decide +kernel), by decide +kernel⟩
theorem k_53 : Cond.initialized "HalfFloats$Exact" ∈ hx_tb := List.mem_filter.mpr ⟨List.mem_of_getElem? (i := 53) (by decide +kernel), by decide +kernel⟩
theorem k_54 : Cond.initialized "HalfFloats$Rounder" ∈ hx_tb := List.mem_filter.mpr ⟨List.mem_of_getElem? (i := 54) (by decide +kernel), by decide +kernel⟩
theorem k_55 : Cond.initialized "HalfFloatsModel" ∈ hx_tb := List.mem_filter.mpr ⟨List.mem_of_getElem? (i := 55) (by decide +kernel), by decide +kernel⟩
theorem k_56 : Cond.initialized "java/lang/Math" ∈ hx_tb := List.mem_filter.mpr ⟨List.mem_of_getElem? (i := 56) (by decide +kernel), by decide +kernel⟩
theorem k_57 : Cond.initialized "java/lang/Long" ∈ hx_tb := List.mem_filter.mpr ⟨List.mem_of_getElem? (i := 57) (by decide +kernel), by decide +kernel⟩
theorem k_58 : Cond.initialized "java/lang/Integer" ∈ hx_tb := List.mem_filter.mpr ⟨List.mem_of_getElem? (i := 58) (by decide +kernel), by decide +kernel⟩
theorem k_59 : Cond.initialized "java/util/Arrays" ∈ hx_tb := List.mem_filter.mpr ⟨List.mem_of_getElem? (i := 59) (by decide +kernel), by decide +kernel⟩
theorem k_60 : Cond.classLink "HalfFloatsLaw" 7 "HalfFloats" ∈ hx_tb := List.mem_filter.mpr ⟨List.mem_of_getElem? (i := 60) (by decide +kernel), by decide +kernel⟩
theorem k_61 : Cond.instantiable "HalfFloats" 9 ∈ hx_tb := List.mem_filter.mpr ⟨List.mem_of_getElem? (i := 61) (by decide +kernel), by decide +kernel⟩
theorem k_62 : Cond.methodLink "HalfFloatsLaw" 9 ⟨"HalfFloats","<init>","()V"⟩ ∈ hx_tb := List.mem_filter.mpr ⟨List.mem_of_getElem? (i := 62) (by decide +kernel), by decide +kernel⟩
theorem k_63 : Cond.instanceMethod ⟨"HalfFloats","<init>","()V"⟩ ∈ hx_tb := List.mem_filter.mpr ⟨List.mem_of_getElem? (i := 63) (by decide +kernel), by decide +kernel⟩
theorem k_64 : Cond.code y_X_init b_X_init 1 none ∈ hx_tb := List.mem_filter.mpr ⟨List.mem_of_getElem? (i := 64) (by decide +kernel), by decide +kernel⟩
theorem k_65 : Cond.methodLink "HalfFloats" 1 ⟨"java/lang/Object","<init>","()V"⟩ ∈ hx_tb := List.mem_filter.mpr ⟨List.mem_of_getElem? (i := 65) (by decide +kernel), by decide +kernel⟩
theorem k_66 : Cond.instanceMethod ⟨"java/lang/Object","<init>","()V"⟩ ∈ hx_tb := List.mem_filter.mpr ⟨List.mem_of_getElem? (i := 66) (by decide +kernel), by decide +kernel⟩
theorem k_67 : Cond.code ⟨"java/lang/Object","<init>","()V"⟩ object_method_1_code 1 none ∈ hx_tb := List.mem_filter.mpr ⟨List.mem_of_getElem? (i := 67) (by decide +kernel), by decide +kernel⟩
theorem k_68 : Cond.classLink "HalfFloats" 7 "HalfFloats$Format" ∈ hx_tb := List.mem_filter.mpr ⟨List.mem_of_getElem? (i := 68) (by decide +kernel), by decide +kernel⟩
theorem k_69 : Cond.arrayOver (FieldType.object "HalfFloats$Format") ∈ lw_tbl := List.mem_of_getElem? (i := 69) (by decide +kernel)
theorem k_70 : Cond.instantiable "HalfFloats$Format" 8 ∈ hx_tb := List.mem_filter.mpr ⟨List.mem_of_getElem? (i := 70) (by decide +kernel), by decide +kernel⟩
theorem k_71 : Cond.methodLink "HalfFloats" 9 ⟨"HalfFloats$Format","<init>","(III)V"⟩ ∈ hx_tb := List.mem_filter.mpr ⟨List.mem_of_getElem? (i := 71) (by decide +kernel), by decide +kernel⟩
theorem k_72 : Cond.instanceMethod ⟨"HalfFloats$Format","<init>","(III)V"⟩ ∈ hx_tb := List.mem_filter.mpr ⟨List.mem_of_getElem? (i := 72) (by decide +kernel), by decide +kernel⟩
theorem k_73 : Cond.code y_F_init b_F_init 4 none ∈ hx_tb := List.mem_filter.mpr ⟨List.mem_of_getElem? (i := 73) (by decide +kernel), by decide +kernel⟩
theorem k_74 : Cond.methodLink "HalfFloats$Format" 3 ⟨"java/lang/Object","<init>","()V"⟩ ∈ hx_tb := List.mem_filter.mpr ⟨List.mem_of_getElem? (i := 74) (by decide +kernel), by decide +kernel⟩
theorem k_75 : Cond.methodLink "HalfFloats$Format" 9 ⟨"HalfFloats$Format","become","(III)V"⟩ ∈ hx_tb := List.mem_filter.mpr ⟨List.mem_of_getElem? (i := 75) (by decide +kernel), by decide +kernel⟩
theorem k_76 : Cond.instanceMethod ⟨"HalfFloats$Format","become","(III)V"⟩ ∈ hx_tb := List.mem_filter.mpr ⟨List.mem_of_getElem? (i := 76) (by decide +kernel), by decide +kernel⟩
theorem k_77 : Cond.selects "HalfFloats$Format" ⟨"HalfFloats$Format","become","(III)V"⟩ ⟨"HalfFloats$Format","become","(III)V"⟩ ∈ hx_tb := List.mem_filter.mpr ⟨List.mem_of_getElem? (i := 77) (by decide +kernel), by decide +kernel⟩
theorem k_78 : Cond.code y_F_become b_F_become 7 none ∈ hx_tb := List.mem_filter.mpr ⟨List.mem_of_getElem? (i := 78) (by decide +kernel), by decide +kernel⟩
theorem k_79 : Cond.fieldLink "HalfFloats$Format" 15 "HalfFloats$Format" "expBits" "I" ∈ hx_tb := List.mem_filter.mpr ⟨List.mem_of_getElem? (i := 79) (by decide +kernel), by decide +kernel⟩
theorem k_80 : Cond.fieldLink "HalfFloats" 68 "HalfFloats$Format" "expBits" "I" ∈ hx_tb := List.mem_filter.mpr ⟨List.mem_of_getElem? (i := 80) (by decide +kernel), by decide +kernel⟩
theorem k_81 : Cond.fieldLink "HalfFloats$Format" 19 "HalfFloats$Format" "fracBits" "I" ∈ hx_tb := List.mem_filter.mpr ⟨List.mem_of_getElem? (i := 81) (by decide +kernel), by decide +kernel⟩
theorem k_82 : Cond.fieldLink "HalfFloats" 71 "HalfFloats$Format" "fracBits" "I" ∈ hx_tb := List.mem_filter.mpr ⟨List.mem_of_getElem? (i := 82) (by decide +kernel), by decide +kernel⟩
theorem k_83 : Cond.fieldLink "HalfFloats$Rounder" 105 "HalfFloats$Format" "fracBits" "I" ∈ hx_tb := List.mem_filter.mpr ⟨List.mem_of_getElem? (i := 83) (by decide +kernel), by decide +kernel⟩
theorem k_84 : Cond.fieldLink "HalfFloats$Format" 22 "HalfFloats$Format" "kind" "I" ∈ hx_tb := List.mem_filter.mpr ⟨List.mem_of_getElem? (i := 84) (by decide +kernel), by decide +kernel⟩
theorem k_85 : Cond.fieldLink "HalfFloats" 74 "HalfFloats$Format" "kind" "I" ∈ hx_tb := List.mem_filter.mpr ⟨List.mem_of_getElem? (i := 85) (by decide +kernel), by decide +kernel⟩
theorem k_86 : Cond.fieldLink "HalfFloats$Rounder" 84 "HalfFloats$Format" "kind" "I" ∈ hx_tb := List.mem_filter.mpr ⟨List.mem_of_getElem? (i := 86) (by decide +kernel), by decide +kernel⟩
theorem k_87 : Cond.fieldLink "HalfFloats$Format" 25 "HalfFloats$Format" "width" "I" ∈ hx_tb := List.mem_filter.mpr ⟨List.mem_of_getElem? (i := 87) (by decide +kernel), by decide +kernel⟩
theorem k_88 : Cond.fieldLink "HalfFloats" 203 "HalfFloats$Format" "width" "I" ∈ hx_tb := List.mem_filter.mpr ⟨List.mem_of_getElem? (i := 88) (by decide +kernel), by decide +kernel⟩
theorem k_89 : Cond.fieldLink "HalfFloats$Format" 28 "HalfFloats$Format" "limit" "I" ∈ hx_tb := List.mem_filter.mpr ⟨List.mem_of_getElem? (i := 89) (by decide +kernel), by decide +kernel⟩
theorem k_90 : Cond.fieldLink "HalfFloats" 77 "HalfFloats$Format" "limit" "I" ∈ hx_tb := List.mem_filter.mpr ⟨List.mem_of_getElem? (i := 90) (by decide +kernel), by decide +kernel⟩
theorem k_91 : Cond.fieldLink "HalfFloats$Rounder" 87 "HalfFloats$Format" "limit" "I" ∈ hx_tb := List.mem_filter.mpr ⟨List.mem_of_getElem? (i := 91) (by decide +kernel), by decide +kernel⟩
theorem k_92 : Cond.fieldLink "HalfFloats$Rounder" 29 "HalfFloats$Format" "theNan" "I" ∈ hx_tb := List.mem_filter.mpr ⟨List.mem_of_getElem? (i := 92) (by decide +kernel), by decide +kernel⟩
theorem k_93 : Cond.fieldLink "HalfFloats$Format" 31 "HalfFloats$Format" "theNan" "I" ∈ hx_tb := List.mem_filter.mpr ⟨List.mem_of_getElem? (i := 93) (by decide +kernel), by decide +kernel⟩
theorem k_94 : Cond.fieldLink "HalfFloats" 80 "HalfFloats$Format" "theNan" "I" ∈ hx_tb := List.mem_filter.mpr ⟨List.mem_of_getElem? (i := 94) (by decide +kernel), by decide +kernel⟩
theorem k_95 : Cond.fieldLink "HalfFloats$Format" 34 "HalfFloats$Format" "leastTop" "I" ∈ hx_tb := List.mem_filter.mpr ⟨List.mem_of_getElem? (i := 95) (by decide +kernel), by decide +kernel⟩
theorem k_96 : Cond.fieldLink "HalfFloats$Rounder" 96 "HalfFloats$Format" "leastTop" "I" ∈ hx_tb := List.mem_filter.mpr ⟨List.mem_of_getElem? (i := 96) (by decide +kernel), by decide +kernel⟩
theorem k_97 : Cond.fieldLink "HalfFloats$Format" 37 "HalfFloats$Format" "leastPower" "I" ∈ hx_tb := List.mem_filter.mpr ⟨List.mem_of_getElem? (i := 97) (by decide +kernel), by decide +kernel⟩
theorem k_98 : Cond.fieldLink "HalfFloats$Rounder" 112 "HalfFloats$Format" "leastPower" "I" ∈ hx_tb := List.mem_filter.mpr ⟨List.mem_of_getElem? (i := 98) (by decide +kernel), by decide +kernel⟩
theorem k_116 : Cond.classLink "HalfFloats" 18 "HalfFloats$Row" ∈ hx_tb := List.mem_filter.mpr ⟨List.mem_of_getElem? (i := 116) (by decide +kernel), by decide +kernel⟩
theorem k_117 : Cond.instantiable "HalfFloats$Row" 3 ∈ hx_tb := List.mem_filter.mpr ⟨List.mem_of_getElem? (i := 117) (by decide +kernel), by decide +kernel⟩
theorem k_118 : Cond.methodLink "HalfFloats" 20 ⟨"HalfFloats$Row","<init>","(I)V"⟩ ∈ hx_tb := List.mem_filter.mpr ⟨List.mem_of_getElem? (i := 118) (by decide +kernel), by decide +kernel⟩
theorem k_119 : Cond.instanceMethod ⟨"HalfFloats$Row","<init>","(I)V"⟩ ∈ hx_tb := List.mem_filter.mpr ⟨List.mem_of_getElem? (i := 119) (by decide +kernel), by decide +kernel⟩
theorem k_120 : Cond.code y_R_init b_R_init 2 none ∈ hx_tb := List.mem_filter.mpr ⟨List.mem_of_getElem? (i := 120) (by decide +kernel), by decide +kernel⟩
theorem k_121 : Cond.methodLink "HalfFloats$Row" 3 ⟨"java/lang/Object","<init>","()V"⟩ ∈ hx_tb := List.mem_filter.mpr ⟨List.mem_of_getElem? (i := 121) (by decide +kernel), by decide +kernel⟩
theorem k_122 : Cond.fieldLink "HalfFloats$Row" 9 "HalfFloats$Row" "patterns" "[I" ∈ hx_tb := List.mem_filter.mpr ⟨List.mem_of_getElem? (i := 122) (by decide +kernel), by decide +kernel⟩
theorem k_123 : Cond.fieldLink "HalfFloats" 158 "HalfFloats$Row" "patterns" "[I" ∈ hx_tb := List.mem_filter.mpr ⟨List.mem_of_getElem? (i := 123) (by decide +kernel), by decide +kernel⟩
theorem k_124 : Cond.fieldLink "HalfFloats$Row" 15 "HalfFloats$Row" "size" "I" ∈ hx_tb := List.mem_filter.mpr ⟨List.mem_of_getElem? (i := 124) (by decide +kernel), by decide +kernel⟩
theorem k_125 : Cond.fieldLink "HalfFloats" 152 "HalfFloats$Row" "size" "I" ∈ hx_tb := List.mem_filter.mpr ⟨List.mem_of_getElem? (i := 125) (by decide +kernel), by decide +kernel⟩
theorem k_126 : Cond.fieldLink "HalfFloats$Row" 19 "HalfFloats$Row" "format" "I" ∈ hx_tb := List.mem_filter.mpr ⟨List.mem_of_getElem? (i := 126) (by decide +kernel), by decide +kernel⟩
theorem k_127 : Cond.fieldLink "HalfFloats" 155 "HalfFloats$Row" "format" "I" ∈ hx_tb := List.mem_filter.mpr ⟨List.mem_of_getElem? (i := 127) (by decide +kernel), by decide +kernel⟩
theorem k_135 : Cond.arrayClass FieldType.int ∈ hx_tb := List.mem_filter.mpr ⟨List.mem_of_getElem? (i := 135) (by decide +kernel), by decide +kernel⟩
theorem k_136 : Cond.classLink "HalfFloats" 30 "HalfFloats$Exact" ∈ hx_tb := List.mem_filter.mpr ⟨List.mem_of_getElem? (i := 136) (by decide +kernel), by decide +kernel⟩
theorem k_137 : Cond.instantiable "HalfFloats$Exact" 12 ∈ hx_tb := List.mem_filter.mpr ⟨List.mem_of_getElem? (i := 137) (by decide +kernel), by decide +kernel⟩
theorem k_138 : Cond.methodLink "HalfFloats" 32 ⟨"HalfFloats$Exact","<init>","()V"⟩ ∈ hx_tb := List.mem_filter.mpr ⟨List.mem_of_getElem? (i := 138) (by decide +kernel), by decide +kernel⟩
theorem k_139 : Cond.instanceMethod ⟨"HalfFloats$Exact","<init>","()V"⟩ ∈ hx_tb := List.mem_filter.mpr ⟨List.mem_of_getElem? (i := 139) (by decide +kernel), by decide +kernel⟩
theorem k_140 : Cond.code y_E_init b_E_init 1 none ∈ hx_tb := List.mem_filter.mpr ⟨List.mem_of_getElem? (i := 140) (by decide +kernel), by decide +kernel⟩
theorem k_141 : Cond.methodLink "HalfFloats$Exact" 3 ⟨"java/lang/Object","<init>","()V"⟩ ∈ hx_tb := List.mem_filter.mpr ⟨List.mem_of_getElem? (i := 141) (by decide +kernel), by decide +kernel⟩
theorem k_142 : Cond.fieldLink "HalfFloats$Exact" 15 "HalfFloats$Exact" "hasNan" "Z" ∈ hx_tb := List.mem_filter.mpr ⟨List.mem_of_getElem? (i := 142) (by decide +kernel), by decide +kernel⟩
theorem k_143 : Cond.fieldLink "HalfFloats$Rounder" 51 "HalfFloats$Exact" "hasNan" "Z" ∈ hx_tb := List.mem_filter.mpr ⟨List.mem_of_getElem? (i := 143) (by decide +kernel), by decide +kernel⟩
theorem k_144 : Cond.fieldLink "HalfFloats" 129 "HalfFloats$Exact" "hasNan" "Z" ∈ hx_tb := List.mem_filter.mpr ⟨List.mem_of_getElem? (i := 144) (by decide +kernel), by decide +kernel⟩
theorem k_145 : Cond.fieldLink "HalfFloats$Exact" 19 "HalfFloats$Exact" "zeroTimesInfinite" "Z" ∈ hx_tb := List.mem_filter.mpr ⟨List.mem_of_getElem? (i := 145) (by decide +kernel), by decide +kernel⟩
theorem k_146 : Cond.fieldLink "HalfFloats$Rounder" 57 "HalfFloats$Exact" "zeroTimesInfinite" "Z" ∈ hx_tb := List.mem_filter.mpr ⟨List.mem_of_getElem? (i := 146) (by decide +kernel), by decide +kernel⟩
theorem k_147 : Cond.fieldLink "HalfFloats$Exact" 22 "HalfFloats$Exact" "plusInfinite" "Z" ∈ hx_tb := List.mem_filter.mpr ⟨List.mem_of_getElem? (i := 147) (by decide +kernel), by decide +kernel⟩
theorem k_148 : Cond.fieldLink "HalfFloats$Rounder" 60 "HalfFloats$Exact" "plusInfinite" "Z" ∈ hx_tb := List.mem_filter.mpr ⟨List.mem_of_getElem? (i := 148) (by decide +kernel), by decide +kernel⟩
theorem k_149 : Cond.fieldLink "HalfFloats$Exact" 25 "HalfFloats$Exact" "minusInfinite" "Z" ∈ hx_tb := List.mem_filter.mpr ⟨List.mem_of_getElem? (i := 149) (by decide +kernel), by decide +kernel⟩
theorem k_150 : Cond.fieldLink "HalfFloats$Rounder" 63 "HalfFloats$Exact" "minusInfinite" "Z" ∈ hx_tb := List.mem_filter.mpr ⟨List.mem_of_getElem? (i := 150) (by decide +kernel), by decide +kernel⟩
theorem k_151 : Cond.fieldLink "HalfFloats$Exact" 28 "HalfFloats$Exact" "plusSeen" "Z" ∈ hx_tb := List.mem_filter.mpr ⟨List.mem_of_getElem? (i := 151) (by decide +kernel), by decide +kernel⟩
theorem k_152 : Cond.fieldLink "HalfFloats$Exact" 31 "HalfFloats$Exact" "minusSeen" "Z" ∈ hx_tb := List.mem_filter.mpr ⟨List.mem_of_getElem? (i := 152) (by decide +kernel), by decide +kernel⟩
theorem k_153 : Cond.fieldLink "HalfFloats$Exact" 34 "HalfFloats$Exact" "nonzero" "I" ∈ hx_tb := List.mem_filter.mpr ⟨List.mem_of_getElem? (i := 153) (by decide +kernel), by decide +kernel⟩
theorem k_154 : Cond.fieldLink "HalfFloats$Exact" 38 "HalfFloats$Exact" "negative" "Z" ∈ hx_tb := List.mem_filter.mpr ⟨List.mem_of_getElem? (i := 154) (by decide +kernel), by decide +kernel⟩
theorem k_155 : Cond.fieldLink "HalfFloats$Rounder" 75 "HalfFloats$Exact" "negative" "Z" ∈ hx_tb := List.mem_filter.mpr ⟨List.mem_of_getElem? (i := 155) (by decide +kernel), by decide +kernel⟩
theorem k_156 : Cond.fieldLink "HalfFloats$Exact" 41 "HalfFloats$Exact" "whole" "J" ∈ hx_tb := List.mem_filter.mpr ⟨List.mem_of_getElem? (i := 156) (by decide +kernel), by decide +kernel⟩
theorem k_157 : Cond.fieldLink "HalfFloats$Rounder" 69 "HalfFloats$Exact" "whole" "J" ∈ hx_tb := List.mem_filter.mpr ⟨List.mem_of_getElem? (i := 157) (by decide +kernel), by decide +kernel⟩
theorem k_158 : Cond.fieldLink "HalfFloats$Exact" 45 "HalfFloats$Exact" "power" "I" ∈ hx_tb := List.mem_filter.mpr ⟨List.mem_of_getElem? (i := 158) (by decide +kernel), by decide +kernel⟩
theorem k_159 : Cond.fieldLink "HalfFloats$Rounder" 78 "HalfFloats$Exact" "power" "I" ∈ hx_tb := List.mem_filter.mpr ⟨List.mem_of_getElem? (i := 159) (by decide +kernel), by decide +kernel⟩
theorem k_160 : Cond.fieldLink "HalfFloats$Exact" 48 "HalfFloats$Exact" "more" "Z" ∈ hx_tb := List.mem_filter.mpr ⟨List.mem_of_getElem? (i := 160) (by decide +kernel), by decide +kernel⟩
theorem k_161 : Cond.fieldLink "HalfFloats$Rounder" 81 "HalfFloats$Exact" "more" "Z" ∈ hx_tb := List.mem_filter.mpr ⟨List.mem_of_getElem? (i := 161) (by decide +kernel), by decide +kernel⟩
theorem k_162 : Cond.fieldLink "HalfFloats$Exact" 11 "HalfFloats$Exact" "limbs" "[J" ∈ hx_tb := List.mem_filter.mpr ⟨List.mem_of_getElem? (i := 162) (by decide +kernel), by decide +kernel⟩
theorem k_188 : Cond.arrayClass FieldType.long ∈ hx_tb := List.mem_filter.mpr ⟨List.mem_of_getElem? (i := 188) (by decide +kernel), by decide +kernel⟩
theorem k_189 : Cond.classLink "HalfFloats" 37 "HalfFloats$Rounder" ∈ hx_tb := List.mem_filter.mpr ⟨List.mem_of_getElem? (i := 189) (by decide +kernel), by decide +kernel⟩
theorem k_190 : Cond.instantiable "HalfFloats$Rounder" 2 ∈ hx_tb := List.mem_filter.mpr ⟨List.mem_of_getElem? (i := 190) (by decide +kernel), by decide +kernel⟩
theorem k_191 : Cond.methodLink "HalfFloats" 39 ⟨"HalfFloats$Rounder","<init>","()V"⟩ ∈ hx_tb := List.mem_filter.mpr ⟨List.mem_of_getElem? (i := 191) (by decide +kernel), by decide +kernel⟩
theorem k_192 : Cond.instanceMethod ⟨"HalfFloats$Rounder","<init>","()V"⟩ ∈ hx_tb := List.mem_filter.mpr ⟨List.mem_of_getElem? (i := 192) (by decide +kernel), by decide +kernel⟩
theorem k_193 : Cond.code y_D_init b_D_init 1 none ∈ hx_tb := List.mem_filter.mpr ⟨List.mem_of_getElem? (i := 193) (by decide +kernel), by decide +kernel⟩
theorem k_194 : Cond.methodLink "HalfFloats$Rounder" 3 ⟨"java/lang/Object","<init>","()V"⟩ ∈ hx_tb := List.mem_filter.mpr ⟨List.mem_of_getElem? (i := 194) (by decide +kernel), by decide +kernel⟩
theorem k_195 : Cond.fieldLink "HalfFloats$Rounder" 9 "HalfFloats$Rounder" "raised" "I" ∈ hx_tb := List.mem_filter.mpr ⟨List.mem_of_getElem? (i := 195) (by decide +kernel), by decide +kernel⟩
theorem k_196 : Cond.fieldLink "HalfFloats" 137 "HalfFloats$Rounder" "raised" "I" ∈ hx_tb := List.mem_filter.mpr ⟨List.mem_of_getElem? (i := 196) (by decide +kernel), by decide +kernel⟩
theorem k_197 : Cond.fieldLink "HalfFloats$Rounder" 15 "HalfFloats$Rounder" "state" "J" ∈ hx_tb := List.mem_filter.mpr ⟨List.mem_of_getElem? (i := 197) (by decide +kernel), by decide +kernel⟩
theorem k_198 : Cond.fieldLink "HalfFloats" 141 "HalfFloats$Rounder" "state" "J" ∈ hx_tb := List.mem_filter.mpr ⟨List.mem_of_getElem? (i := 198) (by decide +kernel), by decide +kernel⟩
theorem k_204 : Cond.fieldLink "HalfFloats" 12 "HalfFloats" "formats" "[LHalfFloats$Format;" ∈ hx_tb := List.mem_filter.mpr ⟨List.mem_of_getElem? (i := 204) (by decide +kernel), by decide +kernel⟩
theorem k_205 : Cond.fieldLink "HalfFloats" 23 "HalfFloats" "rowX" "LHalfFloats$Row;" ∈ hx_tb := List.mem_filter.mpr ⟨List.mem_of_getElem? (i := 205) (by decide +kernel), by decide +kernel⟩
theorem k_206 : Cond.fieldLink "HalfFloats" 27 "HalfFloats" "rowY" "LHalfFloats$Row;" ∈ hx_tb := List.mem_filter.mpr ⟨List.mem_of_getElem? (i := 206) (by decide +kernel), by decide +kernel⟩
theorem k_207 : Cond.fieldLink "HalfFloats" 33 "HalfFloats" "exact" "LHalfFloats$Exact;" ∈ hx_tb := List.mem_filter.mpr ⟨List.mem_of_getElem? (i := 207) (by decide +kernel), by decide +kernel⟩
theorem k_208 : Cond.fieldLink "HalfFloats" 40 "HalfFloats" "rounder" "LHalfFloats$Rounder;" ∈ hx_tb := List.mem_filter.mpr ⟨List.mem_of_getElem? (i := 208) (by decide +kernel), by decide +kernel⟩
theorem k_209 : Cond.fieldLink "HalfFloats" 44 "HalfFloats" "tree" "[I" ∈ hx_tb := List.mem_filter.mpr ⟨List.mem_of_getElem? (i := 209) (by decide +kernel), by decide +kernel⟩
theorem k_210 : Cond.fieldLink "HalfFloats" 48 "HalfFloats" "shift" "I" ∈ hx_tb := List.mem_filter.mpr ⟨List.mem_of_getElem? (i := 210) (by decide +kernel), by decide +kernel⟩
theorem k_211 : Cond.fieldLink "HalfFloats" 52 "HalfFloats" "streak" "I" ∈ hx_tb := List.mem_filter.mpr ⟨List.mem_of_getElem? (i := 211) (by decide +kernel), by decide +kernel⟩
theorem k_212 : Cond.fieldLink "HalfFloats" 55 "HalfFloats" "goal" "I" ∈ hx_tb := List.mem_filter.mpr ⟨List.mem_of_getElem? (i := 212) (by decide +kernel), by decide +kernel⟩
theorem k_232 : Cond.methodLink "HalfFloatsLaw" 13 ⟨"HalfFloats","format","(IIII)I"⟩ ∈ hx_tb := List.mem_filter.mpr ⟨List.mem_of_getElem? (i := 232) (by decide +kernel), by decide +kernel⟩
theorem k_233 : Cond.instanceMethod ⟨"HalfFloats","format","(IIII)I"⟩ ∈ hx_tb := List.mem_filter.mpr ⟨List.mem_of_getElem? (i := 233) (by decide +kernel), by decide +kernel⟩
theorem k_234 : Cond.selects "HalfFloats" ⟨"HalfFloats","format","(IIII)I"⟩ ⟨"HalfFloats","format","(IIII)I"⟩ ∈ hx_tb := List.mem_filter.mpr ⟨List.mem_of_getElem? (i := 234) (by decide +kernel), by decide +kernel⟩
theorem k_235 : Cond.code y_X_format b_X_format 5 (Option.some FieldType.int) ∈ hx_tb := List.mem_filter.mpr ⟨List.mem_of_getElem? (i := 235) (by decide +kernel), by decide +kernel⟩
theorem k_236 : Cond.methodLink "HalfFloats" 58 ⟨"HalfFloats","isFormat","(I)Z"⟩ ∈ hx_tb := List.mem_filter.mpr ⟨List.mem_of_getElem? (i := 236) (by decide +kernel), by decide +kernel⟩
theorem k_237 : Cond.static ⟨"HalfFloats","isFormat","(I)Z"⟩ ∈ hx_tb := List.mem_filter.mpr ⟨List.mem_of_getElem? (i := 237) (by decide +kernel), by decide +kernel⟩
theorem k_238 : Cond.code y_X_isFormat b_X_isFormat 1 (Option.some FieldType.boolean) ∈ hx_tb := List.mem_filter.mpr ⟨List.mem_of_getElem? (i := 238) (by decide +kernel), by decide +kernel⟩
theorem k_239 : Cond.methodLink "HalfFloats" 62 ⟨"HalfFloats$Row","uses","(I)Z"⟩ ∈ hx_tb := List.mem_filter.mpr ⟨List.mem_of_getElem? (i := 239) (by decide +kernel), by decide +kernel⟩
theorem k_240 : Cond.instanceMethod ⟨"HalfFloats$Row","uses","(I)Z"⟩ ∈ hx_tb := List.mem_filter.mpr ⟨List.mem_of_getElem? (i := 240) (by decide +kernel), by decide +kernel⟩
theorem k_241 : Cond.selects "HalfFloats$Row" ⟨"HalfFloats$Row","uses","(I)Z"⟩ ⟨"HalfFloats$Row","uses","(I)Z"⟩ ∈ hx_tb := List.mem_filter.mpr ⟨List.mem_of_getElem? (i := 241) (by decide +kernel), by decide +kernel⟩
theorem k_242 : Cond.code y_R_uses b_R_uses 2 (Option.some FieldType.boolean) ∈ hx_tb := List.mem_filter.mpr ⟨List.mem_of_getElem? (i := 242) (by decide +kernel), by decide +kernel⟩
theorem k_243 : Cond.methodLink "HalfFloats" 65 ⟨"HalfFloats$Format","become","(III)V"⟩ ∈ hx_tb := List.mem_filter.mpr ⟨List.mem_of_getElem? (i := 243) (by decide +kernel), by decide +kernel⟩
theorem k_244 : Cond.methodLink "HalfFloatsLaw" 18 ⟨"HalfFloats","form","(II)I"⟩ ∈ hx_tb := List.mem_filter.mpr ⟨List.mem_of_getElem? (i := 244) (by decide +kernel), by decide +kernel⟩
theorem k_245 : Cond.instanceMethod ⟨"HalfFloats","form","(II)I"⟩ ∈ hx_tb := List.mem_filter.mpr ⟨List.mem_of_getElem? (i := 245) (by decide +kernel), by decide +kernel⟩
theorem k_246 : Cond.selects "HalfFloats" ⟨"HalfFloats","form","(II)I"⟩ ⟨"HalfFloats","form","(II)I"⟩ ∈ hx_tb := List.mem_filter.mpr ⟨List.mem_of_getElem? (i := 246) (by decide +kernel), by decide +kernel⟩
theorem k_247 : Cond.code y_X_form b_X_form 4 (Option.some FieldType.int) ∈ hx_tb := List.mem_filter.mpr ⟨List.mem_of_getElem? (i := 247) (by decide +kernel), by decide +kernel⟩
theorem k_248 : Cond.methodLink "HalfFloatsLaw" 23 ⟨"HalfFloats","part","(III)I"⟩ ∈ hx_tb := List.mem_filter.mpr ⟨List.mem_of_getElem? (i := 248) (by decide +kernel), by decide +kernel⟩
theorem k_249 : Cond.instanceMethod ⟨"HalfFloats","part","(III)I"⟩ ∈ hx_tb := List.mem_filter.mpr ⟨List.mem_of_getElem? (i := 249) (by decide +kernel), by decide +kernel⟩
theorem k_250 : Cond.selects "HalfFloats" ⟨"HalfFloats","part","(III)I"⟩ ⟨"HalfFloats","part","(III)I"⟩ ∈ hx_tb := List.mem_filter.mpr ⟨List.mem_of_getElem? (i := 250) (by decide +kernel), by decide +kernel⟩
theorem k_251 : Cond.code y_X_part b_X_part 7 (Option.some FieldType.int) ∈ hx_tb := List.mem_filter.mpr ⟨List.mem_of_getElem? (i := 251) (by decide +kernel), by decide +kernel⟩
theorem k_252 : Cond.methodLink "HalfFloats" 83 ⟨"HalfFloats","isPattern","(II)Z"⟩ ∈ hx_tb := List.mem_filter.mpr ⟨List.mem_of_getElem? (i := 252) (by decide +kernel), by decide +kernel⟩
theorem k_254 : Cond.instanceMethod ⟨"HalfFloats","isPattern","(II)Z"⟩ ∈ hx_tb := List.mem_filter.mpr ⟨List.mem_of_getElem? (i := 254) (by decide +kernel), by decide +kernel⟩
theorem k_255 : Cond.code y_X_isPattern b_X_isPattern 3 (Option.some FieldType.boolean) ∈ hx_tb := List.mem_filter.mpr ⟨List.mem_of_getElem? (i := 255) (by decide +kernel), by decide +kernel⟩
theorem k_256 : Cond.methodLink "HalfFloats" 210 ⟨"HalfFloats$Format","holds","(I)Z"⟩ ∈ hx_tb := List.mem_filter.mpr ⟨List.mem_of_getElem? (i := 256) (by decide +kernel), by decide +kernel⟩
theorem k_257 : Cond.instanceMethod ⟨"HalfFloats$Format","holds","(I)Z"⟩ ∈ hx_tb := List.mem_filter.mpr ⟨List.mem_of_getElem? (i := 257) (by decide +kernel), by decide +kernel⟩
theorem k_258 : Cond.selects "HalfFloats$Format" ⟨"HalfFloats$Format","holds","(I)Z"⟩ ⟨"HalfFloats$Format","holds","(I)Z"⟩ ∈ hx_tb := List.mem_filter.mpr ⟨List.mem_of_getElem? (i := 258) (by decide +kernel), by decide +kernel⟩
theorem k_259 : Cond.code y_F_holds b_F_holds 2 (Option.some FieldType.boolean) ∈ hx_tb := List.mem_filter.mpr ⟨List.mem_of_getElem? (i := 259) (by decide +kernel), by decide +kernel⟩
theorem k_260 : Cond.constant "HalfFloats" 87 (1000000) ∈ hx_tb := List.mem_filter.mpr ⟨List.mem_of_getElem? (i := 260) (by decide +kernel), by decide +kernel⟩
theorem k_261 : Cond.methodLink "HalfFloats" 88 ⟨"HalfFloats$Format","sortOf","(I)I"⟩ ∈ hx_tb := List.mem_filter.mpr ⟨List.mem_of_getElem? (i := 261) (by decide +kernel), by decide +kernel⟩
theorem k_262 : Cond.instanceMethod ⟨"HalfFloats$Format","sortOf","(I)I"⟩ ∈ hx_tb := List.mem_filter.mpr ⟨List.mem_of_getElem? (i := 262) (by decide +kernel), by decide +kernel⟩
theorem k_263 : Cond.selects "HalfFloats$Format" ⟨"HalfFloats$Format","sortOf","(I)I"⟩ ⟨"HalfFloats$Format","sortOf","(I)I"⟩ ∈ hx_tb := List.mem_filter.mpr ⟨List.mem_of_getElem? (i := 263) (by decide +kernel), by decide +kernel⟩
theorem k_264 : Cond.code y_F_sortOf b_F_sortOf 3 (Option.some FieldType.int) ∈ hx_tb := List.mem_filter.mpr ⟨List.mem_of_getElem? (i := 264) (by decide +kernel), by decide +kernel⟩
theorem k_265 : Cond.methodLink "HalfFloats$Format" 40 ⟨"HalfFloats$Format","unsigned","(I)I"⟩ ∈ hx_tb := List.mem_filter.mpr ⟨List.mem_of_getElem? (i := 265) (by decide +kernel), by decide +kernel⟩
theorem k_266 : Cond.instanceMethod ⟨"HalfFloats$Format","unsigned","(I)I"⟩ ∈ hx_tb := List.mem_filter.mpr ⟨List.mem_of_getElem? (i := 266) (by decide +kernel), by decide +kernel⟩
theorem k_267 : Cond.selects "HalfFloats$Format" ⟨"HalfFloats$Format","unsigned","(I)I"⟩ ⟨"HalfFloats$Format","unsigned","(I)I"⟩ ∈ hx_tb := List.mem_filter.mpr ⟨List.mem_of_getElem? (i := 267) (by decide +kernel), by decide +kernel⟩
theorem k_268 : Cond.code y_F_unsigned b_F_unsigned 2 (Option.some FieldType.int) ∈ hx_tb := List.mem_filter.mpr ⟨List.mem_of_getElem? (i := 268) (by decide +kernel), by decide +kernel⟩
theorem k_269 : Cond.methodLink "HalfFloats" 92 ⟨"HalfFloats$Format","isNegative","(I)Z"⟩ ∈ hx_tb := List.mem_filter.mpr ⟨List.mem_of_getElem? (i := 269) (by decide +kernel), by decide +kernel⟩
theorem k_270 : Cond.instanceMethod ⟨"HalfFloats$Format","isNegative","(I)Z"⟩ ∈ hx_tb := List.mem_filter.mpr ⟨List.mem_of_getElem? (i := 270) (by decide +kernel), by decide +kernel⟩
theorem k_271 : Cond.selects "HalfFloats$Format" ⟨"HalfFloats$Format","isNegative","(I)Z"⟩ ⟨"HalfFloats$Format","isNegative","(I)Z"⟩ ∈ hx_tb := List.mem_filter.mpr ⟨List.mem_of_getElem? (i := 271) (by decide +kernel), by decide +kernel⟩
theorem k_272 : Cond.code y_F_isNegative b_F_isNegative 2 (Option.some FieldType.boolean) ∈ hx_tb := List.mem_filter.mpr ⟨List.mem_of_getElem? (i := 272) (by decide +kernel), by decide +kernel⟩
theorem k_273 : Cond.methodLink "HalfFloats" 95 ⟨"HalfFloats$Format","wholeOf","(I)J"⟩ ∈ hx_tb := List.mem_filter.mpr ⟨List.mem_of_getElem? (i := 273) (by decide +kernel), by decide +kernel⟩
theorem k_274 : Cond.instanceMethod ⟨"HalfFloats$Format","wholeOf","(I)J"⟩ ∈ hx_tb := List.mem_filter.mpr ⟨List.mem_of_getElem? (i := 274) (by decide +kernel), by decide +kernel⟩
theorem k_275 : Cond.selects "HalfFloats$Format" ⟨"HalfFloats$Format","wholeOf","(I)J"⟩ ⟨"HalfFloats$Format","wholeOf","(I)J"⟩ ∈ hx_tb := List.mem_filter.mpr ⟨List.mem_of_getElem? (i := 275) (by decide +kernel), by decide +kernel⟩
theorem k_276 : Cond.code y_F_wholeOf b_F_wholeOf 4 (Option.some FieldType.long) ∈ hx_tb := List.mem_filter.mpr ⟨List.mem_of_getElem? (i := 276) (by decide +kernel), by decide +kernel⟩
theorem k_277 : Cond.methodLink "HalfFloats" 99 ⟨"HalfFloats$Format","powerOf","(I)I"⟩ ∈ hx_tb := List.mem_filter.mpr ⟨List.mem_of_getElem? (i := 277) (by decide +kernel), by decide +kernel⟩
theorem k_278 : Cond.instanceMethod ⟨"HalfFloats$Format","powerOf","(I)I"⟩ ∈ hx_tb := List.mem_filter.mpr ⟨List.mem_of_getElem? (i := 278) (by decide +kernel), by decide +kernel⟩
theorem k_279 : Cond.selects "HalfFloats$Format" ⟨"HalfFloats$Format","powerOf","(I)I"⟩ ⟨"HalfFloats$Format","powerOf","(I)I"⟩ ∈ hx_tb := List.mem_filter.mpr ⟨List.mem_of_getElem? (i := 279) (by decide +kernel), by decide +kernel⟩
theorem k_280 : Cond.code y_F_powerOf b_F_powerOf 2 (Option.some FieldType.int) ∈ hx_tb := List.mem_filter.mpr ⟨List.mem_of_getElem? (i := 280) (by decide +kernel), by decide +kernel⟩
theorem k_281 : Cond.methodLink "HalfFloats$Format" 44 ⟨"java/lang/Math","max","(II)I"⟩ ∈ hx_tb := List.mem_filter.mpr ⟨List.mem_of_getElem? (i := 281) (by decide +kernel), by decide +kernel⟩
theorem k_282 : Cond.static ⟨"java/lang/Math","max","(II)I"⟩ ∈ hx_tb := List.mem_filter.mpr ⟨List.mem_of_getElem? (i := 282) (by decide +kernel), by decide +kernel⟩
theorem k_283 : Cond.code y_JM_max b_JM_max 2 (Option.some FieldType.int) ∈ hx_tb := List.mem_filter.mpr ⟨List.mem_of_getElem? (i := 283) (by decide +kernel), by decide +kernel⟩
theorem k_284 : Cond.methodLink "HalfFloatsLaw" 28 ⟨"HalfFloats","turn","(IIII)J"⟩ ∈ hx_tb := List.mem_filter.mpr ⟨List.mem_of_getElem? (i := 284) (by decide +kernel), by decide +kernel⟩
theorem k_285 : Cond.instanceMethod ⟨"HalfFloats","turn","(IIII)J"⟩ ∈ hx_tb := List.mem_filter.mpr ⟨List.mem_of_getElem? (i := 285) (by decide +kernel), by decide +kernel⟩
theorem k_286 : Cond.selects "HalfFloats" ⟨"HalfFloats","turn","(IIII)J"⟩ ⟨"HalfFloats","turn","(IIII)J"⟩ ∈ hx_tb := List.mem_filter.mpr ⟨List.mem_of_getElem? (i := 286) (by decide +kernel), by decide +kernel⟩
theorem k_287 : Cond.code y_X_turn b_X_turn 5 (Option.some FieldType.long) ∈ hx_tb := List.mem_filter.mpr ⟨List.mem_of_getElem? (i := 287) (by decide +kernel), by decide +kernel⟩
theorem k_288 : Cond.methodLink "HalfFloats" 102 ⟨"HalfFloats","isWay","(I)Z"⟩ ∈ hx_tb := List.mem_filter.mpr ⟨List.mem_of_getElem? (i := 288) (by decide +kernel), by decide +kernel⟩
theorem k_289 : Cond.static ⟨"HalfFloats","isWay","(I)Z"⟩ ∈ hx_tb := List.mem_filter.mpr ⟨List.mem_of_getElem? (i := 289) (by decide +kernel), by decide +kernel⟩
theorem k_290 : Cond.code y_X_isWay b_X_isWay 1 (Option.some FieldType.boolean) ∈ hx_tb := List.mem_filter.mpr ⟨List.mem_of_getElem? (i := 290) (by decide +kernel), by decide +kernel⟩
theorem k_291 : Cond.constantLong "HalfFloats" 105 (-2) ∈ hx_tb := List.mem_filter.mpr ⟨List.mem_of_getElem? (i := 291) (by decide +kernel), by decide +kernel⟩
theorem k_292 : Cond.methodLink "HalfFloats" 107 ⟨"HalfFloats$Rounder","turned","(LHalfFloats$Format;IILHalfFloats$Format;I)I"⟩ ∈ hx_tb := List.mem_filter.mpr ⟨List.mem_of_getElem? (i := 292) (by decide +kernel), by decide +kernel⟩
theorem k_293 : Cond.instanceMethod ⟨"HalfFloats$Rounder","turned","(LHalfFloats$Format;IILHalfFloats$Format;I)I"⟩ ∈ hx_tb := List.mem_filter.mpr ⟨List.mem_of_getElem? (i := 293) (by decide +kernel), by decide +kernel⟩
theorem k_294 : Cond.selects "HalfFloats$Rounder" ⟨"HalfFloats$Rounder","turned","(LHalfFloats$Format;IILHalfFloats$Format;I)I"⟩ ⟨"HalfFloats$Rounder","turned","(LHalfFloats$Format;IILHalfFloats$Format;I)I"⟩ ∈ hx_tb := List.mem_filter.mpr ⟨List.mem_of_getElem? (i := 294) (by decide +kernel), by decide +kernel⟩
theorem k_295 : Cond.code y_D_turned b_D_turned 8 (Option.some FieldType.int) ∈ hx_tb := List.mem_filter.mpr ⟨List.mem_of_getElem? (i := 295) (by decide +kernel), by decide +kernel⟩
theorem k_296 : Cond.methodLink "HalfFloats$Rounder" 19 ⟨"HalfFloats$Format","sortOf","(I)I"⟩ ∈ hx_tb := List.mem_filter.mpr ⟨List.mem_of_getElem? (i := 296) (by decide +kernel), by decide +kernel⟩
theorem k_297 : Cond.methodLink "HalfFloats$Rounder" 25 ⟨"HalfFloats$Format","isNegative","(I)Z"⟩ ∈ hx_tb := List.mem_filter.mpr ⟨List.mem_of_getElem? (i := 297) (by decide +kernel), by decide +kernel⟩
theorem k_298 : Cond.methodLink "HalfFloats$Rounder" 32 ⟨"HalfFloats$Rounder","infinite","(ZLHalfFloats$Format;)I"⟩ ∈ hx_tb := List.mem_filter.mpr ⟨List.mem_of_getElem? (i := 298) (by decide +kernel), by decide +kernel⟩
theorem k_300 : Cond.instanceMethod ⟨"HalfFloats$Rounder","infinite","(ZLHalfFloats$Format;)I"⟩ ∈ hx_tb := List.mem_filter.mpr ⟨List.mem_of_getElem? (i := 300) (by decide +kernel), by decide +kernel⟩
theorem k_301 : Cond.code y_D_infinite b_D_infinite 3 (Option.some FieldType.int) ∈ hx_tb := List.mem_filter.mpr ⟨List.mem_of_getElem? (i := 301) (by decide +kernel), by decide +kernel⟩
theorem k_302 : Cond.methodLink "HalfFloats$Rounder" 36 ⟨"HalfFloats$Format","signed","(ZI)I"⟩ ∈ hx_tb := List.mem_filter.mpr ⟨List.mem_of_getElem? (i := 302) (by decide +kernel), by decide +kernel⟩
theorem k_303 : Cond.instanceMethod ⟨"HalfFloats$Format","signed","(ZI)I"⟩ ∈ hx_tb := List.mem_filter.mpr ⟨List.mem_of_getElem? (i := 303) (by decide +kernel), by decide +kernel⟩
theorem k_304 : Cond.selects "HalfFloats$Format" ⟨"HalfFloats$Format","signed","(ZI)I"⟩ ⟨"HalfFloats$Format","signed","(ZI)I"⟩ ∈ hx_tb := List.mem_filter.mpr ⟨List.mem_of_getElem? (i := 304) (by decide +kernel), by decide +kernel⟩
theorem k_305 : Cond.code y_F_signed b_F_signed 3 (Option.some FieldType.int) ∈ hx_tb := List.mem_filter.mpr ⟨List.mem_of_getElem? (i := 305) (by decide +kernel), by decide +kernel⟩
theorem k_306 : Cond.methodLink "HalfFloats$Rounder" 40 ⟨"HalfFloats$Format","wholeOf","(I)J"⟩ ∈ hx_tb := List.mem_filter.mpr ⟨List.mem_of_getElem? (i := 306) (by decide +kernel), by decide +kernel⟩
theorem k_307 : Cond.methodLink "HalfFloats$Rounder" 44 ⟨"HalfFloats$Format","powerOf","(I)I"⟩ ∈ hx_tb := List.mem_filter.mpr ⟨List.mem_of_getElem? (i := 307) (by decide +kernel), by decide +kernel⟩
theorem k_308 : Cond.methodLink "HalfFloats$Rounder" 47 ⟨"HalfFloats$Rounder","finite","(ZJIZLHalfFloats$Format;I)I"⟩ ∈ hx_tb := List.mem_filter.mpr ⟨List.mem_of_getElem? (i := 308) (by decide +kernel), by decide +kernel⟩
theorem k_310 : Cond.instanceMethod ⟨"HalfFloats$Rounder","finite","(ZJIZLHalfFloats$Format;I)I"⟩ ∈ hx_tb := List.mem_filter.mpr ⟨List.mem_of_getElem? (i := 310) (by decide +kernel), by decide +kernel⟩
theorem k_311 : Cond.code y_D_finite b_D_finite 18 (Option.some FieldType.int) ∈ hx_tb := List.mem_filter.mpr ⟨List.mem_of_getElem? (i := 311) (by decide +kernel), by decide +kernel⟩
theorem k_312 : Cond.methodLink "HalfFloats$Rounder" 90 ⟨"java/lang/Long","numberOfLeadingZeros","(J)I"⟩ ∈ hx_tb := List.mem_filter.mpr ⟨List.mem_of_getElem? (i := 312) (by decide +kernel), by decide +kernel⟩
theorem k_313 : Cond.static ⟨"java/lang/Long","numberOfLeadingZeros","(J)I"⟩ ∈ hx_tb := List.mem_filter.mpr ⟨List.mem_of_getElem? (i := 313) (by decide +kernel), by decide +kernel⟩
theorem k_314 : Cond.code y_JL_numberOfLeadingZeros b_JL_numberOfLeadingZeros 3 (Option.some FieldType.int) ∈ hx_tb := List.mem_filter.mpr ⟨List.mem_of_getElem? (i := 314) (by decide +kernel), by decide +kernel⟩
theorem k_315 : Cond.methodLink "java/lang/Long" 308 ⟨"java/lang/Integer","numberOfLeadingZeros","(I)I"⟩ ∈ hx_tb := List.mem_filter.mpr ⟨List.mem_of_getElem? (i := 315) (by decide +kernel), by decide +kernel⟩
theorem k_316 : Cond.static ⟨"java/lang/Integer","numberOfLeadingZeros","(I)I"⟩ ∈ hx_tb := List.mem_filter.mpr ⟨List.mem_of_getElem? (i := 316) (by decide +kernel), by decide +kernel⟩
theorem k_317 : Cond.code y_JI_numberOfLeadingZeros b_JI_numberOfLeadingZeros 2 (Option.some FieldType.int) ∈ hx_tb := List.mem_filter.mpr ⟨List.mem_of_getElem? (i := 317) (by decide +kernel), by decide +kernel⟩
theorem k_318 : Cond.constant "java/lang/Integer" 264 (65536) ∈ hx_tb := List.mem_filter.mpr ⟨List.mem_of_getElem? (i := 318) (by decide +kernel), by decide +kernel⟩
theorem k_319 : Cond.methodLink "HalfFloats$Rounder" 99 ⟨"java/lang/Math","max","(II)I"⟩ ∈ hx_tb := List.mem_filter.mpr ⟨List.mem_of_getElem? (i := 319) (by decide +kernel), by decide +kernel⟩
theorem k_320 : Cond.methodLink "HalfFloats$Rounder" 108 ⟨"HalfFloats$Rounder","shifted","(JI)J"⟩ ∈ hx_tb := List.mem_filter.mpr ⟨List.mem_of_getElem? (i := 320) (by decide +kernel), by decide +kernel⟩
theorem k_321 : Cond.static ⟨"HalfFloats$Rounder","shifted","(JI)J"⟩ ∈ hx_tb := List.mem_filter.mpr ⟨List.mem_of_getElem? (i := 321) (by decide +kernel), by decide +kernel⟩
theorem k_322 : Cond.code y_D_shifted b_D_shifted 3 (Option.some FieldType.long) ∈ hx_tb := List.mem_filter.mpr ⟨List.mem_of_getElem? (i := 322) (by decide +kernel), by decide +kernel⟩
theorem k_323 : Cond.methodLink "HalfFloats$Rounder" 115 ⟨"HalfFloats$Rounder","draw","()J"⟩ ∈ hx_tb := List.mem_filter.mpr ⟨List.mem_of_getElem? (i := 323) (by decide +kernel), by decide +kernel⟩
theorem k_325 : Cond.instanceMethod ⟨"HalfFloats$Rounder","draw","()J"⟩ ∈ hx_tb := List.mem_filter.mpr ⟨List.mem_of_getElem? (i := 325) (by decide +kernel), by decide +kernel⟩
theorem k_326 : Cond.code y_D_draw b_D_draw 1 (Option.some FieldType.long) ∈ hx_tb := List.mem_filter.mpr ⟨List.mem_of_getElem? (i := 326) (by decide +kernel), by decide +kernel⟩
theorem k_327 : Cond.constantLong "HalfFloats$Rounder" 135 (48271) ∈ hx_tb := List.mem_filter.mpr ⟨List.mem_of_getElem? (i := 327) (by decide +kernel), by decide +kernel⟩
theorem k_328 : Cond.constantLong "HalfFloats$Rounder" 137 (2147483647) ∈ hx_tb := List.mem_filter.mpr ⟨List.mem_of_getElem? (i := 328) (by decide +kernel), by decide +kernel⟩
theorem k_329 : Cond.constantLong "HalfFloats$Rounder" 139 (65535) ∈ hx_tb := List.mem_filter.mpr ⟨List.mem_of_getElem? (i := 329) (by decide +kernel), by decide +kernel⟩
theorem k_330 : Cond.methodLink "HalfFloats$Rounder" 119 ⟨"HalfFloats$Rounder","againstHalf","(JIZ)I"⟩ ∈ hx_tb := List.mem_filter.mpr ⟨List.mem_of_getElem? (i := 330) (by decide +kernel), by decide +kernel⟩
theorem k_331 : Cond.static ⟨"HalfFloats$Rounder","againstHalf","(JIZ)I"⟩ ∈ hx_tb := List.mem_filter.mpr ⟨List.mem_of_getElem? (i := 331) (by decide +kernel), by decide +kernel⟩
theorem k_332 : Cond.code y_D_againstHalf b_D_againstHalf 5 (Option.some FieldType.int) ∈ hx_tb := List.mem_filter.mpr ⟨List.mem_of_getElem? (i := 332) (by decide +kernel), by decide +kernel⟩
theorem k_333 : Cond.methodLink "HalfFloats$Rounder" 131 ⟨"java/lang/Long","compare","(JJ)I"⟩ ∈ hx_tb := List.mem_filter.mpr ⟨List.mem_of_getElem? (i := 333) (by decide +kernel), by decide +kernel⟩
theorem k_334 : Cond.static ⟨"java/lang/Long","compare","(JJ)I"⟩ ∈ hx_tb := List.mem_filter.mpr ⟨List.mem_of_getElem? (i := 334) (by decide +kernel), by decide +kernel⟩
theorem k_335 : Cond.code y_JL_compare b_JL_compare 4 (Option.some FieldType.int) ∈ hx_tb := List.mem_filter.mpr ⟨List.mem_of_getElem? (i := 335) (by decide +kernel), by decide +kernel⟩
theorem k_336 : Cond.methodLink "HalfFloats$Rounder" 123 ⟨"HalfFloats$Rounder","goesFar","(ZZII)Z"⟩ ∈ hx_tb := List.mem_filter.mpr ⟨List.mem_of_getElem? (i := 336) (by decide +kernel), by decide +kernel⟩
theorem k_337 : Cond.static ⟨"HalfFloats$Rounder","goesFar","(ZZII)Z"⟩ ∈ hx_tb := List.mem_filter.mpr ⟨List.mem_of_getElem? (i := 337) (by decide +kernel), by decide +kernel⟩
theorem k_338 : Cond.code y_D_goesFar b_D_goesFar 4 (Option.some FieldType.boolean) ∈ hx_tb := List.mem_filter.mpr ⟨List.mem_of_getElem? (i := 338) (by decide +kernel), by decide +kernel⟩
theorem k_339 : Cond.methodLink "HalfFloats$Rounder" 127 ⟨"HalfFloats$Rounder","stopsShort","(ZI)Z"⟩ ∈ hx_tb := List.mem_filter.mpr ⟨List.mem_of_getElem? (i := 339) (by decide +kernel), by decide +kernel⟩
theorem k_340 : Cond.static ⟨"HalfFloats$Rounder","stopsShort","(ZI)Z"⟩ ∈ hx_tb := List.mem_filter.mpr ⟨List.mem_of_getElem? (i := 340) (by decide +kernel), by decide +kernel⟩
theorem k_341 : Cond.code y_D_stopsShort b_D_stopsShort 2 (Option.some FieldType.boolean) ∈ hx_tb := List.mem_filter.mpr ⟨List.mem_of_getElem? (i := 341) (by decide +kernel), by decide +kernel⟩
theorem k_342 : Cond.methodLink "HalfFloats" 111 ⟨"HalfFloats","bits","(I)J"⟩ ∈ hx_tb := List.mem_filter.mpr ⟨List.mem_of_getElem? (i := 342) (by decide +kernel), by decide +kernel⟩
theorem k_343 : Cond.static ⟨"HalfFloats","bits","(I)J"⟩ ∈ hx_tb := List.mem_filter.mpr ⟨List.mem_of_getElem? (i := 343) (by decide +kernel), by decide +kernel⟩
theorem k_344 : Cond.code y_X_bits b_X_bits 1 (Option.some FieldType.long) ∈ hx_tb := List.mem_filter.mpr ⟨List.mem_of_getElem? (i := 344) (by decide +kernel), by decide +kernel⟩
theorem k_345 : Cond.constantLong "HalfFloats" 213 (4294967295) ∈ hx_tb := List.mem_filter.mpr ⟨List.mem_of_getElem? (i := 345) (by decide +kernel), by decide +kernel⟩
theorem k_346 : Cond.methodLink "HalfFloatsLaw" 33 ⟨"HalfFloats","reckon","(IIIIIII)J"⟩ ∈ hx_tb := List.mem_filter.mpr ⟨List.mem_of_getElem? (i := 346) (by decide +kernel), by decide +kernel⟩
theorem k_347 : Cond.instanceMethod ⟨"HalfFloats","reckon","(IIIIIII)J"⟩ ∈ hx_tb := List.mem_filter.mpr ⟨List.mem_of_getElem? (i := 347) (by decide +kernel), by decide +kernel⟩
theorem k_348 : Cond.selects "HalfFloats" ⟨"HalfFloats","reckon","(IIIIIII)J"⟩ ⟨"HalfFloats","reckon","(IIIIIII)J"⟩ ∈ hx_tb := List.mem_filter.mpr ⟨List.mem_of_getElem? (i := 348) (by decide +kernel), by decide +kernel⟩
theorem k_349 : Cond.code y_X_reckon b_X_reckon 8 (Option.some FieldType.long) ∈ hx_tb := List.mem_filter.mpr ⟨List.mem_of_getElem? (i := 349) (by decide +kernel), by decide +kernel⟩
theorem k_350 : Cond.methodLink "HalfFloats" 114 ⟨"HalfFloats$Exact","begin","()V"⟩ ∈ hx_tb := List.mem_filter.mpr ⟨List.mem_of_getElem? (i := 350) (by decide +kernel), by decide +kernel⟩
theorem k_351 : Cond.instanceMethod ⟨"HalfFloats$Exact","begin","()V"⟩ ∈ hx_tb := List.mem_filter.mpr ⟨List.mem_of_getElem? (i := 351) (by decide +kernel), by decide +kernel⟩
theorem k_352 : Cond.selects "HalfFloats$Exact" ⟨"HalfFloats$Exact","begin","()V"⟩ ⟨"HalfFloats$Exact","begin","()V"⟩ ∈ hx_tb := List.mem_filter.mpr ⟨List.mem_of_getElem? (i := 352) (by decide +kernel), by decide +kernel⟩
theorem k_353 : Cond.code y_E_begin b_E_begin 1 none ∈ hx_tb := List.mem_filter.mpr ⟨List.mem_of_getElem? (i := 353) (by decide +kernel), by decide +kernel⟩
theorem k_354 : Cond.methodLink "HalfFloats" 117 ⟨"HalfFloats$Exact","addProduct","(LHalfFloats$Format;ILHalfFloats$Format;I)V"⟩ ∈ hx_tb := List.mem_filter.mpr ⟨List.mem_of_getElem? (i := 354) (by decide +kernel), by decide +kernel⟩
theorem k_355 : Cond.instanceMethod ⟨"HalfFloats$Exact","addProduct","(LHalfFloats$Format;ILHalfFloats$Format;I)V"⟩ ∈ hx_tb := List.mem_filter.mpr ⟨List.mem_of_getElem? (i := 355) (by decide +kernel), by decide +kernel⟩
theorem k_356 : Cond.selects "HalfFloats$Exact" ⟨"HalfFloats$Exact","addProduct","(LHalfFloats$Format;ILHalfFloats$Format;I)V"⟩ ⟨"HalfFloats$Exact","addProduct","(LHalfFloats$Format;ILHalfFloats$Format;I)V"⟩ ∈ hx_tb := List.mem_filter.mpr ⟨List.mem_of_getElem? (i := 356) (by decide +kernel), by decide +kernel⟩
theorem k_357 : Cond.code y_E_addProduct b_E_addProduct 8 none ∈ hx_tb := List.mem_filter.mpr ⟨List.mem_of_getElem? (i := 357) (by decide +kernel), by decide +kernel⟩
theorem k_358 : Cond.methodLink "HalfFloats$Exact" 51 ⟨"HalfFloats$Format","sortOf","(I)I"⟩ ∈ hx_tb := List.mem_filter.mpr ⟨List.mem_of_getElem? (i := 358) (by decide +kernel), by decide +kernel⟩
theorem k_359 : Cond.methodLink "HalfFloats$Exact" 57 ⟨"HalfFloats$Format","isNegative","(I)Z"⟩ ∈ hx_tb := List.mem_filter.mpr ⟨List.mem_of_getElem? (i := 359) (by decide +kernel), by decide +kernel⟩
theorem k_360 : Cond.methodLink "HalfFloats$Exact" 65 ⟨"HalfFloats$Format","wholeOf","(I)J"⟩ ∈ hx_tb := List.mem_filter.mpr ⟨List.mem_of_getElem? (i := 360) (by decide +kernel), by decide +kernel⟩
theorem k_361 : Cond.methodLink "HalfFloats$Exact" 69 ⟨"HalfFloats$Format","powerOf","(I)I"⟩ ∈ hx_tb := List.mem_filter.mpr ⟨List.mem_of_getElem? (i := 361) (by decide +kernel), by decide +kernel⟩
theorem k_362 : Cond.methodLink "HalfFloats$Exact" 72 ⟨"HalfFloats$Exact","addFinite","(ZJI)V"⟩ ∈ hx_tb := List.mem_filter.mpr ⟨List.mem_of_getElem? (i := 362) (by decide +kernel), by decide +kernel⟩
theorem k_364 : Cond.instanceMethod ⟨"HalfFloats$Exact","addFinite","(ZJI)V"⟩ ∈ hx_tb := List.mem_filter.mpr ⟨List.mem_of_getElem? (i := 364) (by decide +kernel), by decide +kernel⟩
theorem k_365 : Cond.code y_E_addFinite b_E_addFinite 5 none ∈ hx_tb := List.mem_filter.mpr ⟨List.mem_of_getElem? (i := 365) (by decide +kernel), by decide +kernel⟩
theorem k_366 : Cond.methodLink "HalfFloats$Exact" 76 ⟨"java/util/Arrays","fill","([JJ)V"⟩ ∈ hx_tb := List.mem_filter.mpr ⟨List.mem_of_getElem? (i := 366) (by decide +kernel), by decide +kernel⟩
theorem k_367 : Cond.static ⟨"java/util/Arrays","fill","([JJ)V"⟩ ∈ hx_tb := List.mem_filter.mpr ⟨List.mem_of_getElem? (i := 367) (by decide +kernel), by decide +kernel⟩
theorem k_368 : Cond.code y_JA_fill b_JA_fill 5 none ∈ hx_tb := List.mem_filter.mpr ⟨List.mem_of_getElem? (i := 368) (by decide +kernel), by decide +kernel⟩
theorem k_369 : Cond.methodLink "HalfFloats$Exact" 82 ⟨"HalfFloats$Exact","spread","(ZJI)V"⟩ ∈ hx_tb := List.mem_filter.mpr ⟨List.mem_of_getElem? (i := 369) (by decide +kernel), by decide +kernel⟩
theorem k_371 : Cond.instanceMethod ⟨"HalfFloats$Exact","spread","(ZJI)V"⟩ ∈ hx_tb := List.mem_filter.mpr ⟨List.mem_of_getElem? (i := 371) (by decide +kernel), by decide +kernel⟩
theorem k_372 : Cond.code y_E_spread b_E_spread 14 none ∈ hx_tb := List.mem_filter.mpr ⟨List.mem_of_getElem? (i := 372) (by decide +kernel), by decide +kernel⟩
theorem k_373 : Cond.constantLong "HalfFloats$Exact" 85 (4294967295) ∈ hx_tb := List.mem_filter.mpr ⟨List.mem_of_getElem? (i := 373) (by decide +kernel), by decide +kernel⟩
theorem k_374 : Cond.constantLong "HalfFloats$Exact" 87 (-1) ∈ hx_tb := List.mem_filter.mpr ⟨List.mem_of_getElem? (i := 374) (by decide +kernel), by decide +kernel⟩
theorem k_375 : Cond.methodLink "HalfFloats$Exact" 61 ⟨"HalfFloats$Exact","noteInfinite","(Z)V"⟩ ∈ hx_tb := List.mem_filter.mpr ⟨List.mem_of_getElem? (i := 375) (by decide +kernel), by decide +kernel⟩
theorem k_377 : Cond.instanceMethod ⟨"HalfFloats$Exact","noteInfinite","(Z)V"⟩ ∈ hx_tb := List.mem_filter.mpr ⟨List.mem_of_getElem? (i := 377) (by decide +kernel), by decide +kernel⟩
theorem k_378 : Cond.code y_E_noteInfinite b_E_noteInfinite 2 none ∈ hx_tb := List.mem_filter.mpr ⟨List.mem_of_getElem? (i := 378) (by decide +kernel), by decide +kernel⟩
theorem k_379 : Cond.methodLink "HalfFloats" 121 ⟨"HalfFloats$Exact","addValue","(LHalfFloats$Format;IZ)V"⟩ ∈ hx_tb := List.mem_filter.mpr ⟨List.mem_of_getElem? (i := 379) (by decide +kernel), by decide +kernel⟩
theorem k_380 : Cond.instanceMethod ⟨"HalfFloats$Exact","addValue","(LHalfFloats$Format;IZ)V"⟩ ∈ hx_tb := List.mem_filter.mpr ⟨List.mem_of_getElem? (i := 380) (by decide +kernel), by decide +kernel⟩
theorem k_381 : Cond.selects "HalfFloats$Exact" ⟨"HalfFloats$Exact","addValue","(LHalfFloats$Format;IZ)V"⟩ ⟨"HalfFloats$Exact","addValue","(LHalfFloats$Format;IZ)V"⟩ ∈ hx_tb := List.mem_filter.mpr ⟨List.mem_of_getElem? (i := 381) (by decide +kernel), by decide +kernel⟩
theorem k_382 : Cond.code y_E_addValue b_E_addValue 6 none ∈ hx_tb := List.mem_filter.mpr ⟨List.mem_of_getElem? (i := 382) (by decide +kernel), by decide +kernel⟩
theorem k_383 : Cond.methodLink "HalfFloats" 125 ⟨"HalfFloats$Rounder","rounded","(LHalfFloats$Exact;LHalfFloats$Format;I)I"⟩ ∈ hx_tb := List.mem_filter.mpr ⟨List.mem_of_getElem? (i := 383) (by decide +kernel), by decide +kernel⟩
theorem k_384 : Cond.instanceMethod ⟨"HalfFloats$Rounder","rounded","(LHalfFloats$Exact;LHalfFloats$Format;I)I"⟩ ∈ hx_tb := List.mem_filter.mpr ⟨List.mem_of_getElem? (i := 384) (by decide +kernel), by decide +kernel⟩
theorem k_385 : Cond.selects "HalfFloats$Rounder" ⟨"HalfFloats$Rounder","rounded","(LHalfFloats$Exact;LHalfFloats$Format;I)I"⟩ ⟨"HalfFloats$Rounder","rounded","(LHalfFloats$Exact;LHalfFloats$Format;I)I"⟩ ∈ hx_tb := List.mem_filter.mpr ⟨List.mem_of_getElem? (i := 385) (by decide +kernel), by decide +kernel⟩
theorem k_386 : Cond.code y_D_rounded b_D_rounded 4 (Option.some FieldType.int) ∈ hx_tb := List.mem_filter.mpr ⟨List.mem_of_getElem? (i := 386) (by decide +kernel), by decide +kernel⟩
theorem k_387 : Cond.methodLink "HalfFloats$Rounder" 66 ⟨"HalfFloats$Exact","settle","()V"⟩ ∈ hx_tb := List.mem_filter.mpr ⟨List.mem_of_getElem? (i := 387) (by decide +kernel), by decide +kernel⟩
theorem k_388 : Cond.instanceMethod ⟨"HalfFloats$Exact","settle","()V"⟩ ∈ hx_tb := List.mem_filter.mpr ⟨List.mem_of_getElem? (i := 388) (by decide +kernel), by decide +kernel⟩
theorem k_389 : Cond.selects "HalfFloats$Exact" ⟨"HalfFloats$Exact","settle","()V"⟩ ⟨"HalfFloats$Exact","settle","()V"⟩ ∈ hx_tb := List.mem_filter.mpr ⟨List.mem_of_getElem? (i := 389) (by decide +kernel), by decide +kernel⟩
theorem k_390 : Cond.code y_E_settle b_E_settle 2 none ∈ hx_tb := List.mem_filter.mpr ⟨List.mem_of_getElem? (i := 390) (by decide +kernel), by decide +kernel⟩
theorem k_391 : Cond.methodLink "HalfFloats$Exact" 89 ⟨"HalfFloats$Exact","carry","(I)J"⟩ ∈ hx_tb := List.mem_filter.mpr ⟨List.mem_of_getElem? (i := 391) (by decide +kernel), by decide +kernel⟩
theorem k_393 : Cond.instanceMethod ⟨"HalfFloats$Exact","carry","(I)J"⟩ ∈ hx_tb := List.mem_filter.mpr ⟨List.mem_of_getElem? (i := 393) (by decide +kernel), by decide +kernel⟩
theorem k_394 : Cond.code y_E_carry b_E_carry 7 (Option.some FieldType.long) ∈ hx_tb := List.mem_filter.mpr ⟨List.mem_of_getElem? (i := 394) (by decide +kernel), by decide +kernel⟩
theorem k_395 : Cond.methodLink "HalfFloats$Exact" 92 ⟨"HalfFloats$Exact","take","(I)V"⟩ ∈ hx_tb := List.mem_filter.mpr ⟨List.mem_of_getElem? (i := 395) (by decide +kernel), by decide +kernel⟩
theorem k_397 : Cond.instanceMethod ⟨"HalfFloats$Exact","take","(I)V"⟩ ∈ hx_tb := List.mem_filter.mpr ⟨List.mem_of_getElem? (i := 397) (by decide +kernel), by decide +kernel⟩
theorem k_398 : Cond.code y_E_take b_E_take 6 none ∈ hx_tb := List.mem_filter.mpr ⟨List.mem_of_getElem? (i := 398) (by decide +kernel), by decide +kernel⟩
theorem k_399 : Cond.methodLink "HalfFloats$Exact" 96 ⟨"java/lang/Long","numberOfLeadingZeros","(J)I"⟩ ∈ hx_tb := List.mem_filter.mpr ⟨List.mem_of_getElem? (i := 399) (by decide +kernel), by decide +kernel⟩
theorem k_400 : Cond.methodLink "HalfFloats$Exact" 102 ⟨"java/lang/Math","max","(II)I"⟩ ∈ hx_tb := List.mem_filter.mpr ⟨List.mem_of_getElem? (i := 400) (by decide +kernel), by decide +kernel⟩
theorem k_401 : Cond.methodLink "HalfFloats$Rounder" 72 ⟨"HalfFloats$Exact","zeroIsNegative","(I)Z"⟩ ∈ hx_tb := List.mem_filter.mpr ⟨List.mem_of_getElem? (i := 401) (by decide +kernel), by decide +kernel⟩
theorem k_402 : Cond.instanceMethod ⟨"HalfFloats$Exact","zeroIsNegative","(I)Z"⟩ ∈ hx_tb := List.mem_filter.mpr ⟨List.mem_of_getElem? (i := 402) (by decide +kernel), by decide +kernel⟩
theorem k_403 : Cond.selects "HalfFloats$Exact" ⟨"HalfFloats$Exact","zeroIsNegative","(I)Z"⟩ ⟨"HalfFloats$Exact","zeroIsNegative","(I)Z"⟩ ∈ hx_tb := List.mem_filter.mpr ⟨List.mem_of_getElem? (i := 403) (by decide +kernel), by decide +kernel⟩
theorem k_404 : Cond.code y_E_zeroIsNegative b_E_zeroIsNegative 2 (Option.some FieldType.boolean) ∈ hx_tb := List.mem_filter.mpr ⟨List.mem_of_getElem? (i := 404) (by decide +kernel), by decide +kernel⟩
theorem k_405 : Cond.methodLink "HalfFloatsLaw" 38 ⟨"HalfFloats","fused","(IIIIII)J"⟩ ∈ hx_tb := List.mem_filter.mpr ⟨List.mem_of_getElem? (i := 405) (by decide +kernel), by decide +kernel⟩
theorem k_406 : Cond.instanceMethod ⟨"HalfFloats","fused","(IIIIII)J"⟩ ∈ hx_tb := List.mem_filter.mpr ⟨List.mem_of_getElem? (i := 406) (by decide +kernel), by decide +kernel⟩
theorem k_407 : Cond.selects "HalfFloats" ⟨"HalfFloats","fused","(IIIIII)J"⟩ ⟨"HalfFloats","fused","(IIIIII)J"⟩ ∈ hx_tb := List.mem_filter.mpr ⟨List.mem_of_getElem? (i := 407) (by decide +kernel), by decide +kernel⟩
theorem k_408 : Cond.code y_X_fused b_X_fused 7 (Option.some FieldType.long) ∈ hx_tb := List.mem_filter.mpr ⟨List.mem_of_getElem? (i := 408) (by decide +kernel), by decide +kernel⟩
theorem k_409 : Cond.methodLink "HalfFloatsLaw" 43 ⟨"HalfFloats","compare","(IIII)I"⟩ ∈ hx_tb := List.mem_filter.mpr ⟨List.mem_of_getElem? (i := 409) (by decide +kernel), by decide +kernel⟩
theorem k_410 : Cond.instanceMethod ⟨"HalfFloats","compare","(IIII)I"⟩ ∈ hx_tb := List.mem_filter.mpr ⟨List.mem_of_getElem? (i := 410) (by decide +kernel), by decide +kernel⟩
theorem k_411 : Cond.selects "HalfFloats" ⟨"HalfFloats","compare","(IIII)I"⟩ ⟨"HalfFloats","compare","(IIII)I"⟩ ∈ hx_tb := List.mem_filter.mpr ⟨List.mem_of_getElem? (i := 411) (by decide +kernel), by decide +kernel⟩
theorem k_412 : Cond.code y_X_compare b_X_compare 5 (Option.some FieldType.int) ∈ hx_tb := List.mem_filter.mpr ⟨List.mem_of_getElem? (i := 412) (by decide +kernel), by decide +kernel⟩
theorem k_413 : Cond.methodLink "HalfFloats" 133 ⟨"HalfFloats$Exact","side","()I"⟩ ∈ hx_tb := List.mem_filter.mpr ⟨List.mem_of_getElem? (i := 413) (by decide +kernel), by decide +kernel⟩
theorem k_414 : Cond.instanceMethod ⟨"HalfFloats$Exact","side","()I"⟩ ∈ hx_tb := List.mem_filter.mpr ⟨List.mem_of_getElem? (i := 414) (by decide +kernel), by decide +kernel⟩
theorem k_415 : Cond.selects "HalfFloats$Exact" ⟨"HalfFloats$Exact","side","()I"⟩ ⟨"HalfFloats$Exact","side","()I"⟩ ∈ hx_tb := List.mem_filter.mpr ⟨List.mem_of_getElem? (i := 415) (by decide +kernel), by decide +kernel⟩
theorem k_416 : Cond.code y_E_side b_E_side 1 (Option.some FieldType.int) ∈ hx_tb := List.mem_filter.mpr ⟨List.mem_of_getElem? (i := 416) (by decide +kernel), by decide +kernel⟩
theorem k_417 : Cond.methodLink "HalfFloats$Exact" 108 ⟨"HalfFloats$Exact","settle","()V"⟩ ∈ hx_tb := List.mem_filter.mpr ⟨List.mem_of_getElem? (i := 417) (by decide +kernel), by decide +kernel⟩
theorem k_418 : Cond.methodLink "HalfFloatsLaw" 47 ⟨"HalfFloats","flags","()I"⟩ ∈ hx_tb := List.mem_filter.mpr ⟨List.mem_of_getElem? (i := 418) (by decide +kernel), by decide +kernel⟩
theorem k_419 : Cond.instanceMethod ⟨"HalfFloats","flags","()I"⟩ ∈ hx_tb := List.mem_filter.mpr ⟨List.mem_of_getElem? (i := 419) (by decide +kernel), by decide +kernel⟩
theorem k_420 : Cond.selects "HalfFloats" ⟨"HalfFloats","flags","()I"⟩ ⟨"HalfFloats","flags","()I"⟩ ∈ hx_tb := List.mem_filter.mpr ⟨List.mem_of_getElem? (i := 420) (by decide +kernel), by decide +kernel⟩
theorem k_421 : Cond.code y_X_flags b_X_flags 2 (Option.some FieldType.int) ∈ hx_tb := List.mem_filter.mpr ⟨List.mem_of_getElem? (i := 421) (by decide +kernel), by decide +kernel⟩
theorem k_422 : Cond.methodLink "HalfFloatsLaw" 52 ⟨"HalfFloats","seed","(I)I"⟩ ∈ hx_tb := List.mem_filter.mpr ⟨List.mem_of_getElem? (i := 422) (by decide +kernel), by decide +kernel⟩
theorem k_423 : Cond.instanceMethod ⟨"HalfFloats","seed","(I)I"⟩ ∈ hx_tb := List.mem_filter.mpr ⟨List.mem_of_getElem? (i := 423) (by decide +kernel), by decide +kernel⟩
theorem k_424 : Cond.selects "HalfFloats" ⟨"HalfFloats","seed","(I)I"⟩ ⟨"HalfFloats","seed","(I)I"⟩ ∈ hx_tb := List.mem_filter.mpr ⟨List.mem_of_getElem? (i := 424) (by decide +kernel), by decide +kernel⟩
theorem k_425 : Cond.code y_X_seed b_X_seed 3 (Option.some FieldType.int) ∈ hx_tb := List.mem_filter.mpr ⟨List.mem_of_getElem? (i := 425) (by decide +kernel), by decide +kernel⟩
theorem k_426 : Cond.constant "HalfFloats" 140 (2147483646) ∈ hx_tb := List.mem_filter.mpr ⟨List.mem_of_getElem? (i := 426) (by decide +kernel), by decide +kernel⟩
theorem k_427 : Cond.methodLink "HalfFloatsLaw" 57 ⟨"HalfFloats","clear","(II)I"⟩ ∈ hx_tb := List.mem_filter.mpr ⟨List.mem_of_getElem? (i := 427) (by decide +kernel), by decide +kernel⟩
theorem k_428 : Cond.instanceMethod ⟨"HalfFloats","clear","(II)I"⟩ ∈ hx_tb := List.mem_filter.mpr ⟨List.mem_of_getElem? (i := 428) (by decide +kernel), by decide +kernel⟩
theorem k_429 : Cond.selects "HalfFloats" ⟨"HalfFloats","clear","(II)I"⟩ ⟨"HalfFloats","clear","(II)I"⟩ ∈ hx_tb := List.mem_filter.mpr ⟨List.mem_of_getElem? (i := 429) (by decide +kernel), by decide +kernel⟩
theorem k_430 : Cond.code y_X_clear b_X_clear 5 (Option.some FieldType.int) ∈ hx_tb := List.mem_filter.mpr ⟨List.mem_of_getElem? (i := 430) (by decide +kernel), by decide +kernel⟩
theorem k_431 : Cond.methodLink "HalfFloats" 145 ⟨"HalfFloats","isRow","(I)Z"⟩ ∈ hx_tb := List.mem_filter.mpr ⟨List.mem_of_getElem? (i := 431) (by decide +kernel), by decide +kernel⟩
theorem k_432 : Cond.static ⟨"HalfFloats","isRow","(I)Z"⟩ ∈ hx_tb := List.mem_filter.mpr ⟨List.mem_of_getElem? (i := 432) (by decide +kernel), by decide +kernel⟩
theorem k_433 : Cond.code y_X_isRow b_X_isRow 1 (Option.some FieldType.boolean) ∈ hx_tb := List.mem_filter.mpr ⟨List.mem_of_getElem? (i := 433) (by decide +kernel), by decide +kernel⟩
theorem k_434 : Cond.methodLink "HalfFloats" 148 ⟨"HalfFloats","rowOf","(I)LHalfFloats$Row;"⟩ ∈ hx_tb := List.mem_filter.mpr ⟨List.mem_of_getElem? (i := 434) (by decide +kernel), by decide +kernel⟩
theorem k_436 : Cond.instanceMethod ⟨"HalfFloats","rowOf","(I)LHalfFloats$Row;"⟩ ∈ hx_tb := List.mem_filter.mpr ⟨List.mem_of_getElem? (i := 436) (by decide +kernel), by decide +kernel⟩
theorem k_437 : Cond.code y_X_rowOf b_X_rowOf 2 (Option.some (FieldType.object "HalfFloats$Row")) ∈ hx_tb := List.mem_filter.mpr ⟨List.mem_of_getElem? (i := 437) (by decide +kernel), by decide +kernel⟩
theorem k_438 : Cond.methodLink "HalfFloatsLaw" 61 ⟨"HalfFloats","push","(II)I"⟩ ∈ hx_tb := List.mem_filter.mpr ⟨List.mem_of_getElem? (i := 438) (by decide +kernel), by decide +kernel⟩
theorem k_439 : Cond.instanceMethod ⟨"HalfFloats","push","(II)I"⟩ ∈ hx_tb := List.mem_filter.mpr ⟨List.mem_of_getElem? (i := 439) (by decide +kernel), by decide +kernel⟩
theorem k_440 : Cond.selects "HalfFloats" ⟨"HalfFloats","push","(II)I"⟩ ⟨"HalfFloats","push","(II)I"⟩ ∈ hx_tb := List.mem_filter.mpr ⟨List.mem_of_getElem? (i := 440) (by decide +kernel), by decide +kernel⟩
theorem k_441 : Cond.code y_X_push b_X_push 4 (Option.some FieldType.int) ∈ hx_tb := List.mem_filter.mpr ⟨List.mem_of_getElem? (i := 441) (by decide +kernel), by decide +kernel⟩
theorem k_442 : Cond.methodLink "HalfFloatsLaw" 65 ⟨"HalfFloats","at","(II)J"⟩ ∈ hx_tb := List.mem_filter.mpr ⟨List.mem_of_getElem? (i := 442) (by decide +kernel), by decide +kernel⟩
theorem k_443 : Cond.instanceMethod ⟨"HalfFloats","at","(II)J"⟩ ∈ hx_tb := List.mem_filter.mpr ⟨List.mem_of_getElem? (i := 443) (by decide +kernel), by decide +kernel⟩
theorem k_444 : Cond.selects "HalfFloats" ⟨"HalfFloats","at","(II)J"⟩ ⟨"HalfFloats","at","(II)J"⟩ ∈ hx_tb := List.mem_filter.mpr ⟨List.mem_of_getElem? (i := 444) (by decide +kernel), by decide +kernel⟩
theorem k_445 : Cond.code y_X_at b_X_at 3 (Option.some FieldType.long) ∈ hx_tb := List.mem_filter.mpr ⟨List.mem_of_getElem? (i := 445) (by decide +kernel), by decide +kernel⟩
theorem k_446 : Cond.methodLink "HalfFloats" 161 ⟨"HalfFloats$Row","has","(I)Z"⟩ ∈ hx_tb := List.mem_filter.mpr ⟨List.mem_of_getElem? (i := 446) (by decide +kernel), by decide +kernel⟩
theorem k_447 : Cond.instanceMethod ⟨"HalfFloats$Row","has","(I)Z"⟩ ∈ hx_tb := List.mem_filter.mpr ⟨List.mem_of_getElem? (i := 447) (by decide +kernel), by decide +kernel⟩
theorem k_448 : Cond.selects "HalfFloats$Row" ⟨"HalfFloats$Row","has","(I)Z"⟩ ⟨"HalfFloats$Row","has","(I)Z"⟩ ∈ hx_tb := List.mem_filter.mpr ⟨List.mem_of_getElem? (i := 448) (by decide +kernel), by decide +kernel⟩
theorem k_449 : Cond.code y_R_has b_R_has 2 (Option.some FieldType.boolean) ∈ hx_tb := List.mem_filter.mpr ⟨List.mem_of_getElem? (i := 449) (by decide +kernel), by decide +kernel⟩
theorem k_450 : Cond.methodLink "HalfFloatsLaw" 70 ⟨"HalfFloats","count","(I)I"⟩ ∈ hx_tb := List.mem_filter.mpr ⟨List.mem_of_getElem? (i := 450) (by decide +kernel), by decide +kernel⟩
theorem k_451 : Cond.instanceMethod ⟨"HalfFloats","count","(I)I"⟩ ∈ hx_tb := List.mem_filter.mpr ⟨List.mem_of_getElem? (i := 451) (by decide +kernel), by decide +kernel⟩
theorem k_452 : Cond.selects "HalfFloats" ⟨"HalfFloats","count","(I)I"⟩ ⟨"HalfFloats","count","(I)I"⟩ ∈ hx_tb := List.mem_filter.mpr ⟨List.mem_of_getElem? (i := 452) (by decide +kernel), by decide +kernel⟩
theorem k_453 : Cond.code y_X_count b_X_count 2 (Option.some FieldType.int) ∈ hx_tb := List.mem_filter.mpr ⟨List.mem_of_getElem? (i := 453) (by decide +kernel), by decide +kernel⟩
theorem k_454 : Cond.methodLink "HalfFloatsLaw" 74 ⟨"HalfFloats","sum","(IIII)J"⟩ ∈ hx_tb := List.mem_filter.mpr ⟨List.mem_of_getElem? (i := 454) (by decide +kernel), by decide +kernel⟩
theorem k_455 : Cond.instanceMethod ⟨"HalfFloats","sum","(IIII)J"⟩ ∈ hx_tb := List.mem_filter.mpr ⟨List.mem_of_getElem? (i := 455) (by decide +kernel), by decide +kernel⟩
theorem k_456 : Cond.selects "HalfFloats" ⟨"HalfFloats","sum","(IIII)J"⟩ ⟨"HalfFloats","sum","(IIII)J"⟩ ∈ hx_tb := List.mem_filter.mpr ⟨List.mem_of_getElem? (i := 456) (by decide +kernel), by decide +kernel⟩
theorem k_457 : Cond.code y_X_sum b_X_sum 7 (Option.some FieldType.long) ∈ hx_tb := List.mem_filter.mpr ⟨List.mem_of_getElem? (i := 457) (by decide +kernel), by decide +kernel⟩
theorem k_458 : Cond.methodLink "HalfFloats" 164 ⟨"HalfFloats","sumFromLeft","(LHalfFloats$Row;LHalfFloats$Format;I)I"⟩ ∈ hx_tb := List.mem_filter.mpr ⟨List.mem_of_getElem? (i := 458) (by decide +kernel), by decide +kernel⟩
theorem k_460 : Cond.instanceMethod ⟨"HalfFloats","sumFromLeft","(LHalfFloats$Row;LHalfFloats$Format;I)I"⟩ ∈ hx_tb := List.mem_filter.mpr ⟨List.mem_of_getElem? (i := 460) (by decide +kernel), by decide +kernel⟩
theorem k_461 : Cond.code y_X_sumFromLeft b_X_sumFromLeft 7 (Option.some FieldType.int) ∈ hx_tb := List.mem_filter.mpr ⟨List.mem_of_getElem? (i := 461) (by decide +kernel), by decide +kernel⟩
theorem k_462 : Cond.methodLink "HalfFloats" 215 ⟨"HalfFloats","plus","(LHalfFloats$Format;ILHalfFloats$Format;II)I"⟩ ∈ hx_tb := List.mem_filter.mpr ⟨List.mem_of_getElem? (i := 462) (by decide +kernel), by decide +kernel⟩
theorem k_464 : Cond.instanceMethod ⟨"HalfFloats","plus","(LHalfFloats$Format;ILHalfFloats$Format;II)I"⟩ ∈ hx_tb := List.mem_filter.mpr ⟨List.mem_of_getElem? (i := 464) (by decide +kernel), by decide +kernel⟩
theorem k_465 : Cond.code y_X_plus b_X_plus 6 (Option.some FieldType.int) ∈ hx_tb := List.mem_filter.mpr ⟨List.mem_of_getElem? (i := 465) (by decide +kernel), by decide +kernel⟩
theorem k_466 : Cond.methodLink "HalfFloats" 168 ⟨"HalfFloats","sumAsTree","(LHalfFloats$Row;LHalfFloats$Format;I)I"⟩ ∈ hx_tb := List.mem_filter.mpr ⟨List.mem_of_getElem? (i := 466) (by decide +kernel), by decide +kernel⟩
theorem k_468 : Cond.instanceMethod ⟨"HalfFloats","sumAsTree","(LHalfFloats$Row;LHalfFloats$Format;I)I"⟩ ∈ hx_tb := List.mem_filter.mpr ⟨List.mem_of_getElem? (i := 468) (by decide +kernel), by decide +kernel⟩
theorem k_469 : Cond.code y_X_sumAsTree b_X_sumAsTree 5 (Option.some FieldType.int) ∈ hx_tb := List.mem_filter.mpr ⟨List.mem_of_getElem? (i := 469) (by decide +kernel), by decide +kernel⟩
theorem k_470 : Cond.methodLink "HalfFloats" 219 ⟨"HalfFloats","pairUp","(ILHalfFloats$Format;I)V"⟩ ∈ hx_tb := List.mem_filter.mpr ⟨List.mem_of_getElem? (i := 470) (by decide +kernel), by decide +kernel⟩
theorem k_472 : Cond.instanceMethod ⟨"HalfFloats","pairUp","(ILHalfFloats$Format;I)V"⟩ ∈ hx_tb := List.mem_filter.mpr ⟨List.mem_of_getElem? (i := 472) (by decide +kernel), by decide +kernel⟩
theorem k_473 : Cond.code y_X_pairUp b_X_pairUp 5 none ∈ hx_tb := List.mem_filter.mpr ⟨List.mem_of_getElem? (i := 473) (by decide +kernel), by decide +kernel⟩
theorem k_474 : Cond.methodLink "HalfFloats" 171 ⟨"HalfFloats","sumAtOnce","(LHalfFloats$Row;LHalfFloats$Format;I)I"⟩ ∈ hx_tb := List.mem_filter.mpr ⟨List.mem_of_getElem? (i := 474) (by decide +kernel), by decide +kernel⟩
theorem k_476 : Cond.instanceMethod ⟨"HalfFloats","sumAtOnce","(LHalfFloats$Row;LHalfFloats$Format;I)I"⟩ ∈ hx_tb := List.mem_filter.mpr ⟨List.mem_of_getElem? (i := 476) (by decide +kernel), by decide +kernel⟩
theorem k_477 : Cond.code y_X_sumAtOnce b_X_sumAtOnce 5 (Option.some FieldType.int) ∈ hx_tb := List.mem_filter.mpr ⟨List.mem_of_getElem? (i := 477) (by decide +kernel), by decide +kernel⟩
theorem k_478 : Cond.methodLink "HalfFloatsLaw" 78 ⟨"HalfFloats","dot","(IIII)J"⟩ ∈ hx_tb := List.mem_filter.mpr ⟨List.mem_of_getElem? (i := 478) (by decide +kernel), by decide +kernel⟩
theorem k_479 : Cond.instanceMethod ⟨"HalfFloats","dot","(IIII)J"⟩ ∈ hx_tb := List.mem_filter.mpr ⟨List.mem_of_getElem? (i := 479) (by decide +kernel), by decide +kernel⟩
theorem k_480 : Cond.selects "HalfFloats" ⟨"HalfFloats","dot","(IIII)J"⟩ ⟨"HalfFloats","dot","(IIII)J"⟩ ∈ hx_tb := List.mem_filter.mpr ⟨List.mem_of_getElem? (i := 480) (by decide +kernel), by decide +kernel⟩
theorem k_481 : Cond.code y_X_dot b_X_dot 5 (Option.some FieldType.long) ∈ hx_tb := List.mem_filter.mpr ⟨List.mem_of_getElem? (i := 481) (by decide +kernel), by decide +kernel⟩
theorem k_482 : Cond.methodLink "HalfFloats" 174 ⟨"HalfFloats","productsAtOnce","(LHalfFloats$Format;I)I"⟩ ∈ hx_tb := List.mem_filter.mpr ⟨List.mem_of_getElem? (i := 482) (by decide +kernel), by decide +kernel⟩
theorem k_484 : Cond.instanceMethod ⟨"HalfFloats","productsAtOnce","(LHalfFloats$Format;I)I"⟩ ∈ hx_tb := List.mem_filter.mpr ⟨List.mem_of_getElem? (i := 484) (by decide +kernel), by decide +kernel⟩
theorem k_485 : Cond.code y_X_productsAtOnce b_X_productsAtOnce 5 (Option.some FieldType.int) ∈ hx_tb := List.mem_filter.mpr ⟨List.mem_of_getElem? (i := 485) (by decide +kernel), by decide +kernel⟩
theorem k_486 : Cond.methodLink "HalfFloats" 196 ⟨"java/lang/Math","min","(II)I"⟩ ∈ hx_tb := List.mem_filter.mpr ⟨List.mem_of_getElem? (i := 486) (by decide +kernel), by decide +kernel⟩
theorem k_487 : Cond.static ⟨"java/lang/Math","min","(II)I"⟩ ∈ hx_tb := List.mem_filter.mpr ⟨List.mem_of_getElem? (i := 487) (by decide +kernel), by decide +kernel⟩
theorem k_488 : Cond.code y_JM_min b_JM_min 2 (Option.some FieldType.int) ∈ hx_tb := List.mem_filter.mpr ⟨List.mem_of_getElem? (i := 488) (by decide +kernel), by decide +kernel⟩
theorem k_489 : Cond.methodLink "HalfFloats" 223 ⟨"HalfFloats","addProductAt","(I)V"⟩ ∈ hx_tb := List.mem_filter.mpr ⟨List.mem_of_getElem? (i := 489) (by decide +kernel), by decide +kernel⟩
theorem k_491 : Cond.instanceMethod ⟨"HalfFloats","addProductAt","(I)V"⟩ ∈ hx_tb := List.mem_filter.mpr ⟨List.mem_of_getElem? (i := 491) (by decide +kernel), by decide +kernel⟩
theorem k_492 : Cond.code y_X_addProductAt b_X_addProductAt 2 none ∈ hx_tb := List.mem_filter.mpr ⟨List.mem_of_getElem? (i := 492) (by decide +kernel), by decide +kernel⟩
theorem k_493 : Cond.methodLink "HalfFloats" 178 ⟨"HalfFloats","productsInPieces","(ILHalfFloats$Format;LHalfFloats$Format;I)I"⟩ ∈ hx_tb := List.mem_filter.mpr ⟨List.mem_of_getElem? (i := 493) (by decide +kernel), by decide +kernel⟩
theorem k_495 : Cond.instanceMethod ⟨"HalfFloats","productsInPieces","(ILHalfFloats$Format;LHalfFloats$Format;I)I"⟩ ∈ hx_tb := List.mem_filter.mpr ⟨List.mem_of_getElem? (i := 495) (by decide +kernel), by decide +kernel⟩
theorem k_496 : Cond.code y_X_productsInPieces b_X_productsInPieces 10 (Option.some FieldType.int) ∈ hx_tb := List.mem_filter.mpr ⟨List.mem_of_getElem? (i := 496) (by decide +kernel), by decide +kernel⟩
theorem k_497 : Cond.methodLink "HalfFloatsLaw" 82 ⟨"HalfFloats","scale","(I)I"⟩ ∈ hx_tb := List.mem_filter.mpr ⟨List.mem_of_getElem? (i := 497) (by decide +kernel), by decide +kernel⟩
theorem k_498 : Cond.instanceMethod ⟨"HalfFloats","scale","(I)I"⟩ ∈ hx_tb := List.mem_filter.mpr ⟨List.mem_of_getElem? (i := 498) (by decide +kernel), by decide +kernel⟩
theorem k_499 : Cond.selects "HalfFloats" ⟨"HalfFloats","scale","(I)I"⟩ ⟨"HalfFloats","scale","(I)I"⟩ ∈ hx_tb := List.mem_filter.mpr ⟨List.mem_of_getElem? (i := 499) (by decide +kernel), by decide +kernel⟩
theorem k_500 : Cond.code y_X_scale b_X_scale 2 (Option.some FieldType.int) ∈ hx_tb := List.mem_filter.mpr ⟨List.mem_of_getElem? (i := 500) (by decide +kernel), by decide +kernel⟩
theorem k_501 : Cond.methodLink "HalfFloats" 182 ⟨"HalfFloats","blockScale","(LHalfFloats$Format;)I"⟩ ∈ hx_tb := List.mem_filter.mpr ⟨List.mem_of_getElem? (i := 501) (by decide +kernel), by decide +kernel⟩
theorem k_503 : Cond.instanceMethod ⟨"HalfFloats","blockScale","(LHalfFloats$Format;)I"⟩ ∈ hx_tb := List.mem_filter.mpr ⟨List.mem_of_getElem? (i := 503) (by decide +kernel), by decide +kernel⟩
theorem k_504 : Cond.code y_X_blockScale b_X_blockScale 6 (Option.some FieldType.int) ∈ hx_tb := List.mem_filter.mpr ⟨List.mem_of_getElem? (i := 504) (by decide +kernel), by decide +kernel⟩
theorem k_505 : Cond.methodLink "HalfFloats" 226 ⟨"HalfFloats$Format","unsigned","(I)I"⟩ ∈ hx_tb := List.mem_filter.mpr ⟨List.mem_of_getElem? (i := 505) (by decide +kernel), by decide +kernel⟩
theorem k_506 : Cond.methodLink "HalfFloats" 190 ⟨"java/lang/Math","max","(II)I"⟩ ∈ hx_tb := List.mem_filter.mpr ⟨List.mem_of_getElem? (i := 506) (by decide +kernel), by decide +kernel⟩
theorem k_507 : Cond.methodLink "HalfFloats" 229 ⟨"HalfFloats$Format","topOf","(I)I"⟩ ∈ hx_tb := List.mem_filter.mpr ⟨List.mem_of_getElem? (i := 507) (by decide +kernel), by decide +kernel⟩
theorem k_508 : Cond.instanceMethod ⟨"HalfFloats$Format","topOf","(I)I"⟩ ∈ hx_tb := List.mem_filter.mpr ⟨List.mem_of_getElem? (i := 508) (by decide +kernel), by decide +kernel⟩
theorem k_509 : Cond.selects "HalfFloats$Format" ⟨"HalfFloats$Format","topOf","(I)I"⟩ ⟨"HalfFloats$Format","topOf","(I)I"⟩ ∈ hx_tb := List.mem_filter.mpr ⟨List.mem_of_getElem? (i := 509) (by decide +kernel), by decide +kernel⟩
theorem k_510 : Cond.code y_F_topOf b_F_topOf 2 (Option.some FieldType.int) ∈ hx_tb := List.mem_filter.mpr ⟨List.mem_of_getElem? (i := 510) (by decide +kernel), by decide +kernel⟩
theorem k_511 : Cond.methodLink "HalfFloats$Format" 50 ⟨"HalfFloats$Format","powerOf","(I)I"⟩ ∈ hx_tb := List.mem_filter.mpr ⟨List.mem_of_getElem? (i := 511) (by decide +kernel), by decide +kernel⟩
theorem k_512 : Cond.methodLink "HalfFloats$Format" 53 ⟨"HalfFloats$Format","wholeOf","(I)J"⟩ ∈ hx_tb := List.mem_filter.mpr ⟨List.mem_of_getElem? (i := 512) (by decide +kernel), by decide +kernel⟩
theorem k_513 : Cond.methodLink "HalfFloats$Format" 57 ⟨"java/lang/Long","numberOfLeadingZeros","(J)I"⟩ ∈ hx_tb := List.mem_filter.mpr ⟨List.mem_of_getElem? (i := 513) (by decide +kernel), by decide +kernel⟩
theorem k_514 : Cond.methodLink "HalfFloatsLaw" 86 ⟨"HalfFloats","element","(II)J"⟩ ∈ hx_tb := List.mem_filter.mpr ⟨List.mem_of_getElem? (i := 514) (by decide +kernel), by decide +kernel⟩
theorem k_515 : Cond.instanceMethod ⟨"HalfFloats","element","(II)J"⟩ ∈ hx_tb := List.mem_filter.mpr ⟨List.mem_of_getElem? (i := 515) (by decide +kernel), by decide +kernel⟩
theorem k_516 : Cond.selects "HalfFloats" ⟨"HalfFloats","element","(II)J"⟩ ⟨"HalfFloats","element","(II)J"⟩ ∈ hx_tb := List.mem_filter.mpr ⟨List.mem_of_getElem? (i := 516) (by decide +kernel), by decide +kernel⟩
theorem k_517 : Cond.code y_X_element b_X_element 4 (Option.some FieldType.long) ∈ hx_tb := List.mem_filter.mpr ⟨List.mem_of_getElem? (i := 517) (by decide +kernel), by decide +kernel⟩
theorem k_518 : Cond.methodLink "HalfFloatsLaw" 90 ⟨"HalfFloats","scaler","(II)I"⟩ ∈ hx_tb := List.mem_filter.mpr ⟨List.mem_of_getElem? (i := 518) (by decide +kernel), by decide +kernel⟩
theorem k_519 : Cond.instanceMethod ⟨"HalfFloats","scaler","(II)I"⟩ ∈ hx_tb := List.mem_filter.mpr ⟨List.mem_of_getElem? (i := 519) (by decide +kernel), by decide +kernel⟩
theorem k_520 : Cond.selects "HalfFloats" ⟨"HalfFloats","scaler","(II)I"⟩ ⟨"HalfFloats","scaler","(II)I"⟩ ∈ hx_tb := List.mem_filter.mpr ⟨List.mem_of_getElem? (i := 520) (by decide +kernel), by decide +kernel⟩
theorem k_521 : Cond.code y_X_scaler b_X_scaler 3 (Option.some FieldType.int) ∈ hx_tb := List.mem_filter.mpr ⟨List.mem_of_getElem? (i := 521) (by decide +kernel), by decide +kernel⟩
theorem k_522 : Cond.methodLink "HalfFloatsLaw" 94 ⟨"HalfFloats","step","(I)I"⟩ ∈ hx_tb := List.mem_filter.mpr ⟨List.mem_of_getElem? (i := 522) (by decide +kernel), by decide +kernel⟩
theorem k_523 : Cond.instanceMethod ⟨"HalfFloats","step","(I)I"⟩ ∈ hx_tb := List.mem_filter.mpr ⟨List.mem_of_getElem? (i := 523) (by decide +kernel), by decide +kernel⟩
theorem k_524 : Cond.selects "HalfFloats" ⟨"HalfFloats","step","(I)I"⟩ ⟨"HalfFloats","step","(I)I"⟩ ∈ hx_tb := List.mem_filter.mpr ⟨List.mem_of_getElem? (i := 524) (by decide +kernel), by decide +kernel⟩
theorem k_525 : Cond.code y_X_step b_X_step 4 (Option.some FieldType.int) ∈ hx_tb := List.mem_filter.mpr ⟨List.mem_of_getElem? (i := 525) (by decide +kernel), by decide +kernel⟩
theorem k_526 : Cond.methodLink "HalfFloats" 186 ⟨"HalfFloats","slopesBroke","()Z"⟩ ∈ hx_tb := List.mem_filter.mpr ⟨List.mem_of_getElem? (i := 526) (by decide +kernel), by decide +kernel⟩
theorem k_528 : Cond.instanceMethod ⟨"HalfFloats","slopesBroke","()Z"⟩ ∈ hx_tb := List.mem_filter.mpr ⟨List.mem_of_getElem? (i := 528) (by decide +kernel), by decide +kernel⟩
theorem k_529 : Cond.code y_X_slopesBroke b_X_slopesBroke 3 (Option.some FieldType.boolean) ∈ hx_tb := List.mem_filter.mpr ⟨List.mem_of_getElem? (i := 529) (by decide +kernel), by decide +kernel⟩
theorem k_530 : Cond.methodLink "HalfFloats" 199 ⟨"HalfFloats","stepped","(III)I"⟩ ∈ hx_tb := List.mem_filter.mpr ⟨List.mem_of_getElem? (i := 530) (by decide +kernel), by decide +kernel⟩
theorem k_532 : Cond.instanceMethod ⟨"HalfFloats","stepped","(III)I"⟩ ∈ hx_tb := List.mem_filter.mpr ⟨List.mem_of_getElem? (i := 532) (by decide +kernel), by decide +kernel⟩
theorem k_533 : Cond.code y_X_stepped b_X_stepped 7 (Option.some FieldType.int) ∈ hx_tb := List.mem_filter.mpr ⟨List.mem_of_getElem? (i := 533) (by decide +kernel), by decide +kernel⟩
theorem k_534 : Cond.methodLink "HalfFloats" 232 ⟨"HalfFloats$Format","turnedOver","(I)I"⟩ ∈ hx_tb := List.mem_filter.mpr ⟨List.mem_of_getElem? (i := 534) (by decide +kernel), by decide +kernel⟩
theorem k_535 : Cond.instanceMethod ⟨"HalfFloats$Format","turnedOver","(I)I"⟩ ∈ hx_tb := List.mem_filter.mpr ⟨List.mem_of_getElem? (i := 535) (by decide +kernel), by decide +kernel⟩
theorem k_536 : Cond.selects "HalfFloats$Format" ⟨"HalfFloats$Format","turnedOver","(I)I"⟩ ⟨"HalfFloats$Format","turnedOver","(I)I"⟩ ∈ hx_tb := List.mem_filter.mpr ⟨List.mem_of_getElem? (i := 536) (by decide +kernel), by decide +kernel⟩
theorem k_537 : Cond.code y_F_turnedOver b_F_turnedOver 2 (Option.some FieldType.int) ∈ hx_tb := List.mem_filter.mpr ⟨List.mem_of_getElem? (i := 537) (by decide +kernel), by decide +kernel⟩
theorem k_538 : Cond.methodLink "HalfFloatsLaw" 98 ⟨"HalfFloats","kept","(III)I"⟩ ∈ hx_tb := List.mem_filter.mpr ⟨List.mem_of_getElem? (i := 538) (by decide +kernel), by decide +kernel⟩
theorem k_539 : Cond.instanceMethod ⟨"HalfFloats","kept","(III)I"⟩ ∈ hx_tb := List.mem_filter.mpr ⟨List.mem_of_getElem? (i := 539) (by decide +kernel), by decide +kernel⟩
theorem k_540 : Cond.selects "HalfFloats" ⟨"HalfFloats","kept","(III)I"⟩ ⟨"HalfFloats","kept","(III)I"⟩ ∈ hx_tb := List.mem_filter.mpr ⟨List.mem_of_getElem? (i := 540) (by decide +kernel), by decide +kernel⟩
theorem k_541 : Cond.code y_X_kept b_X_kept 8 (Option.some FieldType.int) ∈ hx_tb := List.mem_filter.mpr ⟨List.mem_of_getElem? (i := 541) (by decide +kernel), by decide +kernel⟩
theorem k_542 : Cond.methodLink "HalfFloats" 206 ⟨"HalfFloats","comesBack","(LHalfFloats$Format;ILHalfFloats$Format;I)Z"⟩ ∈ hx_tb := List.mem_filter.mpr ⟨List.mem_of_getElem? (i := 542) (by decide +kernel), by decide +kernel⟩
theorem k_544 : Cond.instanceMethod ⟨"HalfFloats","comesBack","(LHalfFloats$Format;ILHalfFloats$Format;I)Z"⟩ ∈ hx_tb := List.mem_filter.mpr ⟨List.mem_of_getElem? (i := 544) (by decide +kernel), by decide +kernel⟩
theorem k_545 : Cond.code y_X_comesBack b_X_comesBack 5 (Option.some FieldType.boolean) ∈ hx_tb := List.mem_filter.mpr ⟨List.mem_of_getElem? (i := 545) (by decide +kernel), by decide +kernel⟩
theorem k_546 : Cond.classLink "HalfFloatsLaw" 10 "HalfFloatsModel" ∈ hx_tb := List.mem_filter.mpr ⟨List.mem_of_getElem? (i := 546) (by decide +kernel), by decide +kernel⟩
theorem k_547 : Cond.instantiable "HalfFloatsModel" 21 ∈ hx_tb := List.mem_filter.mpr ⟨List.mem_of_getElem? (i := 547) (by decide +kernel), by decide +kernel⟩
theorem k_548 : Cond.methodLink "HalfFloatsLaw" 12 ⟨"HalfFloatsModel","<init>","()V"⟩ ∈ hx_tb := List.mem_filter.mpr ⟨List.mem_of_getElem? (i := 548) (by decide +kernel), by decide +kernel⟩
theorem k_549 : Cond.instanceMethod ⟨"HalfFloatsModel","<init>","()V"⟩ ∈ hx_tb := List.mem_filter.mpr ⟨List.mem_of_getElem? (i := 549) (by decide +kernel), by decide +kernel⟩
theorem k_550 : Cond.code y_M_init b_M_init 1 none ∈ hx_tb := List.mem_filter.mpr ⟨List.mem_of_getElem? (i := 550) (by decide +kernel), by decide +kernel⟩
theorem k_551 : Cond.methodLink "HalfFloatsModel" 1 ⟨"java/lang/Object","<init>","()V"⟩ ∈ hx_tb := List.mem_filter.mpr ⟨List.mem_of_getElem? (i := 551) (by decide +kernel), by decide +kernel⟩
theorem k_552 : Cond.methodLink "HalfFloatsModel" 35 ⟨"HalfFloatsModel","set","(IIII)V"⟩ ∈ hx_tb := List.mem_filter.mpr ⟨List.mem_of_getElem? (i := 552) (by decide +kernel), by decide +kernel⟩
theorem k_554 : Cond.instanceMethod ⟨"HalfFloatsModel","set","(IIII)V"⟩ ∈ hx_tb := List.mem_filter.mpr ⟨List.mem_of_getElem? (i := 554) (by decide +kernel), by decide +kernel⟩
theorem k_555 : Cond.code y_M_set b_M_set 5 none ∈ hx_tb := List.mem_filter.mpr ⟨List.mem_of_getElem? (i := 555) (by decide +kernel), by decide +kernel⟩
theorem k_556 : Cond.fieldLink "HalfFloatsModel" 7 "HalfFloatsModel" "formatE" "[I" ∈ hx_tb := List.mem_filter.mpr ⟨List.mem_of_getElem? (i := 556) (by decide +kernel), by decide +kernel⟩
theorem k_557 : Cond.fieldLink "HalfFloatsModel" 13 "HalfFloatsModel" "formatF" "[I" ∈ hx_tb := List.mem_filter.mpr ⟨List.mem_of_getElem? (i := 557) (by decide +kernel), by decide +kernel⟩
theorem k_558 : Cond.fieldLink "HalfFloatsModel" 16 "HalfFloatsModel" "formatKind" "[I" ∈ hx_tb := List.mem_filter.mpr ⟨List.mem_of_getElem? (i := 558) (by decide +kernel), by decide +kernel⟩
theorem k_559 : Cond.fieldLink "HalfFloatsModel" 19 "HalfFloatsModel" "rowFormat" "[I" ∈ hx_tb := List.mem_filter.mpr ⟨List.mem_of_getElem? (i := 559) (by decide +kernel), by decide +kernel⟩
theorem k_560 : Cond.fieldLink "HalfFloatsModel" 22 "HalfFloatsModel" "rowMany" "[I" ∈ hx_tb := List.mem_filter.mpr ⟨List.mem_of_getElem? (i := 560) (by decide +kernel), by decide +kernel⟩
theorem k_561 : Cond.fieldLink "HalfFloatsModel" 25 "HalfFloatsModel" "row" "[J" ∈ hx_tb := List.mem_filter.mpr ⟨List.mem_of_getElem? (i := 561) (by decide +kernel), by decide +kernel⟩
theorem k_562 : Cond.fieldLink "HalfFloatsModel" 155 "HalfFloatsModel" "flags" "I" ∈ hx_tb := List.mem_filter.mpr ⟨List.mem_of_getElem? (i := 562) (by decide +kernel), by decide +kernel⟩
theorem k_563 : Cond.fieldLink "HalfFloatsModel" 39 "HalfFloatsModel" "state" "J" ∈ hx_tb := List.mem_filter.mpr ⟨List.mem_of_getElem? (i := 563) (by decide +kernel), by decide +kernel⟩
theorem k_564 : Cond.fieldLink "HalfFloatsModel" 201 "HalfFloatsModel" "scaleS" "I" ∈ hx_tb := List.mem_filter.mpr ⟨List.mem_of_getElem? (i := 564) (by decide +kernel), by decide +kernel⟩
theorem k_565 : Cond.fieldLink "HalfFloatsModel" 204 "HalfFloatsModel" "streak" "I" ∈ hx_tb := List.mem_filter.mpr ⟨List.mem_of_getElem? (i := 565) (by decide +kernel), by decide +kernel⟩
theorem k_566 : Cond.fieldLink "HalfFloatsModel" 43 "HalfFloatsModel" "growth" "I" ∈ hx_tb := List.mem_filter.mpr ⟨List.mem_of_getElem? (i := 566) (by decide +kernel), by decide +kernel⟩
theorem k_567 : Cond.fieldLink "HalfFloatsModel" 29 "HalfFloatsModel" "limb" "[J" ∈ hx_tb := List.mem_filter.mpr ⟨List.mem_of_getElem? (i := 567) (by decide +kernel), by decide +kernel⟩
theorem k_568 : Cond.fieldLink "HalfFloatsModel" 109 "HalfFloatsModel" "terms" "I" ∈ hx_tb := List.mem_filter.mpr ⟨List.mem_of_getElem? (i := 568) (by decide +kernel), by decide +kernel⟩
theorem k_569 : Cond.fieldLink "HalfFloatsModel" 112 "HalfFloatsModel" "hasNan" "Z" ∈ hx_tb := List.mem_filter.mpr ⟨List.mem_of_getElem? (i := 569) (by decide +kernel), by decide +kernel⟩
theorem k_570 : Cond.fieldLink "HalfFloatsModel" 116 "HalfFloatsModel" "isWrong" "Z" ∈ hx_tb := List.mem_filter.mpr ⟨List.mem_of_getElem? (i := 570) (by decide +kernel), by decide +kernel⟩
theorem k_571 : Cond.fieldLink "HalfFloatsModel" 119 "HalfFloatsModel" "hasAbove" "Z" ∈ hx_tb := List.mem_filter.mpr ⟨List.mem_of_getElem? (i := 571) (by decide +kernel), by decide +kernel⟩
theorem k_572 : Cond.fieldLink "HalfFloatsModel" 122 "HalfFloatsModel" "hasBelow" "Z" ∈ hx_tb := List.mem_filter.mpr ⟨List.mem_of_getElem? (i := 572) (by decide +kernel), by decide +kernel⟩
theorem k_573 : Cond.fieldLink "HalfFloatsModel" 125 "HalfFloatsModel" "allZero" "Z" ∈ hx_tb := List.mem_filter.mpr ⟨List.mem_of_getElem? (i := 573) (by decide +kernel), by decide +kernel⟩
theorem k_574 : Cond.fieldLink "HalfFloatsModel" 128 "HalfFloatsModel" "hasPlus" "Z" ∈ hx_tb := List.mem_filter.mpr ⟨List.mem_of_getElem? (i := 574) (by decide +kernel), by decide +kernel⟩
theorem k_575 : Cond.fieldLink "HalfFloatsModel" 131 "HalfFloatsModel" "hasMinus" "Z" ∈ hx_tb := List.mem_filter.mpr ⟨List.mem_of_getElem? (i := 575) (by decide +kernel), by decide +kernel⟩
theorem k_576 : Cond.fieldLink "HalfFloatsModel" 32 "HalfFloatsModel" "tree" "[J" ∈ hx_tb := List.mem_filter.mpr ⟨List.mem_of_getElem? (i := 576) (by decide +kernel), by decide +kernel⟩
theorem k_620 : Cond.methodLink "HalfFloatsLaw" 17 ⟨"HalfFloatsModel","format","(IIII)I"⟩ ∈ hx_tb := List.mem_filter.mpr ⟨List.mem_of_getElem? (i := 620) (by decide +kernel), by decide +kernel⟩
theorem k_621 : Cond.instanceMethod ⟨"HalfFloatsModel","format","(IIII)I"⟩ ∈ hx_tb := List.mem_filter.mpr ⟨List.mem_of_getElem? (i := 621) (by decide +kernel), by decide +kernel⟩
theorem k_622 : Cond.selects "HalfFloatsModel" ⟨"HalfFloatsModel","format","(IIII)I"⟩ ⟨"HalfFloatsModel","format","(IIII)I"⟩ ∈ hx_tb := List.mem_filter.mpr ⟨List.mem_of_getElem? (i := 622) (by decide +kernel), by decide +kernel⟩
theorem k_623 : Cond.code y_M_format b_M_format 5 (Option.some FieldType.int) ∈ hx_tb := List.mem_filter.mpr ⟨List.mem_of_getElem? (i := 623) (by decide +kernel), by decide +kernel⟩
theorem k_624 : Cond.methodLink "HalfFloatsModel" 55 ⟨"HalfFloatsModel","isFormat","(I)Z"⟩ ∈ hx_tb := List.mem_filter.mpr ⟨List.mem_of_getElem? (i := 624) (by decide +kernel), by decide +kernel⟩
theorem k_625 : Cond.static ⟨"HalfFloatsModel","isFormat","(I)Z"⟩ ∈ hx_tb := List.mem_filter.mpr ⟨List.mem_of_getElem? (i := 625) (by decide +kernel), by decide +kernel⟩
theorem k_626 : Cond.code y_M_isFormat b_M_isFormat 1 (Option.some FieldType.boolean) ∈ hx_tb := List.mem_filter.mpr ⟨List.mem_of_getElem? (i := 626) (by decide +kernel), by decide +kernel⟩
theorem k_627 : Cond.constantLong "HalfFloatsModel" 47 (3) ∈ hx_tb := List.mem_filter.mpr ⟨List.mem_of_getElem? (i := 627) (by decide +kernel), by decide +kernel⟩
theorem k_628 : Cond.methodLink "HalfFloatsModel" 49 ⟨"HalfFloatsModel","isIn","(JJJ)Z"⟩ ∈ hx_tb := List.mem_filter.mpr ⟨List.mem_of_getElem? (i := 628) (by decide +kernel), by decide +kernel⟩
theorem k_629 : Cond.static ⟨"HalfFloatsModel","isIn","(JJJ)Z"⟩ ∈ hx_tb := List.mem_filter.mpr ⟨List.mem_of_getElem? (i := 629) (by decide +kernel), by decide +kernel⟩
theorem k_630 : Cond.code y_M_isIn b_M_isIn 6 (Option.some FieldType.boolean) ∈ hx_tb := List.mem_filter.mpr ⟨List.mem_of_getElem? (i := 630) (by decide +kernel), by decide +kernel⟩
theorem k_631 : Cond.constantLong "HalfFloatsModel" 59 (2) ∈ hx_tb := List.mem_filter.mpr ⟨List.mem_of_getElem? (i := 631) (by decide +kernel), by decide +kernel⟩
theorem k_632 : Cond.constantLong "HalfFloatsModel" 61 (8) ∈ hx_tb := List.mem_filter.mpr ⟨List.mem_of_getElem? (i := 632) (by decide +kernel), by decide +kernel⟩
theorem k_633 : Cond.constantLong "HalfFloatsModel" 63 (23) ∈ hx_tb := List.mem_filter.mpr ⟨List.mem_of_getElem? (i := 633) (by decide +kernel), by decide +kernel⟩
theorem k_634 : Cond.methodLink "HalfFloatsLaw" 22 ⟨"HalfFloatsModel","form","(II)I"⟩ ∈ hx_tb := List.mem_filter.mpr ⟨List.mem_of_getElem? (i := 634) (by decide +kernel), by decide +kernel⟩
theorem k_635 : Cond.instanceMethod ⟨"HalfFloatsModel","form","(II)I"⟩ ∈ hx_tb := List.mem_filter.mpr ⟨List.mem_of_getElem? (i := 635) (by decide +kernel), by decide +kernel⟩
theorem k_636 : Cond.selects "HalfFloatsModel" ⟨"HalfFloatsModel","form","(II)I"⟩ ⟨"HalfFloatsModel","form","(II)I"⟩ ∈ hx_tb := List.mem_filter.mpr ⟨List.mem_of_getElem? (i := 636) (by decide +kernel), by decide +kernel⟩
theorem k_637 : Cond.code y_M_form b_M_form 3 (Option.some FieldType.int) ∈ hx_tb := List.mem_filter.mpr ⟨List.mem_of_getElem? (i := 637) (by decide +kernel), by decide +kernel⟩
theorem k_638 : Cond.constantLong "HalfFloatsModel" 72 (4) ∈ hx_tb := List.mem_filter.mpr ⟨List.mem_of_getElem? (i := 638) (by decide +kernel), by decide +kernel⟩
theorem k_639 : Cond.methodLink "HalfFloatsModel" 69 ⟨"HalfFloatsModel","limit","(I)J"⟩ ∈ hx_tb := List.mem_filter.mpr ⟨List.mem_of_getElem? (i := 639) (by decide +kernel), by decide +kernel⟩
theorem k_641 : Cond.instanceMethod ⟨"HalfFloatsModel","limit","(I)J"⟩ ∈ hx_tb := List.mem_filter.mpr ⟨List.mem_of_getElem? (i := 641) (by decide +kernel), by decide +kernel⟩
theorem k_642 : Cond.code y_M_limit b_M_limit 2 (Option.some FieldType.long) ∈ hx_tb := List.mem_filter.mpr ⟨List.mem_of_getElem? (i := 642) (by decide +kernel), by decide +kernel⟩
theorem k_643 : Cond.methodLink "HalfFloatsModel" 65 ⟨"HalfFloatsModel","signBit","(I)J"⟩ ∈ hx_tb := List.mem_filter.mpr ⟨List.mem_of_getElem? (i := 643) (by decide +kernel), by decide +kernel⟩
theorem k_645 : Cond.instanceMethod ⟨"HalfFloatsModel","signBit","(I)J"⟩ ∈ hx_tb := List.mem_filter.mpr ⟨List.mem_of_getElem? (i := 645) (by decide +kernel), by decide +kernel⟩
theorem k_646 : Cond.code y_M_signBit b_M_signBit 2 (Option.some FieldType.long) ∈ hx_tb := List.mem_filter.mpr ⟨List.mem_of_getElem? (i := 646) (by decide +kernel), by decide +kernel⟩
theorem k_647 : Cond.methodLink "HalfFloatsModel" 74 ⟨"HalfFloatsModel","nan","(I)J"⟩ ∈ hx_tb := List.mem_filter.mpr ⟨List.mem_of_getElem? (i := 647) (by decide +kernel), by decide +kernel⟩
theorem k_649 : Cond.instanceMethod ⟨"HalfFloatsModel","nan","(I)J"⟩ ∈ hx_tb := List.mem_filter.mpr ⟨List.mem_of_getElem? (i := 649) (by decide +kernel), by decide +kernel⟩
theorem k_650 : Cond.code y_M_nan b_M_nan 2 (Option.some FieldType.long) ∈ hx_tb := List.mem_filter.mpr ⟨List.mem_of_getElem? (i := 650) (by decide +kernel), by decide +kernel⟩
theorem k_651 : Cond.methodLink "HalfFloatsLaw" 27 ⟨"HalfFloatsModel","part","(III)I"⟩ ∈ hx_tb := List.mem_filter.mpr ⟨List.mem_of_getElem? (i := 651) (by decide +kernel), by decide +kernel⟩
theorem k_652 : Cond.instanceMethod ⟨"HalfFloatsModel","part","(III)I"⟩ ∈ hx_tb := List.mem_filter.mpr ⟨List.mem_of_getElem? (i := 652) (by decide +kernel), by decide +kernel⟩
theorem k_653 : Cond.selects "HalfFloatsModel" ⟨"HalfFloatsModel","part","(III)I"⟩ ⟨"HalfFloatsModel","part","(III)I"⟩ ∈ hx_tb := List.mem_filter.mpr ⟨List.mem_of_getElem? (i := 653) (by decide +kernel), by decide +kernel⟩
theorem k_654 : Cond.code y_M_part b_M_part 6 (Option.some FieldType.int) ∈ hx_tb := List.mem_filter.mpr ⟨List.mem_of_getElem? (i := 654) (by decide +kernel), by decide +kernel⟩
theorem k_655 : Cond.methodLink "HalfFloatsModel" 93 ⟨"HalfFloatsModel","isPattern","(II)Z"⟩ ∈ hx_tb := List.mem_filter.mpr ⟨List.mem_of_getElem? (i := 655) (by decide +kernel), by decide +kernel⟩
theorem k_657 : Cond.instanceMethod ⟨"HalfFloatsModel","isPattern","(II)Z"⟩ ∈ hx_tb := List.mem_filter.mpr ⟨List.mem_of_getElem? (i := 657) (by decide +kernel), by decide +kernel⟩
theorem k_658 : Cond.code y_M_isPattern b_M_isPattern 3 (Option.some FieldType.boolean) ∈ hx_tb := List.mem_filter.mpr ⟨List.mem_of_getElem? (i := 658) (by decide +kernel), by decide +kernel⟩
theorem k_659 : Cond.methodLink "HalfFloatsModel" 81 ⟨"HalfFloatsModel","pattern","(II)J"⟩ ∈ hx_tb := List.mem_filter.mpr ⟨List.mem_of_getElem? (i := 659) (by decide +kernel), by decide +kernel⟩
theorem k_661 : Cond.instanceMethod ⟨"HalfFloatsModel","pattern","(II)J"⟩ ∈ hx_tb := List.mem_filter.mpr ⟨List.mem_of_getElem? (i := 661) (by decide +kernel), by decide +kernel⟩
theorem k_662 : Cond.code y_M_pattern b_M_pattern 5 (Option.some FieldType.long) ∈ hx_tb := List.mem_filter.mpr ⟨List.mem_of_getElem? (i := 662) (by decide +kernel), by decide +kernel⟩
theorem k_663 : Cond.constantLong "HalfFloatsModel" 77 (4294967295) ∈ hx_tb := List.mem_filter.mpr ⟨List.mem_of_getElem? (i := 663) (by decide +kernel), by decide +kernel⟩
theorem k_664 : Cond.constantLong "HalfFloatsModel" 79 (-1) ∈ hx_tb := List.mem_filter.mpr ⟨List.mem_of_getElem? (i := 664) (by decide +kernel), by decide +kernel⟩
theorem k_665 : Cond.constant "HalfFloatsModel" 97 (1000000) ∈ hx_tb := List.mem_filter.mpr ⟨List.mem_of_getElem? (i := 665) (by decide +kernel), by decide +kernel⟩
theorem k_666 : Cond.methodLink "HalfFloatsModel" 85 ⟨"HalfFloatsModel","sortOf","(IJ)I"⟩ ∈ hx_tb := List.mem_filter.mpr ⟨List.mem_of_getElem? (i := 666) (by decide +kernel), by decide +kernel⟩
theorem k_668 : Cond.instanceMethod ⟨"HalfFloatsModel","sortOf","(IJ)I"⟩ ∈ hx_tb := List.mem_filter.mpr ⟨List.mem_of_getElem? (i := 668) (by decide +kernel), by decide +kernel⟩
theorem k_669 : Cond.code y_M_sortOf b_M_sortOf 6 (Option.some FieldType.int) ∈ hx_tb := List.mem_filter.mpr ⟨List.mem_of_getElem? (i := 669) (by decide +kernel), by decide +kernel⟩
theorem k_670 : Cond.methodLink "HalfFloatsModel" 98 ⟨"HalfFloatsModel","isBelow","(IJ)Z"⟩ ∈ hx_tb := List.mem_filter.mpr ⟨List.mem_of_getElem? (i := 670) (by decide +kernel), by decide +kernel⟩
theorem k_672 : Cond.instanceMethod ⟨"HalfFloatsModel","isBelow","(IJ)Z"⟩ ∈ hx_tb := List.mem_filter.mpr ⟨List.mem_of_getElem? (i := 672) (by decide +kernel), by decide +kernel⟩
theorem k_673 : Cond.code y_M_isBelow b_M_isBelow 4 (Option.some FieldType.boolean) ∈ hx_tb := List.mem_filter.mpr ⟨List.mem_of_getElem? (i := 673) (by decide +kernel), by decide +kernel⟩
theorem k_674 : Cond.methodLink "HalfFloatsModel" 102 ⟨"HalfFloatsModel","wholeOf","(IJ)J"⟩ ∈ hx_tb := List.mem_filter.mpr ⟨List.mem_of_getElem? (i := 674) (by decide +kernel), by decide +kernel⟩
theorem k_676 : Cond.instanceMethod ⟨"HalfFloatsModel","wholeOf","(IJ)J"⟩ ∈ hx_tb := List.mem_filter.mpr ⟨List.mem_of_getElem? (i := 676) (by decide +kernel), by decide +kernel⟩
theorem k_677 : Cond.code y_M_wholeOf b_M_wholeOf 7 (Option.some FieldType.long) ∈ hx_tb := List.mem_filter.mpr ⟨List.mem_of_getElem? (i := 677) (by decide +kernel), by decide +kernel⟩
theorem k_678 : Cond.methodLink "HalfFloatsModel" 106 ⟨"HalfFloatsModel","powerOf","(IJ)I"⟩ ∈ hx_tb := List.mem_filter.mpr ⟨List.mem_of_getElem? (i := 678) (by decide +kernel), by decide +kernel⟩
theorem k_680 : Cond.instanceMethod ⟨"HalfFloatsModel","powerOf","(IJ)I"⟩ ∈ hx_tb := List.mem_filter.mpr ⟨List.mem_of_getElem? (i := 680) (by decide +kernel), by decide +kernel⟩
theorem k_681 : Cond.code y_M_powerOf b_M_powerOf 6 (Option.some FieldType.int) ∈ hx_tb := List.mem_filter.mpr ⟨List.mem_of_getElem? (i := 681) (by decide +kernel), by decide +kernel⟩
theorem k_682 : Cond.methodLink "HalfFloatsModel" 89 ⟨"HalfFloatsModel","bias","(I)I"⟩ ∈ hx_tb := List.mem_filter.mpr ⟨List.mem_of_getElem? (i := 682) (by decide +kernel), by decide +kernel⟩
theorem k_684 : Cond.instanceMethod ⟨"HalfFloatsModel","bias","(I)I"⟩ ∈ hx_tb := List.mem_filter.mpr ⟨List.mem_of_getElem? (i := 684) (by decide +kernel), by decide +kernel⟩
theorem k_685 : Cond.code y_M_bias b_M_bias 2 (Option.some FieldType.int) ∈ hx_tb := List.mem_filter.mpr ⟨List.mem_of_getElem? (i := 685) (by decide +kernel), by decide +kernel⟩
theorem k_686 : Cond.methodLink "HalfFloatsLaw" 32 ⟨"HalfFloatsModel","turn","(IIII)J"⟩ ∈ hx_tb := List.mem_filter.mpr ⟨List.mem_of_getElem? (i := 686) (by decide +kernel), by decide +kernel⟩
theorem k_687 : Cond.instanceMethod ⟨"HalfFloatsModel","turn","(IIII)J"⟩ ∈ hx_tb := List.mem_filter.mpr ⟨List.mem_of_getElem? (i := 687) (by decide +kernel), by decide +kernel⟩
theorem k_688 : Cond.selects "HalfFloatsModel" ⟨"HalfFloatsModel","turn","(IIII)J"⟩ ⟨"HalfFloatsModel","turn","(IIII)J"⟩ ∈ hx_tb := List.mem_filter.mpr ⟨List.mem_of_getElem? (i := 688) (by decide +kernel), by decide +kernel⟩
theorem k_689 : Cond.code y_M_turn b_M_turn 5 (Option.some FieldType.long) ∈ hx_tb := List.mem_filter.mpr ⟨List.mem_of_getElem? (i := 689) (by decide +kernel), by decide +kernel⟩
theorem k_690 : Cond.methodLink "HalfFloatsModel" 176 ⟨"HalfFloatsModel","isWay","(I)Z"⟩ ∈ hx_tb := List.mem_filter.mpr ⟨List.mem_of_getElem? (i := 690) (by decide +kernel), by decide +kernel⟩
theorem k_691 : Cond.static ⟨"HalfFloatsModel","isWay","(I)Z"⟩ ∈ hx_tb := List.mem_filter.mpr ⟨List.mem_of_getElem? (i := 691) (by decide +kernel), by decide +kernel⟩
theorem k_692 : Cond.code y_M_isWay b_M_isWay 1 (Option.some FieldType.boolean) ∈ hx_tb := List.mem_filter.mpr ⟨List.mem_of_getElem? (i := 692) (by decide +kernel), by decide +kernel⟩
theorem k_693 : Cond.constantLong "HalfFloatsModel" 53 (5) ∈ hx_tb := List.mem_filter.mpr ⟨List.mem_of_getElem? (i := 693) (by decide +kernel), by decide +kernel⟩
theorem k_694 : Cond.constantLong "HalfFloatsModel" 179 (-2) ∈ hx_tb := List.mem_filter.mpr ⟨List.mem_of_getElem? (i := 694) (by decide +kernel), by decide +kernel⟩
theorem k_695 : Cond.methodLink "HalfFloatsModel" 181 ⟨"HalfFloatsModel","turned","(IJII)J"⟩ ∈ hx_tb := List.mem_filter.mpr ⟨List.mem_of_getElem? (i := 695) (by decide +kernel), by decide +kernel⟩
theorem k_697 : Cond.instanceMethod ⟨"HalfFloatsModel","turned","(IJII)J"⟩ ∈ hx_tb := List.mem_filter.mpr ⟨List.mem_of_getElem? (i := 697) (by decide +kernel), by decide +kernel⟩
theorem k_698 : Cond.code y_M_turned b_M_turned 6 (Option.some FieldType.long) ∈ hx_tb := List.mem_filter.mpr ⟨List.mem_of_getElem? (i := 698) (by decide +kernel), by decide +kernel⟩
theorem k_699 : Cond.methodLink "HalfFloatsModel" 185 ⟨"HalfFloatsModel","begin","()V"⟩ ∈ hx_tb := List.mem_filter.mpr ⟨List.mem_of_getElem? (i := 699) (by decide +kernel), by decide +kernel⟩
theorem k_701 : Cond.instanceMethod ⟨"HalfFloatsModel","begin","()V"⟩ ∈ hx_tb := List.mem_filter.mpr ⟨List.mem_of_getElem? (i := 701) (by decide +kernel), by decide +kernel⟩
theorem k_702 : Cond.code y_M_begin b_M_begin 2 none ∈ hx_tb := List.mem_filter.mpr ⟨List.mem_of_getElem? (i := 702) (by decide +kernel), by decide +kernel⟩
theorem k_703 : Cond.methodLink "HalfFloatsModel" 188 ⟨"HalfFloatsModel","value","(IJZI)V"⟩ ∈ hx_tb := List.mem_filter.mpr ⟨List.mem_of_getElem? (i := 703) (by decide +kernel), by decide +kernel⟩
theorem k_705 : Cond.instanceMethod ⟨"HalfFloatsModel","value","(IJZI)V"⟩ ∈ hx_tb := List.mem_filter.mpr ⟨List.mem_of_getElem? (i := 705) (by decide +kernel), by decide +kernel⟩
theorem k_706 : Cond.code y_M_value b_M_value 7 none ∈ hx_tb := List.mem_filter.mpr ⟨List.mem_of_getElem? (i := 706) (by decide +kernel), by decide +kernel⟩
theorem k_707 : Cond.methodLink "HalfFloatsModel" 140 ⟨"HalfFloatsModel","term","(ZZJI)V"⟩ ∈ hx_tb := List.mem_filter.mpr ⟨List.mem_of_getElem? (i := 707) (by decide +kernel), by decide +kernel⟩
theorem k_709 : Cond.instanceMethod ⟨"HalfFloatsModel","term","(ZZJI)V"⟩ ∈ hx_tb := List.mem_filter.mpr ⟨List.mem_of_getElem? (i := 709) (by decide +kernel), by decide +kernel⟩
theorem k_710 : Cond.code y_M_term b_M_term 6 none ∈ hx_tb := List.mem_filter.mpr ⟨List.mem_of_getElem? (i := 710) (by decide +kernel), by decide +kernel⟩
theorem k_711 : Cond.constantLong "HalfFloatsModel" 134 (16777215) ∈ hx_tb := List.mem_filter.mpr ⟨List.mem_of_getElem? (i := 711) (by decide +kernel), by decide +kernel⟩
theorem k_712 : Cond.methodLink "HalfFloatsModel" 136 ⟨"HalfFloatsModel","put","(JIZ)V"⟩ ∈ hx_tb := List.mem_filter.mpr ⟨List.mem_of_getElem? (i := 712) (by decide +kernel), by decide +kernel⟩
theorem k_714 : Cond.instanceMethod ⟨"HalfFloatsModel","put","(JIZ)V"⟩ ∈ hx_tb := List.mem_filter.mpr ⟨List.mem_of_getElem? (i := 714) (by decide +kernel), by decide +kernel⟩
theorem k_715 : Cond.code y_M_put b_M_put 19 none ∈ hx_tb := List.mem_filter.mpr ⟨List.mem_of_getElem? (i := 715) (by decide +kernel), by decide +kernel⟩
theorem k_716 : Cond.methodLink "HalfFloatsModel" 192 ⟨"HalfFloatsModel","end","(II)J"⟩ ∈ hx_tb := List.mem_filter.mpr ⟨List.mem_of_getElem? (i := 716) (by decide +kernel), by decide +kernel⟩
theorem k_718 : Cond.instanceMethod ⟨"HalfFloatsModel","end","(II)J"⟩ ∈ hx_tb := List.mem_filter.mpr ⟨List.mem_of_getElem? (i := 718) (by decide +kernel), by decide +kernel⟩
theorem k_719 : Cond.code y_M_end b_M_end 7 (Option.some FieldType.long) ∈ hx_tb := List.mem_filter.mpr ⟨List.mem_of_getElem? (i := 719) (by decide +kernel), by decide +kernel⟩
theorem k_720 : Cond.methodLink "HalfFloatsModel" 144 ⟨"HalfFloatsModel","bitAt","(I)I"⟩ ∈ hx_tb := List.mem_filter.mpr ⟨List.mem_of_getElem? (i := 720) (by decide +kernel), by decide +kernel⟩
theorem k_722 : Cond.instanceMethod ⟨"HalfFloatsModel","bitAt","(I)I"⟩ ∈ hx_tb := List.mem_filter.mpr ⟨List.mem_of_getElem? (i := 722) (by decide +kernel), by decide +kernel⟩
theorem k_723 : Cond.code y_M_bitAt b_M_bitAt 2 (Option.some FieldType.int) ∈ hx_tb := List.mem_filter.mpr ⟨List.mem_of_getElem? (i := 723) (by decide +kernel), by decide +kernel⟩
theorem k_724 : Cond.methodLink "HalfFloatsModel" 158 ⟨"HalfFloatsModel","negate","()V"⟩ ∈ hx_tb := List.mem_filter.mpr ⟨List.mem_of_getElem? (i := 724) (by decide +kernel), by decide +kernel⟩
theorem k_726 : Cond.instanceMethod ⟨"HalfFloatsModel","negate","()V"⟩ ∈ hx_tb := List.mem_filter.mpr ⟨List.mem_of_getElem? (i := 726) (by decide +kernel), by decide +kernel⟩
theorem k_727 : Cond.code y_M_negate b_M_negate 6 none ∈ hx_tb := List.mem_filter.mpr ⟨List.mem_of_getElem? (i := 727) (by decide +kernel), by decide +kernel⟩
theorem k_728 : Cond.methodLink "HalfFloatsModel" 161 ⟨"HalfFloatsModel","round","(IIZI)J"⟩ ∈ hx_tb := List.mem_filter.mpr ⟨List.mem_of_getElem? (i := 728) (by decide +kernel), by decide +kernel⟩
theorem k_730 : Cond.instanceMethod ⟨"HalfFloatsModel","round","(IIZI)J"⟩ ∈ hx_tb := List.mem_filter.mpr ⟨List.mem_of_getElem? (i := 730) (by decide +kernel), by decide +kernel⟩
theorem k_731 : Cond.code y_M_round b_M_round 16 (Option.some FieldType.long) ∈ hx_tb := List.mem_filter.mpr ⟨List.mem_of_getElem? (i := 731) (by decide +kernel), by decide +kernel⟩
theorem k_732 : Cond.methodLink "HalfFloatsModel" 165 ⟨"HalfFloatsModel","hasLower","(I)Z"⟩ ∈ hx_tb := List.mem_filter.mpr ⟨List.mem_of_getElem? (i := 732) (by decide +kernel), by decide +kernel⟩
theorem k_734 : Cond.instanceMethod ⟨"HalfFloatsModel","hasLower","(I)Z"⟩ ∈ hx_tb := List.mem_filter.mpr ⟨List.mem_of_getElem? (i := 734) (by decide +kernel), by decide +kernel⟩
theorem k_735 : Cond.code y_M_hasLower b_M_hasLower 3 (Option.some FieldType.boolean) ∈ hx_tb := List.mem_filter.mpr ⟨List.mem_of_getElem? (i := 735) (by decide +kernel), by decide +kernel⟩
theorem k_736 : Cond.methodLink "HalfFloatsModel" 168 ⟨"HalfFloatsModel","isFarther","(IZIJ)Z"⟩ ∈ hx_tb := List.mem_filter.mpr ⟨List.mem_of_getElem? (i := 736) (by decide +kernel), by decide +kernel⟩
theorem k_738 : Cond.instanceMethod ⟨"HalfFloatsModel","isFarther","(IZIJ)Z"⟩ ∈ hx_tb := List.mem_filter.mpr ⟨List.mem_of_getElem? (i := 738) (by decide +kernel), by decide +kernel⟩
theorem k_739 : Cond.code y_M_isFarther b_M_isFarther 10 (Option.some FieldType.boolean) ∈ hx_tb := List.mem_filter.mpr ⟨List.mem_of_getElem? (i := 739) (by decide +kernel), by decide +kernel⟩
theorem k_740 : Cond.methodLink "HalfFloatsModel" 172 ⟨"HalfFloatsModel","drawn","()I"⟩ ∈ hx_tb := List.mem_filter.mpr ⟨List.mem_of_getElem? (i := 740) (by decide +kernel), by decide +kernel⟩
theorem k_742 : Cond.instanceMethod ⟨"HalfFloatsModel","drawn","()I"⟩ ∈ hx_tb := List.mem_filter.mpr ⟨List.mem_of_getElem? (i := 742) (by decide +kernel), by decide +kernel⟩
theorem k_743 : Cond.code y_M_drawn b_M_drawn 1 (Option.some FieldType.int) ∈ hx_tb := List.mem_filter.mpr ⟨List.mem_of_getElem? (i := 743) (by decide +kernel), by decide +kernel⟩
theorem k_744 : Cond.constantLong "HalfFloatsModel" 147 (48271) ∈ hx_tb := List.mem_filter.mpr ⟨List.mem_of_getElem? (i := 744) (by decide +kernel), by decide +kernel⟩
theorem k_745 : Cond.constantLong "HalfFloatsModel" 149 (2147483647) ∈ hx_tb := List.mem_filter.mpr ⟨List.mem_of_getElem? (i := 745) (by decide +kernel), by decide +kernel⟩
theorem k_746 : Cond.constantLong "HalfFloatsModel" 151 (16) ∈ hx_tb := List.mem_filter.mpr ⟨List.mem_of_getElem? (i := 746) (by decide +kernel), by decide +kernel⟩
theorem k_747 : Cond.constantLong "HalfFloatsModel" 153 (65536) ∈ hx_tb := List.mem_filter.mpr ⟨List.mem_of_getElem? (i := 747) (by decide +kernel), by decide +kernel⟩
theorem k_748 : Cond.methodLink "HalfFloatsLaw" 37 ⟨"HalfFloatsModel","reckon","(IIIIIII)J"⟩ ∈ hx_tb := List.mem_filter.mpr ⟨List.mem_of_getElem? (i := 748) (by decide +kernel), by decide +kernel⟩
theorem k_749 : Cond.instanceMethod ⟨"HalfFloatsModel","reckon","(IIIIIII)J"⟩ ∈ hx_tb := List.mem_filter.mpr ⟨List.mem_of_getElem? (i := 749) (by decide +kernel), by decide +kernel⟩
theorem k_750 : Cond.selects "HalfFloatsModel" ⟨"HalfFloatsModel","reckon","(IIIIIII)J"⟩ ⟨"HalfFloatsModel","reckon","(IIIIIII)J"⟩ ∈ hx_tb := List.mem_filter.mpr ⟨List.mem_of_getElem? (i := 750) (by decide +kernel), by decide +kernel⟩
theorem k_751 : Cond.code y_M_reckon b_M_reckon 8 (Option.some FieldType.long) ∈ hx_tb := List.mem_filter.mpr ⟨List.mem_of_getElem? (i := 751) (by decide +kernel), by decide +kernel⟩
theorem k_752 : Cond.methodLink "HalfFloatsModel" 195 ⟨"HalfFloatsModel","product","(IJIJZ)V"⟩ ∈ hx_tb := List.mem_filter.mpr ⟨List.mem_of_getElem? (i := 752) (by decide +kernel), by decide +kernel⟩
theorem k_754 : Cond.instanceMethod ⟨"HalfFloatsModel","product","(IJIJZ)V"⟩ ∈ hx_tb := List.mem_filter.mpr ⟨List.mem_of_getElem? (i := 754) (by decide +kernel), by decide +kernel⟩
theorem k_755 : Cond.code y_M_product b_M_product 10 none ∈ hx_tb := List.mem_filter.mpr ⟨List.mem_of_getElem? (i := 755) (by decide +kernel), by decide +kernel⟩
theorem k_756 : Cond.methodLink "HalfFloatsLaw" 42 ⟨"HalfFloatsModel","fused","(IIIIII)J"⟩ ∈ hx_tb := List.mem_filter.mpr ⟨List.mem_of_getElem? (i := 756) (by decide +kernel), by decide +kernel⟩
theorem k_757 : Cond.instanceMethod ⟨"HalfFloatsModel","fused","(IIIIII)J"⟩ ∈ hx_tb := List.mem_filter.mpr ⟨List.mem_of_getElem? (i := 757) (by decide +kernel), by decide +kernel⟩
theorem k_758 : Cond.selects "HalfFloatsModel" ⟨"HalfFloatsModel","fused","(IIIIII)J"⟩ ⟨"HalfFloatsModel","fused","(IIIIII)J"⟩ ∈ hx_tb := List.mem_filter.mpr ⟨List.mem_of_getElem? (i := 758) (by decide +kernel), by decide +kernel⟩
theorem k_759 : Cond.code y_M_fused b_M_fused 7 (Option.some FieldType.long) ∈ hx_tb := List.mem_filter.mpr ⟨List.mem_of_getElem? (i := 759) (by decide +kernel), by decide +kernel⟩
theorem k_760 : Cond.methodLink "HalfFloatsLaw" 46 ⟨"HalfFloatsModel","compare","(IIII)I"⟩ ∈ hx_tb := List.mem_filter.mpr ⟨List.mem_of_getElem? (i := 760) (by decide +kernel), by decide +kernel⟩
theorem k_761 : Cond.instanceMethod ⟨"HalfFloatsModel","compare","(IIII)I"⟩ ∈ hx_tb := List.mem_filter.mpr ⟨List.mem_of_getElem? (i := 761) (by decide +kernel), by decide +kernel⟩
theorem k_762 : Cond.selects "HalfFloatsModel" ⟨"HalfFloatsModel","compare","(IIII)I"⟩ ⟨"HalfFloatsModel","compare","(IIII)I"⟩ ∈ hx_tb := List.mem_filter.mpr ⟨List.mem_of_getElem? (i := 762) (by decide +kernel), by decide +kernel⟩
theorem k_763 : Cond.code y_M_compare b_M_compare 11 (Option.some FieldType.int) ∈ hx_tb := List.mem_filter.mpr ⟨List.mem_of_getElem? (i := 763) (by decide +kernel), by decide +kernel⟩
theorem k_764 : Cond.methodLink "HalfFloatsLaw" 51 ⟨"HalfFloatsModel","flags","()I"⟩ ∈ hx_tb := List.mem_filter.mpr ⟨List.mem_of_getElem? (i := 764) (by decide +kernel), by decide +kernel⟩
theorem k_765 : Cond.instanceMethod ⟨"HalfFloatsModel","flags","()I"⟩ ∈ hx_tb := List.mem_filter.mpr ⟨List.mem_of_getElem? (i := 765) (by decide +kernel), by decide +kernel⟩
theorem k_766 : Cond.selects "HalfFloatsModel" ⟨"HalfFloatsModel","flags","()I"⟩ ⟨"HalfFloatsModel","flags","()I"⟩ ∈ hx_tb := List.mem_filter.mpr ⟨List.mem_of_getElem? (i := 766) (by decide +kernel), by decide +kernel⟩
theorem k_767 : Cond.code y_M_flags b_M_flags 2 (Option.some FieldType.int) ∈ hx_tb := List.mem_filter.mpr ⟨List.mem_of_getElem? (i := 767) (by decide +kernel), by decide +kernel⟩
theorem k_768 : Cond.methodLink "HalfFloatsLaw" 56 ⟨"HalfFloatsModel","seed","(I)I"⟩ ∈ hx_tb := List.mem_filter.mpr ⟨List.mem_of_getElem? (i := 768) (by decide +kernel), by decide +kernel⟩
theorem k_769 : Cond.instanceMethod ⟨"HalfFloatsModel","seed","(I)I"⟩ ∈ hx_tb := List.mem_filter.mpr ⟨List.mem_of_getElem? (i := 769) (by decide +kernel), by decide +kernel⟩
theorem k_770 : Cond.selects "HalfFloatsModel" ⟨"HalfFloatsModel","seed","(I)I"⟩ ⟨"HalfFloatsModel","seed","(I)I"⟩ ∈ hx_tb := List.mem_filter.mpr ⟨List.mem_of_getElem? (i := 770) (by decide +kernel), by decide +kernel⟩
theorem k_771 : Cond.code y_M_seed b_M_seed 3 (Option.some FieldType.int) ∈ hx_tb := List.mem_filter.mpr ⟨List.mem_of_getElem? (i := 771) (by decide +kernel), by decide +kernel⟩
theorem k_772 : Cond.constantLong "HalfFloatsModel" 199 (2147483646) ∈ hx_tb := List.mem_filter.mpr ⟨List.mem_of_getElem? (i := 772) (by decide +kernel), by decide +kernel⟩
theorem k_773 : Cond.methodLink "HalfFloatsLaw" 60 ⟨"HalfFloatsModel","clear","(II)I"⟩ ∈ hx_tb := List.mem_filter.mpr ⟨List.mem_of_getElem? (i := 773) (by decide +kernel), by decide +kernel⟩
theorem k_774 : Cond.instanceMethod ⟨"HalfFloatsModel","clear","(II)I"⟩ ∈ hx_tb := List.mem_filter.mpr ⟨List.mem_of_getElem? (i := 774) (by decide +kernel), by decide +kernel⟩
theorem k_775 : Cond.selects "HalfFloatsModel" ⟨"HalfFloatsModel","clear","(II)I"⟩ ⟨"HalfFloatsModel","clear","(II)I"⟩ ∈ hx_tb := List.mem_filter.mpr ⟨List.mem_of_getElem? (i := 775) (by decide +kernel), by decide +kernel⟩
theorem k_776 : Cond.code y_M_clear b_M_clear 4 (Option.some FieldType.int) ∈ hx_tb := List.mem_filter.mpr ⟨List.mem_of_getElem? (i := 776) (by decide +kernel), by decide +kernel⟩
theorem k_777 : Cond.methodLink "HalfFloatsLaw" 64 ⟨"HalfFloatsModel","push","(II)I"⟩ ∈ hx_tb := List.mem_filter.mpr ⟨List.mem_of_getElem? (i := 777) (by decide +kernel), by decide +kernel⟩
theorem k_778 : Cond.instanceMethod ⟨"HalfFloatsModel","push","(II)I"⟩ ∈ hx_tb := List.mem_filter.mpr ⟨List.mem_of_getElem? (i := 778) (by decide +kernel), by decide +kernel⟩
theorem k_779 : Cond.selects "HalfFloatsModel" ⟨"HalfFloatsModel","push","(II)I"⟩ ⟨"HalfFloatsModel","push","(II)I"⟩ ∈ hx_tb := List.mem_filter.mpr ⟨List.mem_of_getElem? (i := 779) (by decide +kernel), by decide +kernel⟩
theorem k_780 : Cond.code y_M_push b_M_push 3 (Option.some FieldType.int) ∈ hx_tb := List.mem_filter.mpr ⟨List.mem_of_getElem? (i := 780) (by decide +kernel), by decide +kernel⟩
theorem k_781 : Cond.methodLink "HalfFloatsLaw" 69 ⟨"HalfFloatsModel","at","(II)J"⟩ ∈ hx_tb := List.mem_filter.mpr ⟨List.mem_of_getElem? (i := 781) (by decide +kernel), by decide +kernel⟩
theorem k_782 : Cond.instanceMethod ⟨"HalfFloatsModel","at","(II)J"⟩ ∈ hx_tb := List.mem_filter.mpr ⟨List.mem_of_getElem? (i := 782) (by decide +kernel), by decide +kernel⟩
theorem k_783 : Cond.selects "HalfFloatsModel" ⟨"HalfFloatsModel","at","(II)J"⟩ ⟨"HalfFloatsModel","at","(II)J"⟩ ∈ hx_tb := List.mem_filter.mpr ⟨List.mem_of_getElem? (i := 783) (by decide +kernel), by decide +kernel⟩
theorem k_784 : Cond.code y_M_at b_M_at 3 (Option.some FieldType.long) ∈ hx_tb := List.mem_filter.mpr ⟨List.mem_of_getElem? (i := 784) (by decide +kernel), by decide +kernel⟩
theorem k_785 : Cond.methodLink "HalfFloatsLaw" 73 ⟨"HalfFloatsModel","count","(I)I"⟩ ∈ hx_tb := List.mem_filter.mpr ⟨List.mem_of_getElem? (i := 785) (by decide +kernel), by decide +kernel⟩
theorem k_786 : Cond.instanceMethod ⟨"HalfFloatsModel","count","(I)I"⟩ ∈ hx_tb := List.mem_filter.mpr ⟨List.mem_of_getElem? (i := 786) (by decide +kernel), by decide +kernel⟩
theorem k_787 : Cond.selects "HalfFloatsModel" ⟨"HalfFloatsModel","count","(I)I"⟩ ⟨"HalfFloatsModel","count","(I)I"⟩ ∈ hx_tb := List.mem_filter.mpr ⟨List.mem_of_getElem? (i := 787) (by decide +kernel), by decide +kernel⟩
theorem k_788 : Cond.code y_M_count b_M_count 2 (Option.some FieldType.int) ∈ hx_tb := List.mem_filter.mpr ⟨List.mem_of_getElem? (i := 788) (by decide +kernel), by decide +kernel⟩
theorem k_789 : Cond.methodLink "HalfFloatsLaw" 77 ⟨"HalfFloatsModel","sum","(IIII)J"⟩ ∈ hx_tb := List.mem_filter.mpr ⟨List.mem_of_getElem? (i := 789) (by decide +kernel), by decide +kernel⟩
theorem k_790 : Cond.instanceMethod ⟨"HalfFloatsModel","sum","(IIII)J"⟩ ∈ hx_tb := List.mem_filter.mpr ⟨List.mem_of_getElem? (i := 790) (by decide +kernel), by decide +kernel⟩
theorem k_791 : Cond.selects "HalfFloatsModel" ⟨"HalfFloatsModel","sum","(IIII)J"⟩ ⟨"HalfFloatsModel","sum","(IIII)J"⟩ ∈ hx_tb := List.mem_filter.mpr ⟨List.mem_of_getElem? (i := 791) (by decide +kernel), by decide +kernel⟩
theorem k_792 : Cond.code y_M_sum b_M_sum 10 (Option.some FieldType.long) ∈ hx_tb := List.mem_filter.mpr ⟨List.mem_of_getElem? (i := 792) (by decide +kernel), by decide +kernel⟩
theorem k_793 : Cond.methodLink "HalfFloatsLaw" 81 ⟨"HalfFloatsModel","dot","(IIII)J"⟩ ∈ hx_tb := List.mem_filter.mpr ⟨List.mem_of_getElem? (i := 793) (by decide +kernel), by decide +kernel⟩
theorem k_794 : Cond.instanceMethod ⟨"HalfFloatsModel","dot","(IIII)J"⟩ ∈ hx_tb := List.mem_filter.mpr ⟨List.mem_of_getElem? (i := 794) (by decide +kernel), by decide +kernel⟩
theorem k_795 : Cond.selects "HalfFloatsModel" ⟨"HalfFloatsModel","dot","(IIII)J"⟩ ⟨"HalfFloatsModel","dot","(IIII)J"⟩ ∈ hx_tb := List.mem_filter.mpr ⟨List.mem_of_getElem? (i := 795) (by decide +kernel), by decide +kernel⟩
theorem k_796 : Cond.code y_M_dot b_M_dot 12 (Option.some FieldType.long) ∈ hx_tb := List.mem_filter.mpr ⟨List.mem_of_getElem? (i := 796) (by decide +kernel), by decide +kernel⟩
theorem k_797 : Cond.constantLong "HalfFloatsModel" 207 (32) ∈ hx_tb := List.mem_filter.mpr ⟨List.mem_of_getElem? (i := 797) (by decide +kernel), by decide +kernel⟩
theorem k_798 : Cond.methodLink "HalfFloatsModel" 209 ⟨"HalfFloatsModel","shorter","()I"⟩ ∈ hx_tb := List.mem_filter.mpr ⟨List.mem_of_getElem? (i := 798) (by decide +kernel), by decide +kernel⟩
theorem k_800 : Cond.instanceMethod ⟨"HalfFloatsModel","shorter","()I"⟩ ∈ hx_tb := List.mem_filter.mpr ⟨List.mem_of_getElem? (i := 800) (by decide +kernel), by decide +kernel⟩
theorem k_801 : Cond.code y_M_shorter b_M_shorter 1 (Option.some FieldType.int) ∈ hx_tb := List.mem_filter.mpr ⟨List.mem_of_getElem? (i := 801) (by decide +kernel), by decide +kernel⟩
theorem k_802 : Cond.methodLink "HalfFloatsLaw" 85 ⟨"HalfFloatsModel","scale","(I)I"⟩ ∈ hx_tb := List.mem_filter.mpr ⟨List.mem_of_getElem? (i := 802) (by decide +kernel), by decide +kernel⟩
theorem k_803 : Cond.instanceMethod ⟨"HalfFloatsModel","scale","(I)I"⟩ ∈ hx_tb := List.mem_filter.mpr ⟨List.mem_of_getElem? (i := 803) (by decide +kernel), by decide +kernel⟩
theorem k_804 : Cond.selects "HalfFloatsModel" ⟨"HalfFloatsModel","scale","(I)I"⟩ ⟨"HalfFloatsModel","scale","(I)I"⟩ ∈ hx_tb := List.mem_filter.mpr ⟨List.mem_of_getElem? (i := 804) (by decide +kernel), by decide +kernel⟩
theorem k_805 : Cond.code y_M_scale b_M_scale 2 (Option.some FieldType.int) ∈ hx_tb := List.mem_filter.mpr ⟨List.mem_of_getElem? (i := 805) (by decide +kernel), by decide +kernel⟩
theorem k_806 : Cond.methodLink "HalfFloatsModel" 215 ⟨"HalfFloatsModel","scaleOf","(I)I"⟩ ∈ hx_tb := List.mem_filter.mpr ⟨List.mem_of_getElem? (i := 806) (by decide +kernel), by decide +kernel⟩
theorem k_808 : Cond.instanceMethod ⟨"HalfFloatsModel","scaleOf","(I)I"⟩ ∈ hx_tb := List.mem_filter.mpr ⟨List.mem_of_getElem? (i := 808) (by decide +kernel), by decide +kernel⟩
theorem k_809 : Cond.code y_M_scaleOf b_M_scaleOf 7 (Option.some FieldType.int) ∈ hx_tb := List.mem_filter.mpr ⟨List.mem_of_getElem? (i := 809) (by decide +kernel), by decide +kernel⟩
theorem k_810 : Cond.methodLink "HalfFloatsModel" 212 ⟨"HalfFloatsModel","powerBelow","(IJ)I"⟩ ∈ hx_tb := List.mem_filter.mpr ⟨List.mem_of_getElem? (i := 810) (by decide +kernel), by decide +kernel⟩
theorem k_812 : Cond.instanceMethod ⟨"HalfFloatsModel","powerBelow","(IJ)I"⟩ ∈ hx_tb := List.mem_filter.mpr ⟨List.mem_of_getElem? (i := 812) (by decide +kernel), by decide +kernel⟩
theorem k_813 : Cond.code y_M_powerBelow b_M_powerBelow 7 (Option.some FieldType.int) ∈ hx_tb := List.mem_filter.mpr ⟨List.mem_of_getElem? (i := 813) (by decide +kernel), by decide +kernel⟩
theorem k_814 : Cond.methodLink "HalfFloatsLaw" 89 ⟨"HalfFloatsModel","element","(II)J"⟩ ∈ hx_tb := List.mem_filter.mpr ⟨List.mem_of_getElem? (i := 814) (by decide +kernel), by decide +kernel⟩
theorem k_815 : Cond.instanceMethod ⟨"HalfFloatsModel","element","(II)J"⟩ ∈ hx_tb := List.mem_filter.mpr ⟨List.mem_of_getElem? (i := 815) (by decide +kernel), by decide +kernel⟩
theorem k_816 : Cond.selects "HalfFloatsModel" ⟨"HalfFloatsModel","element","(II)J"⟩ ⟨"HalfFloatsModel","element","(II)J"⟩ ∈ hx_tb := List.mem_filter.mpr ⟨List.mem_of_getElem? (i := 816) (by decide +kernel), by decide +kernel⟩
theorem k_817 : Cond.code y_M_element b_M_element 4 (Option.some FieldType.long) ∈ hx_tb := List.mem_filter.mpr ⟨List.mem_of_getElem? (i := 817) (by decide +kernel), by decide +kernel⟩
theorem k_818 : Cond.methodLink "HalfFloatsLaw" 93 ⟨"HalfFloatsModel","scaler","(II)I"⟩ ∈ hx_tb := List.mem_filter.mpr ⟨List.mem_of_getElem? (i := 818) (by decide +kernel), by decide +kernel⟩
theorem k_819 : Cond.instanceMethod ⟨"HalfFloatsModel","scaler","(II)I"⟩ ∈ hx_tb := List.mem_filter.mpr ⟨List.mem_of_getElem? (i := 819) (by decide +kernel), by decide +kernel⟩
theorem k_820 : Cond.selects "HalfFloatsModel" ⟨"HalfFloatsModel","scaler","(II)I"⟩ ⟨"HalfFloatsModel","scaler","(II)I"⟩ ∈ hx_tb := List.mem_filter.mpr ⟨List.mem_of_getElem? (i := 820) (by decide +kernel), by decide +kernel⟩
theorem k_821 : Cond.code y_M_scaler b_M_scaler 3 (Option.some FieldType.int) ∈ hx_tb := List.mem_filter.mpr ⟨List.mem_of_getElem? (i := 821) (by decide +kernel), by decide +kernel⟩
theorem k_822 : Cond.constantLong "HalfFloatsModel" 218 (-60) ∈ hx_tb := List.mem_filter.mpr ⟨List.mem_of_getElem? (i := 822) (by decide +kernel), by decide +kernel⟩
theorem k_823 : Cond.constantLong "HalfFloatsModel" 220 (60) ∈ hx_tb := List.mem_filter.mpr ⟨List.mem_of_getElem? (i := 823) (by decide +kernel), by decide +kernel⟩
theorem k_824 : Cond.constantLong "HalfFloatsModel" 222 (100) ∈ hx_tb := List.mem_filter.mpr ⟨List.mem_of_getElem? (i := 824) (by decide +kernel), by decide +kernel⟩
theorem k_825 : Cond.methodLink "HalfFloatsLaw" 97 ⟨"HalfFloatsModel","step","(I)I"⟩ ∈ hx_tb := List.mem_filter.mpr ⟨List.mem_of_getElem? (i := 825) (by decide +kernel), by decide +kernel⟩
theorem k_826 : Cond.instanceMethod ⟨"HalfFloatsModel","step","(I)I"⟩ ∈ hx_tb := List.mem_filter.mpr ⟨List.mem_of_getElem? (i := 826) (by decide +kernel), by decide +kernel⟩
theorem k_827 : Cond.selects "HalfFloatsModel" ⟨"HalfFloatsModel","step","(I)I"⟩ ⟨"HalfFloatsModel","step","(I)I"⟩ ∈ hx_tb := List.mem_filter.mpr ⟨List.mem_of_getElem? (i := 827) (by decide +kernel), by decide +kernel⟩
theorem k_828 : Cond.code y_M_step b_M_step 8 (Option.some FieldType.int) ∈ hx_tb := List.mem_filter.mpr ⟨List.mem_of_getElem? (i := 828) (by decide +kernel), by decide +kernel⟩
theorem k_829 : Cond.methodLink "HalfFloatsLaw" 101 ⟨"HalfFloatsModel","kept","(III)I"⟩ ∈ hx_tb := List.mem_filter.mpr ⟨List.mem_of_getElem? (i := 829) (by decide +kernel), by decide +kernel⟩
theorem k_830 : Cond.instanceMethod ⟨"HalfFloatsModel","kept","(III)I"⟩ ∈ hx_tb := List.mem_filter.mpr ⟨List.mem_of_getElem? (i := 830) (by decide +kernel), by decide +kernel⟩
theorem k_831 : Cond.selects "HalfFloatsModel" ⟨"HalfFloatsModel","kept","(III)I"⟩ ⟨"HalfFloatsModel","kept","(III)I"⟩ ∈ hx_tb := List.mem_filter.mpr ⟨List.mem_of_getElem? (i := 831) (by decide +kernel), by decide +kernel⟩
theorem k_832 : Cond.code y_M_kept b_M_kept 8 (Option.some FieldType.int) ∈ hx_tb := List.mem_filter.mpr ⟨List.mem_of_getElem? (i := 832) (by decide +kernel), by decide +kernel⟩
