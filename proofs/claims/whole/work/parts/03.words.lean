def GG : List Cond := lw_tbl.filter goodWord
theorem gg_in {w : Cond} (i : Nat) (h : lw_tbl[i]? = some w) (g : goodWord w = true) : w ∈ GG := List.mem_filter.mpr ⟨List.mem_of_getElem? h, g⟩
theorem gg_good : ∀ w ∈ GG, w ∈ lw_tbl ∧ goodWord w = true := fun w h => List.mem_filter.mp h
theorem gw_0 : Cond.selects "StarChart$Reader" ⟨"StarChart$Reader","cut","()V"⟩ ⟨"StarChart$Reader","cut","()V"⟩ ∈ GG := gg_in 0 (by decide +kernel) (by decide +kernel)
theorem gw_1 : Cond.selects "StarChart$Reader" ⟨"StarChart$Reader","rowEnd","(I)I"⟩ ⟨"StarChart$Reader","rowEnd","(I)I"⟩ ∈ GG := gg_in 1 (by decide +kernel) (by decide +kernel)
theorem gw_2 : Cond.selects "StarChart$Reader" ⟨"StarChart$Reader","tokenOf","(II)I"⟩ ⟨"StarChart$Reader","tokenOf","(II)I"⟩ ∈ GG := gg_in 2 (by decide +kernel) (by decide +kernel)
theorem gw_3 : Cond.selects "StarChart$Reader" ⟨"StarChart$Reader","numberOf","(II)I"⟩ ⟨"StarChart$Reader","numberOf","(II)I"⟩ ∈ GG := gg_in 3 (by decide +kernel) (by decide +kernel)
theorem gw_4 : Cond.selects "StarChart$Reader" ⟨"StarChart$Reader","spells","(IILjava/lang/String;)Z"⟩ ⟨"StarChart$Reader","spells","(IILjava/lang/String;)Z"⟩ ∈ GG := gg_in 4 (by decide +kernel) (by decide +kernel)
theorem gw_5 : Cond.selects "StarChart$Reader" ⟨"StarChart$Reader","seen","()I"⟩ ⟨"StarChart$Reader","seen","()I"⟩ ∈ GG := gg_in 5 (by decide +kernel) (by decide +kernel)
theorem gw_6 : Cond.selects "StarChart$Reader" ⟨"StarChart$Reader","readItem","()Z"⟩ ⟨"StarChart$Reader","readItem","()Z"⟩ ∈ GG := gg_in 6 (by decide +kernel) (by decide +kernel)
theorem gw_7 : Cond.selects "StarChart$Reader" ⟨"StarChart$Reader","readChild","()Z"⟩ ⟨"StarChart$Reader","readChild","()Z"⟩ ∈ GG := gg_in 7 (by decide +kernel) (by decide +kernel)
theorem gw_8 : Cond.selects "StarChart$Reader" ⟨"StarChart$Reader","readNumber","(II)I"⟩ ⟨"StarChart$Reader","readNumber","(II)I"⟩ ∈ GG := gg_in 8 (by decide +kernel) (by decide +kernel)
theorem gw_9 : Cond.selects "StarChart$Reader" ⟨"StarChart$Reader","readBook","()Z"⟩ ⟨"StarChart$Reader","readBook","()Z"⟩ ∈ GG := gg_in 9 (by decide +kernel) (by decide +kernel)
theorem gw_10 : Cond.selects "StarChart$Reader" ⟨"StarChart$Reader","readPlan","()Z"⟩ ⟨"StarChart$Reader","readPlan","()Z"⟩ ∈ GG := gg_in 10 (by decide +kernel) (by decide +kernel)
theorem gw_11 : Cond.selects "StarChart$Reader" ⟨"StarChart$Reader","readWord","(I)Z"⟩ ⟨"StarChart$Reader","readWord","(I)Z"⟩ ∈ GG := gg_in 11 (by decide +kernel) (by decide +kernel)
theorem gw_12 : Cond.selects "StarChart$Reader" ⟨"StarChart$Reader","readPay","()Z"⟩ ⟨"StarChart$Reader","readPay","()Z"⟩ ∈ GG := gg_in 12 (by decide +kernel) (by decide +kernel)
theorem gw_13 : Cond.selects "StarChart" ⟨"StarChart","isChild","(I)Z"⟩ ⟨"StarChart","isChild","(I)Z"⟩ ∈ GG := gg_in 13 (by decide +kernel) (by decide +kernel)
theorem gw_14 : Cond.selects "StarChart" ⟨"StarChart","isSort","(I)Z"⟩ ⟨"StarChart","isSort","(I)Z"⟩ ∈ GG := gg_in 14 (by decide +kernel) (by decide +kernel)
theorem gw_15 : Cond.selects "StarChart$Course" ⟨"StarChart$Course","likingBehind","(LStarChart$Sheet;[III)I"⟩ ⟨"StarChart$Course","likingBehind","(LStarChart$Sheet;[III)I"⟩ ∈ GG := gg_in 15 (by decide +kernel) (by decide +kernel)
theorem gw_16 : Cond.selects "StarChart$Course" ⟨"StarChart$Course","worthBehind","(LStarChart$Sheet;[II)I"⟩ ⟨"StarChart$Course","worthBehind","(LStarChart$Sheet;[II)I"⟩ ∈ GG := gg_in 16 (by decide +kernel) (by decide +kernel)
theorem gw_17 : Cond.selects "StarChart" ⟨"StarChart","pagesBetween","(II)I"⟩ ⟨"StarChart","pagesBetween","(II)I"⟩ ∈ GG := gg_in 17 (by decide +kernel) (by decide +kernel)
theorem gw_18 : Cond.selects "StarChart" ⟨"StarChart","likingOn","(I)I"⟩ ⟨"StarChart","likingOn","(I)I"⟩ ∈ GG := gg_in 18 (by decide +kernel) (by decide +kernel)
theorem gw_19 : Cond.selects "StarChart" ⟨"StarChart","fillJar","(II)V"⟩ ⟨"StarChart","fillJar","(II)V"⟩ ∈ GG := gg_in 19 (by decide +kernel) (by decide +kernel)
theorem gw_20 : Cond.selects "StarChart$Jar" ⟨"StarChart$Jar","hasBy","(II)I"⟩ ⟨"StarChart$Jar","hasBy","(II)I"⟩ ∈ GG := gg_in 20 (by decide +kernel) (by decide +kernel)
theorem gw_21 : Cond.selects "StarChart$Jar" ⟨"StarChart$Jar","pagesOf","(I)I"⟩ ⟨"StarChart$Jar","pagesOf","(I)I"⟩ ∈ GG := gg_in 21 (by decide +kernel) (by decide +kernel)
theorem gw_22 : Cond.selects "StarChart$Trials" ⟨"StarChart$Trials","sumOf","(I)I"⟩ ⟨"StarChart$Trials","sumOf","(I)I"⟩ ∈ GG := gg_in 22 (by decide +kernel) (by decide +kernel)
theorem gw_23 : Cond.selects "StarChart" ⟨"StarChart","rateOfPay","(I)I"⟩ ⟨"StarChart","rateOfPay","(I)I"⟩ ∈ GG := gg_in 23 (by decide +kernel) (by decide +kernel)
theorem gw_24 : Cond.selects "StarChart" ⟨"StarChart","rateOfTold","(I)I"⟩ ⟨"StarChart","rateOfTold","(I)I"⟩ ∈ GG := gg_in 24 (by decide +kernel) (by decide +kernel)
theorem gw_25 : Cond.selects "StarChart" ⟨"StarChart","rateOfUnforeseen","(I)I"⟩ ⟨"StarChart","rateOfUnforeseen","(I)I"⟩ ∈ GG := gg_in 25 (by decide +kernel) (by decide +kernel)
theorem gw_26 : Cond.selects "StarChart" ⟨"StarChart","rateOfDoing","(I)I"⟩ ⟨"StarChart","rateOfDoing","(I)I"⟩ ∈ GG := gg_in 26 (by decide +kernel) (by decide +kernel)
theorem gw_27 : Cond.selects "StarChart" ⟨"StarChart","rateOfWell","(I)I"⟩ ⟨"StarChart","rateOfWell","(I)I"⟩ ∈ GG := gg_in 27 (by decide +kernel) (by decide +kernel)
theorem gw_28 : Cond.selects "StarChart" ⟨"StarChart","rateOfCommon","(I)I"⟩ ⟨"StarChart","rateOfCommon","(I)I"⟩ ∈ GG := gg_in 28 (by decide +kernel) (by decide +kernel)
theorem gw_29 : Cond.selects "StarChart" ⟨"StarChart","imageOf","(I)LStarChart$Image;"⟩ ⟨"StarChart","imageOf","(I)LStarChart$Image;"⟩ ∈ GG := gg_in 29 (by decide +kernel) (by decide +kernel)
theorem gw_30 : Cond.selects "StarChartModel" ⟨"StarChartModel","drafts","()V"⟩ ⟨"StarChartModel","drafts","()V"⟩ ∈ GG := gg_in 30 (by decide +kernel) (by decide +kernel)
theorem gw_31 : Cond.selects "StarChartModel" ⟨"StarChartModel","adopts","()V"⟩ ⟨"StarChartModel","adopts","()V"⟩ ∈ GG := gg_in 31 (by decide +kernel) (by decide +kernel)
theorem gw_32 : Cond.selects "StarChartModel" ⟨"StarChartModel","begins","([I)V"⟩ ⟨"StarChartModel","begins","([I)V"⟩ ∈ GG := gg_in 32 (by decide +kernel) (by decide +kernel)
theorem gw_33 : Cond.selects "StarChartModel" ⟨"StarChartModel","advances","()V"⟩ ⟨"StarChartModel","advances","()V"⟩ ∈ GG := gg_in 33 (by decide +kernel) (by decide +kernel)
theorem gw_34 : Cond.selects "StarChartModel" ⟨"StarChartModel","byteAt","(I)I"⟩ ⟨"StarChartModel","byteAt","(I)I"⟩ ∈ GG := gg_in 34 (by decide +kernel) (by decide +kernel)
theorem gw_35 : Cond.selects "StarChartModel" ⟨"StarChartModel","isWell","()Z"⟩ ⟨"StarChartModel","isWell","()Z"⟩ ∈ GG := gg_in 35 (by decide +kernel) (by decide +kernel)
theorem gw_36 : Cond.selects "StarChartModel" ⟨"StarChartModel","takes","(Z)I"⟩ ⟨"StarChartModel","takes","(Z)I"⟩ ∈ GG := gg_in 36 (by decide +kernel) (by decide +kernel)
theorem gw_37 : Cond.selects "StarChartModel" ⟨"StarChartModel","readsItem","(I)V"⟩ ⟨"StarChartModel","readsItem","(I)V"⟩ ∈ GG := gg_in 37 (by decide +kernel) (by decide +kernel)
theorem gw_38 : Cond.selects "StarChartModel" ⟨"StarChartModel","number","(II)I"⟩ ⟨"StarChartModel","number","(II)I"⟩ ∈ GG := gg_in 38 (by decide +kernel) (by decide +kernel)
theorem gw_39 : Cond.selects "StarChartModel" ⟨"StarChartModel","takesWord","(I)Z"⟩ ⟨"StarChartModel","takesWord","(I)Z"⟩ ∈ GG := gg_in 39 (by decide +kernel) (by decide +kernel)
theorem gw_40 : Cond.selects "StarChartModel" ⟨"StarChartModel","isChild","(I)Z"⟩ ⟨"StarChartModel","isChild","(I)Z"⟩ ∈ GG := gg_in 40 (by decide +kernel) (by decide +kernel)
theorem gw_41 : Cond.selects "StarChartModel" ⟨"StarChartModel","isSort","(I)Z"⟩ ⟨"StarChartModel","isSort","(I)Z"⟩ ∈ GG := gg_in 41 (by decide +kernel) (by decide +kernel)
theorem gw_42 : Cond.selects "StarChartModel" ⟨"StarChartModel","givenOf","(II)I"⟩ ⟨"StarChartModel","givenOf","(II)I"⟩ ∈ GG := gg_in 42 (by decide +kernel) (by decide +kernel)
theorem gw_43 : Cond.selects "StarChartModel" ⟨"StarChartModel","pagesOf","(II)I"⟩ ⟨"StarChartModel","pagesOf","(II)I"⟩ ∈ GG := gg_in 43 (by decide +kernel) (by decide +kernel)
theorem gw_44 : Cond.selects "StarChartModel" ⟨"StarChartModel","joysOf","([III)I"⟩ ⟨"StarChartModel","joysOf","([III)I"⟩ ∈ GG := gg_in 44 (by decide +kernel) (by decide +kernel)
theorem gw_45 : Cond.selects "StarChartModel" ⟨"StarChartModel","starsOf","([IIII)I"⟩ ⟨"StarChartModel","starsOf","([IIII)I"⟩ ∈ GG := gg_in 45 (by decide +kernel) (by decide +kernel)
theorem gw_46 : Cond.selects "StarChartModel" ⟨"StarChartModel","wantOf","([IIII)I"⟩ ⟨"StarChartModel","wantOf","([IIII)I"⟩ ∈ GG := gg_in 46 (by decide +kernel) (by decide +kernel)
theorem gw_47 : Cond.selects "StarChartModel" ⟨"StarChartModel","choiceOf","([III)I"⟩ ⟨"StarChartModel","choiceOf","([III)I"⟩ ∈ GG := gg_in 47 (by decide +kernel) (by decide +kernel)
theorem gw_48 : Cond.selects "StarChartModel" ⟨"StarChartModel","goesBy","([I)I"⟩ ⟨"StarChartModel","goesBy","([I)I"⟩ ∈ GG := gg_in 48 (by decide +kernel) (by decide +kernel)
theorem gw_49 : Cond.selects "StarChartModel" ⟨"StarChartModel","allOf","([II)I"⟩ ⟨"StarChartModel","allOf","([II)I"⟩ ∈ GG := gg_in 49 (by decide +kernel) (by decide +kernel)
theorem gw_50 : Cond.selects "StarChartModel" ⟨"StarChartModel","pagesBy","(II)I"⟩ ⟨"StarChartModel","pagesBy","(II)I"⟩ ∈ GG := gg_in 50 (by decide +kernel) (by decide +kernel)
theorem gw_51 : Cond.selects "StarChartModel" ⟨"StarChartModel","endOn","(I)I"⟩ ⟨"StarChartModel","endOn","(I)I"⟩ ∈ GG := gg_in 51 (by decide +kernel) (by decide +kernel)
theorem gw_52 : Cond.selects "StarChartModel" ⟨"StarChartModel","aside","(Z)V"⟩ ⟨"StarChartModel","aside","(Z)V"⟩ ∈ GG := gg_in 52 (by decide +kernel) (by decide +kernel)
theorem gw_53 : Cond.selects "StarChartModel" ⟨"StarChartModel","jarHas","(IIII)I"⟩ ⟨"StarChartModel","jarHas","(IIII)I"⟩ ∈ GG := gg_in 53 (by decide +kernel) (by decide +kernel)
theorem gw_54 : Cond.selects "StarChartModel" ⟨"StarChartModel","jarSort","(I)I"⟩ ⟨"StarChartModel","jarSort","(I)I"⟩ ∈ GG := gg_in 54 (by decide +kernel) (by decide +kernel)
theorem gw_55 : Cond.selects "StarChartModel" ⟨"StarChartModel","jarPages","(I)I"⟩ ⟨"StarChartModel","jarPages","(I)I"⟩ ∈ GG := gg_in 55 (by decide +kernel) (by decide +kernel)
theorem gw_56 : Cond.selects "StarChartModel" ⟨"StarChartModel","meanOf","(II)I"⟩ ⟨"StarChartModel","meanOf","(II)I"⟩ ∈ GG := gg_in 56 (by decide +kernel) (by decide +kernel)
theorem gw_57 : Cond.selects "StarChartModel" ⟨"StarChartModel","sumOf","(I)I"⟩ ⟨"StarChartModel","sumOf","(I)I"⟩ ∈ GG := gg_in 57 (by decide +kernel) (by decide +kernel)
theorem gw_58 : Cond.selects "StarChartModel" ⟨"StarChartModel","manyOf","(I)I"⟩ ⟨"StarChartModel","manyOf","(I)I"⟩ ∈ GG := gg_in 58 (by decide +kernel) (by decide +kernel)
theorem gw_59 : Cond.initialized "StarChartLaw" ∈ GG := gg_in 59 (by decide +kernel) (by decide +kernel)
theorem gw_60 : Cond.initialized "StarChart" ∈ GG := gg_in 60 (by decide +kernel) (by decide +kernel)
theorem gw_61 : Cond.initialized "StarChart$Sheet" ∈ GG := gg_in 61 (by decide +kernel) (by decide +kernel)
theorem gw_62 : Cond.initialized "StarChart$Reader" ∈ GG := gg_in 62 (by decide +kernel) (by decide +kernel)
theorem gw_63 : Cond.initialized "StarChart$Course" ∈ GG := gg_in 63 (by decide +kernel) (by decide +kernel)
theorem gw_64 : Cond.initialized "StarChart$Image" ∈ GG := gg_in 64 (by decide +kernel) (by decide +kernel)
theorem gw_65 : Cond.initialized "StarChart$Trials" ∈ GG := gg_in 65 (by decide +kernel) (by decide +kernel)
theorem gw_66 : Cond.initialized "StarChart$Jar" ∈ GG := gg_in 66 (by decide +kernel) (by decide +kernel)
theorem gw_67 : Cond.initialized "java/lang/System" ∈ GG := gg_in 67 (by decide +kernel) (by decide +kernel)
theorem gw_68 : Cond.initialized "StarChartModel" ∈ GG := gg_in 68 (by decide +kernel) (by decide +kernel)
theorem gw_69 : Cond.initialized "java/lang/String" ∈ GG := gg_in 69 (by decide +kernel) (by decide +kernel)
theorem gw_70 : Cond.initialized "java/lang/StringLatin1" ∈ GG := gg_in 70 (by decide +kernel) (by decide +kernel)
theorem gw_71 : Cond.initialized "jdk/internal/util/Preconditions" ∈ GG := gg_in 71 (by decide +kernel) (by decide +kernel)
theorem gw_72 : Cond.initialized "java/lang/StringUTF16" ∈ GG := gg_in 72 (by decide +kernel) (by decide +kernel)
theorem gw_73 : Cond.initialized "java/lang/Math" ∈ GG := gg_in 73 (by decide +kernel) (by decide +kernel)
theorem gw_74 : Cond.classLink "StarChartLaw" 7 "StarChart" ∈ GG := gg_in 74 (by decide +kernel) (by decide +kernel)
theorem gw_75 : Cond.instantiable "StarChart" 12 ∈ GG := gg_in 75 (by decide +kernel) (by decide +kernel)
theorem gw_76 : Cond.methodLink "StarChartLaw" 9 ⟨"StarChart","<init>","()V"⟩ ∈ GG := gg_in 76 (by decide +kernel) (by decide +kernel)
theorem gw_77 : Cond.instanceMethod ⟨"StarChart","<init>","()V"⟩ ∈ GG := gg_in 77 (by decide +kernel) (by decide +kernel)
set_option maxRecDepth 20000 in
theorem gw_78 : Cond.code ⟨"StarChart","<init>","()V"⟩ prog_1_method_1_code 1 none ∈ GG := gg_in 78 rfl rfl
theorem gw_79 : Cond.methodLink "StarChart" 1 ⟨"java/lang/Object","<init>","()V"⟩ ∈ GG := gg_in 79 (by decide +kernel) (by decide +kernel)
theorem gw_80 : Cond.instanceMethod ⟨"java/lang/Object","<init>","()V"⟩ ∈ GG := gg_in 80 (by decide +kernel) (by decide +kernel)
set_option maxRecDepth 20000 in
theorem gw_81 : Cond.code ⟨"java/lang/Object","<init>","()V"⟩ object_method_1_code 1 none ∈ GG := gg_in 81 rfl rfl
theorem gw_82 : Cond.classLink "StarChart" 7 "StarChart$Sheet" ∈ GG := gg_in 82 (by decide +kernel) (by decide +kernel)
theorem gw_83 : Cond.instantiable "StarChart$Sheet" 12 ∈ GG := gg_in 83 (by decide +kernel) (by decide +kernel)
theorem lt_84 : Cond.methodLinkNest "StarChart" 9 ⟨"StarChart$Sheet","<init>","()V"⟩ "StarChart" ∈ lw_tbl := List.mem_of_getElem? (i := 84) (by decide +kernel)
theorem gw_85 : Cond.instanceMethod ⟨"StarChart$Sheet","<init>","()V"⟩ ∈ GG := gg_in 85 (by decide +kernel) (by decide +kernel)
set_option maxRecDepth 20000 in
theorem gw_86 : Cond.code ⟨"StarChart$Sheet","<init>","()V"⟩ prog_6_method_1_code 1 none ∈ GG := gg_in 86 rfl rfl
theorem gw_87 : Cond.methodLink "StarChart$Sheet" 3 ⟨"java/lang/Object","<init>","()V"⟩ ∈ GG := gg_in 87 (by decide +kernel) (by decide +kernel)
theorem gw_88 : Cond.fieldLink "StarChart$Sheet" 30 "StarChart$Sheet" "children" "I" ∈ GG := gg_in 88 (by decide +kernel) (by decide +kernel)
theorem gw_89 : Cond.fieldLink "StarChart$Course" 67 "StarChart$Sheet" "children" "I" ∈ GG := gg_in 89 (by decide +kernel) (by decide +kernel)
theorem gw_90 : Cond.fieldLink "StarChart" 202 "StarChart$Sheet" "children" "I" ∈ GG := gg_in 90 (by decide +kernel) (by decide +kernel)
theorem gw_91 : Cond.fieldLink "StarChart$Reader" 102 "StarChart$Sheet" "children" "I" ∈ GG := gg_in 91 (by decide +kernel) (by decide +kernel)
theorem gw_92 : Cond.fieldLink "StarChart$Sheet" 34 "StarChart$Sheet" "sorts" "I" ∈ GG := gg_in 92 (by decide +kernel) (by decide +kernel)
theorem gw_93 : Cond.fieldLink "StarChart$Course" 61 "StarChart$Sheet" "sorts" "I" ∈ GG := gg_in 93 (by decide +kernel) (by decide +kernel)
theorem gw_94 : Cond.fieldLink "StarChart$Reader" 108 "StarChart$Sheet" "sorts" "I" ∈ GG := gg_in 94 (by decide +kernel) (by decide +kernel)
theorem gw_95 : Cond.fieldLink "StarChart" 223 "StarChart$Sheet" "sorts" "I" ∈ GG := gg_in 95 (by decide +kernel) (by decide +kernel)
theorem gw_96 : Cond.fieldLink "StarChart$Sheet" 9 "StarChart$Sheet" "liking" "[I" ∈ GG := gg_in 96 (by decide +kernel) (by decide +kernel)
theorem gw_97 : Cond.fieldLink "StarChart$Course" 28 "StarChart$Sheet" "liking" "[I" ∈ GG := gg_in 97 (by decide +kernel) (by decide +kernel)
theorem gw_98 : Cond.fieldLink "StarChart" 121 "StarChart$Sheet" "liking" "[I" ∈ GG := gg_in 98 (by decide +kernel) (by decide +kernel)
theorem gw_99 : Cond.fieldLink "StarChart$Sheet" 15 "StarChart$Sheet" "able" "[I" ∈ GG := gg_in 99 (by decide +kernel) (by decide +kernel)
theorem gw_100 : Cond.fieldLink "StarChart" 124 "StarChart$Sheet" "able" "[I" ∈ GG := gg_in 100 (by decide +kernel) (by decide +kernel)
theorem gw_101 : Cond.fieldLink "StarChart$Sheet" 18 "StarChart$Sheet" "take" "[I" ∈ GG := gg_in 101 (by decide +kernel) (by decide +kernel)
theorem gw_102 : Cond.fieldLink "StarChart" 127 "StarChart$Sheet" "take" "[I" ∈ GG := gg_in 102 (by decide +kernel) (by decide +kernel)
theorem gw_103 : Cond.fieldLink "StarChart$Course" 47 "StarChart$Sheet" "take" "[I" ∈ GG := gg_in 103 (by decide +kernel) (by decide +kernel)
theorem gw_104 : Cond.fieldLink "StarChart$Sheet" 21 "StarChart$Sheet" "hard" "[I" ∈ GG := gg_in 104 (by decide +kernel) (by decide +kernel)
theorem gw_105 : Cond.fieldLink "StarChart" 140 "StarChart$Sheet" "hard" "[I" ∈ GG := gg_in 105 (by decide +kernel) (by decide +kernel)
theorem gw_106 : Cond.fieldLink "StarChart$Sheet" 24 "StarChart$Sheet" "joy" "[I" ∈ GG := gg_in 106 (by decide +kernel) (by decide +kernel)
theorem gw_107 : Cond.fieldLink "StarChart$Course" 37 "StarChart$Sheet" "joy" "[I" ∈ GG := gg_in 107 (by decide +kernel) (by decide +kernel)
theorem gw_108 : Cond.fieldLink "StarChart" 143 "StarChart$Sheet" "joy" "[I" ∈ GG := gg_in 108 (by decide +kernel) (by decide +kernel)
theorem gw_109 : Cond.fieldLink "StarChart$Sheet" 27 "StarChart$Sheet" "pay" "[I" ∈ GG := gg_in 109 (by decide +kernel) (by decide +kernel)
theorem gw_110 : Cond.fieldLink "StarChart" 146 "StarChart$Sheet" "pay" "[I" ∈ GG := gg_in 110 (by decide +kernel) (by decide +kernel)
theorem gw_111 : Cond.fieldLink "StarChart$Reader" 135 "StarChart$Sheet" "pay" "[I" ∈ GG := gg_in 111 (by decide +kernel) (by decide +kernel)
theorem gw_112 : Cond.fieldLink "StarChart$Sheet" 44 "StarChart$Sheet" "from" "I" ∈ GG := gg_in 112 (by decide +kernel) (by decide +kernel)
theorem gw_113 : Cond.fieldLink "StarChart" 149 "StarChart$Sheet" "from" "I" ∈ GG := gg_in 113 (by decide +kernel) (by decide +kernel)
theorem gw_114 : Cond.fieldLink "StarChart$Sheet" 47 "StarChart$Sheet" "until" "I" ∈ GG := gg_in 114 (by decide +kernel) (by decide +kernel)
theorem gw_115 : Cond.fieldLink "StarChart" 152 "StarChart$Sheet" "until" "I" ∈ GG := gg_in 115 (by decide +kernel) (by decide +kernel)
theorem gw_116 : Cond.fieldLink "StarChart$Sheet" 54 "StarChart$Sheet" "thin" "I" ∈ GG := gg_in 116 (by decide +kernel) (by decide +kernel)
theorem gw_117 : Cond.fieldLink "StarChart" 158 "StarChart$Sheet" "thin" "I" ∈ GG := gg_in 117 (by decide +kernel) (by decide +kernel)
theorem gw_118 : Cond.fieldLink "StarChart$Sheet" 50 "StarChart$Sheet" "told" "Z" ∈ GG := gg_in 118 (by decide +kernel) (by decide +kernel)
theorem gw_119 : Cond.fieldLink "StarChart$Course" 54 "StarChart$Sheet" "told" "Z" ∈ GG := gg_in 119 (by decide +kernel) (by decide +kernel)
theorem gw_120 : Cond.fieldLink "StarChart" 155 "StarChart$Sheet" "told" "Z" ∈ GG := gg_in 120 (by decide +kernel) (by decide +kernel)
theorem gw_121 : Cond.lays "StarChart$Sheet" "StarChart$Sheet" "children" "I" ∈ GG := gg_in 121 (by decide +kernel) (by decide +kernel)
theorem gw_123 : Cond.lays "StarChart$Sheet" "StarChart$Sheet" "sorts" "I" ∈ GG := gg_in 123 (by decide +kernel) (by decide +kernel)
theorem gw_125 : Cond.laysFinal "StarChart$Sheet" "StarChart$Sheet" "liking" "[I" ∈ GG := gg_in 125 (by decide +kernel) (by decide +kernel)
theorem gw_127 : Cond.laysFinal "StarChart$Sheet" "StarChart$Sheet" "able" "[I" ∈ GG := gg_in 127 (by decide +kernel) (by decide +kernel)
theorem gw_129 : Cond.laysFinal "StarChart$Sheet" "StarChart$Sheet" "take" "[I" ∈ GG := gg_in 129 (by decide +kernel) (by decide +kernel)
theorem gw_131 : Cond.laysFinal "StarChart$Sheet" "StarChart$Sheet" "hard" "[I" ∈ GG := gg_in 131 (by decide +kernel) (by decide +kernel)
theorem gw_133 : Cond.laysFinal "StarChart$Sheet" "StarChart$Sheet" "joy" "[I" ∈ GG := gg_in 133 (by decide +kernel) (by decide +kernel)
theorem gw_135 : Cond.laysFinal "StarChart$Sheet" "StarChart$Sheet" "pay" "[I" ∈ GG := gg_in 135 (by decide +kernel) (by decide +kernel)
theorem gw_137 : Cond.lays "StarChart$Sheet" "StarChart$Sheet" "from" "I" ∈ GG := gg_in 137 (by decide +kernel) (by decide +kernel)
theorem gw_139 : Cond.lays "StarChart$Sheet" "StarChart$Sheet" "until" "I" ∈ GG := gg_in 139 (by decide +kernel) (by decide +kernel)
theorem gw_141 : Cond.lays "StarChart$Sheet" "StarChart$Sheet" "thin" "I" ∈ GG := gg_in 141 (by decide +kernel) (by decide +kernel)
theorem gw_143 : Cond.lays "StarChart$Sheet" "StarChart$Sheet" "told" "Z" ∈ GG := gg_in 143 (by decide +kernel) (by decide +kernel)
theorem gw_146 : Cond.arrayClass .int ∈ GG := gg_in 146 (by decide +kernel) (by decide +kernel)
theorem gw_147 : Cond.classLink "StarChart" 16 "StarChart$Reader" ∈ GG := gg_in 147 (by decide +kernel) (by decide +kernel)
theorem gw_148 : Cond.instantiable "StarChart$Reader" 7 ∈ GG := gg_in 148 (by decide +kernel) (by decide +kernel)
theorem lt_149 : Cond.methodLinkNest "StarChart" 18 ⟨"StarChart$Reader","<init>","()V"⟩ "StarChart" ∈ lw_tbl := List.mem_of_getElem? (i := 149) (by decide +kernel)
theorem gw_150 : Cond.instanceMethod ⟨"StarChart$Reader","<init>","()V"⟩ ∈ GG := gg_in 150 (by decide +kernel) (by decide +kernel)
set_option maxRecDepth 20000 in
theorem gw_151 : Cond.code ⟨"StarChart$Reader","<init>","()V"⟩ prog_5_method_1_code 1 none ∈ GG := gg_in 151 rfl rfl
theorem gw_152 : Cond.methodLink "StarChart$Reader" 3 ⟨"java/lang/Object","<init>","()V"⟩ ∈ GG := gg_in 152 (by decide +kernel) (by decide +kernel)
theorem gw_153 : Cond.classLink "StarChart$Reader" 19 "StarChart$Sheet" ∈ GG := gg_in 153 (by decide +kernel) (by decide +kernel)
theorem lt_154 : Cond.methodLinkNest "StarChart$Reader" 21 ⟨"StarChart$Sheet","<init>","()V"⟩ "StarChart" ∈ lw_tbl := List.mem_of_getElem? (i := 154) (by decide +kernel)
theorem gw_155 : Cond.fieldLink "StarChart$Reader" 9 "StarChart$Reader" "length" "I" ∈ GG := gg_in 155 (by decide +kernel) (by decide +kernel)
theorem gw_156 : Cond.fieldLink "StarChart" 96 "StarChart$Reader" "length" "I" ∈ GG := gg_in 156 (by decide +kernel) (by decide +kernel)
theorem gw_157 : Cond.fieldLink "StarChart$Reader" 15 "StarChart$Reader" "text" "[I" ∈ GG := gg_in 157 (by decide +kernel) (by decide +kernel)
theorem gw_158 : Cond.fieldLink "StarChart$Reader" 22 "StarChart$Reader" "draft" "LStarChart$Sheet;" ∈ GG := gg_in 158 (by decide +kernel) (by decide +kernel)
theorem gw_159 : Cond.fieldLink "StarChart" 106 "StarChart$Reader" "draft" "LStarChart$Sheet;" ∈ GG := gg_in 159 (by decide +kernel) (by decide +kernel)
theorem gw_160 : Cond.fieldLink "StarChart$Reader" 26 "StarChart$Reader" "token" "[I" ∈ GG := gg_in 160 (by decide +kernel) (by decide +kernel)
theorem gw_161 : Cond.fieldLink "StarChart$Reader" 29 "StarChart$Reader" "place" "[I" ∈ GG := gg_in 161 (by decide +kernel) (by decide +kernel)
theorem gw_162 : Cond.fieldLink "StarChart$Reader" 42 "StarChart$Reader" "at" "I" ∈ GG := gg_in 162 (by decide +kernel) (by decide +kernel)
theorem gw_163 : Cond.fieldLink "StarChart$Reader" 38 "StarChart$Reader" "planned" "Z" ∈ GG := gg_in 163 (by decide +kernel) (by decide +kernel)
theorem gw_164 : Cond.lays "StarChart$Reader" "StarChart$Reader" "length" "I" ∈ GG := gg_in 164 (by decide +kernel) (by decide +kernel)
theorem gw_166 : Cond.laysFinal "StarChart$Reader" "StarChart$Reader" "text" "[I" ∈ GG := gg_in 166 (by decide +kernel) (by decide +kernel)
theorem gw_168 : Cond.laysFinal "StarChart$Reader" "StarChart$Reader" "draft" "LStarChart$Sheet;" ∈ GG := gg_in 168 (by decide +kernel) (by decide +kernel)
theorem gw_170 : Cond.laysFinal "StarChart$Reader" "StarChart$Reader" "token" "[I" ∈ GG := gg_in 170 (by decide +kernel) (by decide +kernel)
theorem gw_172 : Cond.laysFinal "StarChart$Reader" "StarChart$Reader" "place" "[I" ∈ GG := gg_in 172 (by decide +kernel) (by decide +kernel)
theorem gw_174 : Cond.lays "StarChart$Reader" "StarChart$Reader" "at" "I" ∈ GG := gg_in 174 (by decide +kernel) (by decide +kernel)
theorem gw_176 : Cond.lays "StarChart$Reader" "StarChart$Reader" "planned" "Z" ∈ GG := gg_in 176 (by decide +kernel) (by decide +kernel)
theorem gw_179 : Cond.classLink "StarChart" 23 "StarChart$Course" ∈ GG := gg_in 179 (by decide +kernel) (by decide +kernel)
theorem gw_180 : Cond.instantiable "StarChart$Course" 5 ∈ GG := gg_in 180 (by decide +kernel) (by decide +kernel)
theorem lt_181 : Cond.methodLinkNest "StarChart" 25 ⟨"StarChart$Course","<init>","()V"⟩ "StarChart" ∈ lw_tbl := List.mem_of_getElem? (i := 181) (by decide +kernel)
theorem gw_182 : Cond.instanceMethod ⟨"StarChart$Course","<init>","()V"⟩ ∈ GG := gg_in 182 (by decide +kernel) (by decide +kernel)
set_option maxRecDepth 20000 in
theorem gw_183 : Cond.code ⟨"StarChart$Course","<init>","()V"⟩ prog_2_method_1_code 1 none ∈ GG := gg_in 183 rfl rfl
theorem gw_184 : Cond.methodLink "StarChart$Course" 3 ⟨"java/lang/Object","<init>","()V"⟩ ∈ GG := gg_in 184 (by decide +kernel) (by decide +kernel)
theorem gw_185 : Cond.fieldLink "StarChart$Course" 21 "StarChart$Course" "day" "I" ∈ GG := gg_in 185 (by decide +kernel) (by decide +kernel)
theorem gw_186 : Cond.fieldLink "StarChart" 187 "StarChart$Course" "day" "I" ∈ GG := gg_in 186 (by decide +kernel) (by decide +kernel)
theorem gw_187 : Cond.fieldLink "StarChart$Course" 25 "StarChart$Course" "worth" "I" ∈ GG := gg_in 187 (by decide +kernel) (by decide +kernel)
theorem gw_188 : Cond.fieldLink "StarChart" 199 "StarChart$Course" "worth" "I" ∈ GG := gg_in 188 (by decide +kernel) (by decide +kernel)
theorem gw_189 : Cond.fieldLink "StarChart$Course" 9 "StarChart$Course" "liking" "[I" ∈ GG := gg_in 189 (by decide +kernel) (by decide +kernel)
theorem gw_190 : Cond.fieldLink "StarChart" 130 "StarChart$Course" "liking" "[I" ∈ GG := gg_in 190 (by decide +kernel) (by decide +kernel)
theorem gw_191 : Cond.fieldLink "StarChart$Course" 15 "StarChart$Course" "pages" "[I" ∈ GG := gg_in 191 (by decide +kernel) (by decide +kernel)
theorem gw_192 : Cond.fieldLink "StarChart" 131 "StarChart$Course" "pages" "[I" ∈ GG := gg_in 192 (by decide +kernel) (by decide +kernel)
theorem gw_193 : Cond.fieldLink "StarChart$Course" 18 "StarChart$Course" "stars" "[I" ∈ GG := gg_in 193 (by decide +kernel) (by decide +kernel)
theorem gw_194 : Cond.fieldLink "StarChart" 134 "StarChart$Course" "stars" "[I" ∈ GG := gg_in 194 (by decide +kernel) (by decide +kernel)
theorem gw_195 : Cond.lays "StarChart$Course" "StarChart$Course" "day" "I" ∈ GG := gg_in 195 (by decide +kernel) (by decide +kernel)
theorem gw_197 : Cond.lays "StarChart$Course" "StarChart$Course" "worth" "I" ∈ GG := gg_in 197 (by decide +kernel) (by decide +kernel)
theorem gw_199 : Cond.laysFinal "StarChart$Course" "StarChart$Course" "liking" "[I" ∈ GG := gg_in 199 (by decide +kernel) (by decide +kernel)
theorem gw_201 : Cond.laysFinal "StarChart$Course" "StarChart$Course" "pages" "[I" ∈ GG := gg_in 201 (by decide +kernel) (by decide +kernel)
theorem gw_203 : Cond.laysFinal "StarChart$Course" "StarChart$Course" "stars" "[I" ∈ GG := gg_in 203 (by decide +kernel) (by decide +kernel)
theorem gw_206 : Cond.classLink "StarChart" 34 "StarChart$Image" ∈ GG := gg_in 206 (by decide +kernel) (by decide +kernel)
theorem gw_207 : Cond.instantiable "StarChart$Image" 3 ∈ GG := gg_in 207 (by decide +kernel) (by decide +kernel)
theorem lt_208 : Cond.methodLinkNest "StarChart" 36 ⟨"StarChart$Image","<init>","()V"⟩ "StarChart" ∈ lw_tbl := List.mem_of_getElem? (i := 208) (by decide +kernel)
theorem gw_209 : Cond.instanceMethod ⟨"StarChart$Image","<init>","()V"⟩ ∈ GG := gg_in 209 (by decide +kernel) (by decide +kernel)
set_option maxRecDepth 20000 in
theorem gw_210 : Cond.code ⟨"StarChart$Image","<init>","()V"⟩ prog_3_method_1_code 1 none ∈ GG := gg_in 210 rfl rfl
theorem gw_211 : Cond.methodLink "StarChart$Image" 1 ⟨"java/lang/Object","<init>","()V"⟩ ∈ GG := gg_in 211 (by decide +kernel) (by decide +kernel)
theorem gw_212 : Cond.classLink "StarChart$Image" 17 "StarChart$Course" ∈ GG := gg_in 212 (by decide +kernel) (by decide +kernel)
theorem lt_213 : Cond.methodLinkNest "StarChart$Image" 19 ⟨"StarChart$Course","<init>","()V"⟩ "StarChart" ∈ lw_tbl := List.mem_of_getElem? (i := 213) (by decide +kernel)
theorem gw_214 : Cond.fieldLink "StarChart$Image" 7 "StarChart$Image" "kept" "Z" ∈ GG := gg_in 214 (by decide +kernel) (by decide +kernel)
theorem gw_215 : Cond.fieldLink "StarChart" 113 "StarChart$Image" "kept" "Z" ∈ GG := gg_in 215 (by decide +kernel) (by decide +kernel)
theorem gw_216 : Cond.fieldLink "StarChart$Image" 13 "StarChart$Image" "chance" "I" ∈ GG := gg_in 216 (by decide +kernel) (by decide +kernel)
theorem gw_217 : Cond.fieldLink "StarChart" 279 "StarChart$Image" "chance" "I" ∈ GG := gg_in 217 (by decide +kernel) (by decide +kernel)
theorem gw_218 : Cond.fieldLink "StarChart$Image" 20 "StarChart$Image" "course" "LStarChart$Course;" ∈ GG := gg_in 218 (by decide +kernel) (by decide +kernel)
theorem gw_219 : Cond.fieldLink "StarChart" 280 "StarChart$Image" "course" "LStarChart$Course;" ∈ GG := gg_in 219 (by decide +kernel) (by decide +kernel)
theorem gw_220 : Cond.lays "StarChart$Image" "StarChart$Image" "kept" "Z" ∈ GG := gg_in 220 (by decide +kernel) (by decide +kernel)
theorem gw_222 : Cond.lays "StarChart$Image" "StarChart$Image" "chance" "I" ∈ GG := gg_in 222 (by decide +kernel) (by decide +kernel)
theorem gw_224 : Cond.laysFinal "StarChart$Image" "StarChart$Image" "course" "LStarChart$Course;" ∈ GG := gg_in 224 (by decide +kernel) (by decide +kernel)
theorem gw_227 : Cond.classLink "StarChart" 44 "StarChart$Trials" ∈ GG := gg_in 227 (by decide +kernel) (by decide +kernel)
theorem gw_228 : Cond.instantiable "StarChart$Trials" 3 ∈ GG := gg_in 228 (by decide +kernel) (by decide +kernel)
theorem lt_229 : Cond.methodLinkNest "StarChart" 46 ⟨"StarChart$Trials","<init>","()V"⟩ "StarChart" ∈ lw_tbl := List.mem_of_getElem? (i := 229) (by decide +kernel)
theorem gw_230 : Cond.instanceMethod ⟨"StarChart$Trials","<init>","()V"⟩ ∈ GG := gg_in 230 (by decide +kernel) (by decide +kernel)
set_option maxRecDepth 20000 in
theorem gw_231 : Cond.code ⟨"StarChart$Trials","<init>","()V"⟩ prog_7_method_1_code 1 none ∈ GG := gg_in 231 rfl rfl
theorem gw_232 : Cond.methodLink "StarChart$Trials" 3 ⟨"java/lang/Object","<init>","()V"⟩ ∈ GG := gg_in 232 (by decide +kernel) (by decide +kernel)
theorem gw_233 : Cond.fieldLink "StarChart$Trials" 9 "StarChart$Trials" "many" "I" ∈ GG := gg_in 233 (by decide +kernel) (by decide +kernel)
theorem gw_234 : Cond.fieldLink "StarChart" 243 "StarChart$Trials" "many" "I" ∈ GG := gg_in 234 (by decide +kernel) (by decide +kernel)
theorem gw_235 : Cond.fieldLink "StarChart$Trials" 15 "StarChart$Trials" "sort" "[I" ∈ GG := gg_in 235 (by decide +kernel) (by decide +kernel)
theorem gw_236 : Cond.fieldLink "StarChart$Trials" 19 "StarChart$Trials" "came" "[I" ∈ GG := gg_in 236 (by decide +kernel) (by decide +kernel)
theorem gw_237 : Cond.lays "StarChart$Trials" "StarChart$Trials" "many" "I" ∈ GG := gg_in 237 (by decide +kernel) (by decide +kernel)
theorem gw_239 : Cond.laysFinal "StarChart$Trials" "StarChart$Trials" "sort" "[I" ∈ GG := gg_in 239 (by decide +kernel) (by decide +kernel)
theorem gw_241 : Cond.laysFinal "StarChart$Trials" "StarChart$Trials" "came" "[I" ∈ GG := gg_in 241 (by decide +kernel) (by decide +kernel)
theorem gw_244 : Cond.classLink "StarChart" 51 "StarChart$Jar" ∈ GG := gg_in 244 (by decide +kernel) (by decide +kernel)
theorem gw_245 : Cond.instantiable "StarChart$Jar" 5 ∈ GG := gg_in 245 (by decide +kernel) (by decide +kernel)
theorem lt_246 : Cond.methodLinkNest "StarChart" 53 ⟨"StarChart$Jar","<init>","()V"⟩ "StarChart" ∈ lw_tbl := List.mem_of_getElem? (i := 246) (by decide +kernel)
theorem gw_247 : Cond.instanceMethod ⟨"StarChart$Jar","<init>","()V"⟩ ∈ GG := gg_in 247 (by decide +kernel) (by decide +kernel)
set_option maxRecDepth 20000 in
theorem gw_248 : Cond.code ⟨"StarChart$Jar","<init>","()V"⟩ prog_4_method_1_code 1 none ∈ GG := gg_in 248 rfl rfl
theorem gw_249 : Cond.methodLink "StarChart$Jar" 3 ⟨"java/lang/Object","<init>","()V"⟩ ∈ GG := gg_in 249 (by decide +kernel) (by decide +kernel)
theorem gw_250 : Cond.fieldLink "StarChart$Jar" 29 "StarChart$Jar" "goal" "I" ∈ GG := gg_in 250 (by decide +kernel) (by decide +kernel)
theorem gw_251 : Cond.fieldLink "StarChart" 286 "StarChart$Jar" "goal" "I" ∈ GG := gg_in 251 (by decide +kernel) (by decide +kernel)
theorem gw_252 : Cond.fieldLink "StarChart$Jar" 21 "StarChart$Jar" "children" "I" ∈ GG := gg_in 252 (by decide +kernel) (by decide +kernel)
theorem gw_253 : Cond.fieldLink "StarChart" 289 "StarChart$Jar" "children" "I" ∈ GG := gg_in 253 (by decide +kernel) (by decide +kernel)
theorem gw_254 : Cond.fieldLink "StarChart$Jar" 9 "StarChart$Jar" "pages" "[I" ∈ GG := gg_in 254 (by decide +kernel) (by decide +kernel)
theorem gw_255 : Cond.fieldLink "StarChart" 290 "StarChart$Jar" "pages" "[I" ∈ GG := gg_in 255 (by decide +kernel) (by decide +kernel)
theorem gw_256 : Cond.fieldLink "StarChart$Jar" 15 "StarChart$Jar" "gain" "[I" ∈ GG := gg_in 256 (by decide +kernel) (by decide +kernel)
theorem gw_257 : Cond.fieldLink "StarChart" 291 "StarChart$Jar" "gain" "[I" ∈ GG := gg_in 257 (by decide +kernel) (by decide +kernel)
theorem gw_258 : Cond.fieldLink "StarChart$Jar" 18 "StarChart$Jar" "prize" "[I" ∈ GG := gg_in 258 (by decide +kernel) (by decide +kernel)
theorem gw_259 : Cond.fieldLink "StarChart" 294 "StarChart$Jar" "prize" "[I" ∈ GG := gg_in 259 (by decide +kernel) (by decide +kernel)
theorem gw_260 : Cond.lays "StarChart$Jar" "StarChart$Jar" "goal" "I" ∈ GG := gg_in 260 (by decide +kernel) (by decide +kernel)
theorem gw_262 : Cond.lays "StarChart$Jar" "StarChart$Jar" "children" "I" ∈ GG := gg_in 262 (by decide +kernel) (by decide +kernel)
theorem gw_264 : Cond.laysFinal "StarChart$Jar" "StarChart$Jar" "pages" "[I" ∈ GG := gg_in 264 (by decide +kernel) (by decide +kernel)
theorem gw_266 : Cond.laysFinal "StarChart$Jar" "StarChart$Jar" "gain" "[I" ∈ GG := gg_in 266 (by decide +kernel) (by decide +kernel)
theorem gw_268 : Cond.laysFinal "StarChart$Jar" "StarChart$Jar" "prize" "[I" ∈ GG := gg_in 268 (by decide +kernel) (by decide +kernel)
theorem gw_271 : Cond.fieldLink "StarChart" 72 "StarChart" "TUNE_FIRST" "[I" ∈ GG := gg_in 271 (by decide +kernel) (by decide +kernel)
theorem lt_272 : Cond.laysStatic "StarChart" "TUNE_FIRST" "[I" ∈ lw_tbl := List.mem_of_getElem? (i := 272) (by decide +kernel)
theorem gw_273 : Cond.methodLink "StarChart" 75 ⟨"java/lang/System","arraycopy","(Ljava/lang/Object;ILjava/lang/Object;II)V"⟩ ∈ GG := gg_in 273 (by decide +kernel) (by decide +kernel)
theorem gw_274 : Cond.static ⟨"java/lang/System","arraycopy","(Ljava/lang/Object;ILjava/lang/Object;II)V"⟩ ∈ GG := gg_in 274 (by decide +kernel) (by decide +kernel)
theorem gw_275 : Cond.native ⟨"java/lang/System","arraycopy","(Ljava/lang/Object;ILjava/lang/Object;II)V"⟩ ∈ GG := gg_in 275 (by decide +kernel) (by decide +kernel)
theorem gw_276 : Cond.methodLink "StarChart" 81 ⟨"StarChart$Sheet","wipe","()V"⟩ ∈ GG := gg_in 276 (by decide +kernel) (by decide +kernel)
theorem gw_277 : Cond.instanceMethod ⟨"StarChart$Sheet","wipe","()V"⟩ ∈ GG := gg_in 277 (by decide +kernel) (by decide +kernel)
theorem gw_278 : Cond.selects "StarChart$Sheet" ⟨"StarChart$Sheet","wipe","()V"⟩ ⟨"StarChart$Sheet","wipe","()V"⟩ ∈ GG := gg_in 278 (by decide +kernel) (by decide +kernel)
set_option maxRecDepth 20000 in
theorem gw_279 : Cond.code ⟨"StarChart$Sheet","wipe","()V"⟩ prog_6_method_2_code 1 none ∈ GG := gg_in 279 rfl rfl
theorem gw_280 : Cond.methodLink "StarChart$Sheet" 37 ⟨"StarChart$Sheet","schedule","(IIZI)V"⟩ ∈ GG := gg_in 280 (by decide +kernel) (by decide +kernel)
theorem gw_281 : Cond.instanceMethod ⟨"StarChart$Sheet","schedule","(IIZI)V"⟩ ∈ GG := gg_in 281 (by decide +kernel) (by decide +kernel)
theorem gw_282 : Cond.selects "StarChart$Sheet" ⟨"StarChart$Sheet","schedule","(IIZI)V"⟩ ⟨"StarChart$Sheet","schedule","(IIZI)V"⟩ ∈ GG := gg_in 282 (by decide +kernel) (by decide +kernel)
set_option maxRecDepth 20000 in
theorem gw_283 : Cond.code ⟨"StarChart$Sheet","schedule","(IIZI)V"⟩ prog_6_method_3_code 5 none ∈ GG := gg_in 283 rfl rfl
theorem gw_284 : Cond.methodLink "StarChart$Sheet" 41 ⟨"StarChart$Sheet","payNothing","()V"⟩ ∈ GG := gg_in 284 (by decide +kernel) (by decide +kernel)
theorem gw_285 : Cond.instanceMethod ⟨"StarChart$Sheet","payNothing","()V"⟩ ∈ GG := gg_in 285 (by decide +kernel) (by decide +kernel)
theorem gw_286 : Cond.selects "StarChart$Sheet" ⟨"StarChart$Sheet","payNothing","()V"⟩ ⟨"StarChart$Sheet","payNothing","()V"⟩ ∈ GG := gg_in 286 (by decide +kernel) (by decide +kernel)
set_option maxRecDepth 20000 in
theorem gw_287 : Cond.code ⟨"StarChart$Sheet","payNothing","()V"⟩ prog_6_method_5_code 2 none ∈ GG := gg_in 287 rfl rfl
theorem gw_288 : Cond.methodLink "StarChart" 84 ⟨"StarChart$Course","begin","(LStarChart$Sheet;I)V"⟩ ∈ GG := gg_in 288 (by decide +kernel) (by decide +kernel)
theorem gw_289 : Cond.instanceMethod ⟨"StarChart$Course","begin","(LStarChart$Sheet;I)V"⟩ ∈ GG := gg_in 289 (by decide +kernel) (by decide +kernel)
theorem gw_290 : Cond.selects "StarChart$Course" ⟨"StarChart$Course","begin","(LStarChart$Sheet;I)V"⟩ ⟨"StarChart$Course","begin","(LStarChart$Sheet;I)V"⟩ ∈ GG := gg_in 290 (by decide +kernel) (by decide +kernel)
set_option maxRecDepth 20000 in
theorem gw_291 : Cond.code ⟨"StarChart$Course","begin","(LStarChart$Sheet;I)V"⟩ prog_2_method_2_code 4 none ∈ GG := gg_in 291 rfl rfl
theorem gw_292 : Cond.fieldLink "StarChart" 10 "StarChart" "sheet" "LStarChart$Sheet;" ∈ GG := gg_in 292 (by decide +kernel) (by decide +kernel)
theorem gw_293 : Cond.fieldLink "StarChart" 19 "StarChart" "reader" "LStarChart$Reader;" ∈ GG := gg_in 293 (by decide +kernel) (by decide +kernel)
theorem gw_294 : Cond.fieldLink "StarChart" 26 "StarChart" "today" "LStarChart$Course;" ∈ GG := gg_in 294 (by decide +kernel) (by decide +kernel)
theorem gw_295 : Cond.fieldLink "StarChart" 30 "StarChart" "tunes" "[I" ∈ GG := gg_in 295 (by decide +kernel) (by decide +kernel)
theorem gw_296 : Cond.fieldLink "StarChart" 37 "StarChart" "first" "LStarChart$Image;" ∈ GG := gg_in 296 (by decide +kernel) (by decide +kernel)
theorem gw_297 : Cond.fieldLink "StarChart" 41 "StarChart" "second" "LStarChart$Image;" ∈ GG := gg_in 297 (by decide +kernel) (by decide +kernel)
theorem gw_298 : Cond.fieldLink "StarChart" 47 "StarChart" "trials" "LStarChart$Trials;" ∈ GG := gg_in 298 (by decide +kernel) (by decide +kernel)
theorem gw_299 : Cond.fieldLink "StarChart" 54 "StarChart" "jar" "LStarChart$Jar;" ∈ GG := gg_in 299 (by decide +kernel) (by decide +kernel)
theorem gw_300 : Cond.fieldLink "StarChart" 58 "StarChart" "guess" "LStarChart$Sheet;" ∈ GG := gg_in 300 (by decide +kernel) (by decide +kernel)
theorem gw_301 : Cond.fieldLink "StarChart" 61 "StarChart" "dream" "LStarChart$Course;" ∈ GG := gg_in 301 (by decide +kernel) (by decide +kernel)
theorem gw_302 : Cond.fieldLink "StarChart" 64 "StarChart" "chance" "I" ∈ GG := gg_in 302 (by decide +kernel) (by decide +kernel)
theorem gw_303 : Cond.fieldLink "StarChart" 68 "StarChart" "asked" "J" ∈ GG := gg_in 303 (by decide +kernel) (by decide +kernel)
theorem gw_304 : Cond.laysFinal "StarChart" "StarChart" "sheet" "LStarChart$Sheet;" ∈ GG := gg_in 304 (by decide +kernel) (by decide +kernel)
theorem gw_306 : Cond.laysFinal "StarChart" "StarChart" "reader" "LStarChart$Reader;" ∈ GG := gg_in 306 (by decide +kernel) (by decide +kernel)
theorem gw_308 : Cond.laysFinal "StarChart" "StarChart" "today" "LStarChart$Course;" ∈ GG := gg_in 308 (by decide +kernel) (by decide +kernel)
theorem gw_310 : Cond.laysFinal "StarChart" "StarChart" "tunes" "[I" ∈ GG := gg_in 310 (by decide +kernel) (by decide +kernel)
theorem gw_312 : Cond.laysFinal "StarChart" "StarChart" "first" "LStarChart$Image;" ∈ GG := gg_in 312 (by decide +kernel) (by decide +kernel)
theorem gw_314 : Cond.laysFinal "StarChart" "StarChart" "second" "LStarChart$Image;" ∈ GG := gg_in 314 (by decide +kernel) (by decide +kernel)
theorem gw_316 : Cond.laysFinal "StarChart" "StarChart" "trials" "LStarChart$Trials;" ∈ GG := gg_in 316 (by decide +kernel) (by decide +kernel)
theorem gw_318 : Cond.laysFinal "StarChart" "StarChart" "jar" "LStarChart$Jar;" ∈ GG := gg_in 318 (by decide +kernel) (by decide +kernel)
theorem gw_320 : Cond.laysFinal "StarChart" "StarChart" "guess" "LStarChart$Sheet;" ∈ GG := gg_in 320 (by decide +kernel) (by decide +kernel)
theorem gw_322 : Cond.laysFinal "StarChart" "StarChart" "dream" "LStarChart$Course;" ∈ GG := gg_in 322 (by decide +kernel) (by decide +kernel)
theorem gw_324 : Cond.lays "StarChart" "StarChart" "chance" "I" ∈ GG := gg_in 324 (by decide +kernel) (by decide +kernel)
theorem gw_326 : Cond.lays "StarChart" "StarChart" "asked" "J" ∈ GG := gg_in 326 (by decide +kernel) (by decide +kernel)
theorem gw_329 : Cond.methodLink "StarChartLaw" 15 ⟨"StarChart","type","(JI)I"⟩ ∈ GG := gg_in 329 (by decide +kernel) (by decide +kernel)
theorem gw_330 : Cond.instanceMethod ⟨"StarChart","type","(JI)I"⟩ ∈ GG := gg_in 330 (by decide +kernel) (by decide +kernel)
theorem gw_331 : Cond.selects "StarChart" ⟨"StarChart","type","(JI)I"⟩ ⟨"StarChart","type","(JI)I"⟩ ∈ GG := gg_in 331 (by decide +kernel) (by decide +kernel)
set_option maxRecDepth 20000 in
theorem gw_332 : Cond.code ⟨"StarChart","type","(JI)I"⟩ prog_1_method_2_code 4 (some .int) ∈ GG := gg_in 332 rfl rfl
theorem gw_333 : Cond.methodLink "StarChart" 88 ⟨"StarChart","within","(III)Z"⟩ ∈ GG := gg_in 333 (by decide +kernel) (by decide +kernel)
theorem gw_334 : Cond.static ⟨"StarChart","within","(III)Z"⟩ ∈ GG := gg_in 334 (by decide +kernel) (by decide +kernel)
set_option maxRecDepth 20000 in
theorem gw_335 : Cond.code ⟨"StarChart","within","(III)Z"⟩ prog_1_method_36_code 3 (some .boolean) ∈ GG := gg_in 335 rfl rfl
theorem gw_336 : Cond.methodLink "StarChart" 92 ⟨"StarChart$Reader","hear","(JI)Z"⟩ ∈ GG := gg_in 336 (by decide +kernel) (by decide +kernel)
theorem gw_337 : Cond.instanceMethod ⟨"StarChart$Reader","hear","(JI)Z"⟩ ∈ GG := gg_in 337 (by decide +kernel) (by decide +kernel)
theorem gw_338 : Cond.selects "StarChart$Reader" ⟨"StarChart$Reader","hear","(JI)Z"⟩ ⟨"StarChart$Reader","hear","(JI)Z"⟩ ∈ GG := gg_in 338 (by decide +kernel) (by decide +kernel)
set_option maxRecDepth 20000 in
theorem gw_339 : Cond.code ⟨"StarChart$Reader","hear","(JI)Z"⟩ prog_5_method_2_code 5 (some .boolean) ∈ GG := gg_in 339 rfl rfl
theorem gw_340 : Cond.methodLink "StarChartLaw" 20 ⟨"StarChart","clear","()I"⟩ ∈ GG := gg_in 340 (by decide +kernel) (by decide +kernel)
theorem gw_341 : Cond.instanceMethod ⟨"StarChart","clear","()I"⟩ ∈ GG := gg_in 341 (by decide +kernel) (by decide +kernel)
theorem gw_342 : Cond.selects "StarChart" ⟨"StarChart","clear","()I"⟩ ⟨"StarChart","clear","()I"⟩ ∈ GG := gg_in 342 (by decide +kernel) (by decide +kernel)
set_option maxRecDepth 20000 in
theorem gw_343 : Cond.code ⟨"StarChart","clear","()I"⟩ prog_1_method_3_code 2 (some .int) ∈ GG := gg_in 343 rfl rfl
theorem gw_344 : Cond.methodLink "StarChartLaw" 25 ⟨"StarChart","chart","()I"⟩ ∈ GG := gg_in 344 (by decide +kernel) (by decide +kernel)
theorem gw_345 : Cond.instanceMethod ⟨"StarChart","chart","()I"⟩ ∈ GG := gg_in 345 (by decide +kernel) (by decide +kernel)
theorem gw_346 : Cond.selects "StarChart" ⟨"StarChart","chart","()I"⟩ ⟨"StarChart","chart","()I"⟩ ∈ GG := gg_in 346 (by decide +kernel) (by decide +kernel)
set_option maxRecDepth 20000 in
theorem gw_347 : Cond.code ⟨"StarChart","chart","()I"⟩ prog_1_method_4_code 2 (some .int) ∈ GG := gg_in 347 rfl rfl
theorem gw_348 : Cond.methodLink "StarChart" 99 ⟨"StarChart$Reader","readItems","()I"⟩ ∈ GG := gg_in 348 (by decide +kernel) (by decide +kernel)
theorem gw_349 : Cond.instanceMethod ⟨"StarChart$Reader","readItems","()I"⟩ ∈ GG := gg_in 349 (by decide +kernel) (by decide +kernel)
theorem gw_350 : Cond.selects "StarChart$Reader" ⟨"StarChart$Reader","readItems","()I"⟩ ⟨"StarChart$Reader","readItems","()I"⟩ ∈ GG := gg_in 350 (by decide +kernel) (by decide +kernel)
set_option maxRecDepth 20000 in
theorem gw_351 : Cond.code ⟨"StarChart$Reader","readItems","()I"⟩ prog_5_method_3_code 2 (some .int) ∈ GG := gg_in 351 rfl rfl
theorem gw_352 : Cond.methodLink "StarChart$Reader" 32 ⟨"StarChart$Reader","cut","()V"⟩ ∈ GG := gg_in 352 (by decide +kernel) (by decide +kernel)
theorem gw_354 : Cond.instanceMethod ⟨"StarChart$Reader","cut","()V"⟩ ∈ GG := gg_in 354 (by decide +kernel) (by decide +kernel)
set_option maxRecDepth 20000 in
theorem gw_355 : Cond.code ⟨"StarChart$Reader","cut","()V"⟩ prog_5_method_5_code 4 none ∈ GG := gg_in 355 rfl rfl
theorem gw_356 : Cond.methodLink "StarChart$Reader" 57 ⟨"StarChart$Reader","rowEnd","(I)I"⟩ ∈ GG := gg_in 356 (by decide +kernel) (by decide +kernel)
theorem gw_358 : Cond.instanceMethod ⟨"StarChart$Reader","rowEnd","(I)I"⟩ ∈ GG := gg_in 358 (by decide +kernel) (by decide +kernel)
set_option maxRecDepth 20000 in
theorem gw_359 : Cond.code ⟨"StarChart$Reader","rowEnd","(I)I"⟩ prog_5_method_8_code 5 (some .int) ∈ GG := gg_in 359 rfl rfl
theorem gw_360 : Cond.methodLink "StarChart$Reader" 65 ⟨"StarChart$Reader","isLetter","(I)Z"⟩ ∈ GG := gg_in 360 (by decide +kernel) (by decide +kernel)
theorem gw_361 : Cond.static ⟨"StarChart$Reader","isLetter","(I)Z"⟩ ∈ GG := gg_in 361 (by decide +kernel) (by decide +kernel)
set_option maxRecDepth 20000 in
theorem gw_362 : Cond.code ⟨"StarChart$Reader","isLetter","(I)Z"⟩ prog_5_method_6_code 1 (some .boolean) ∈ GG := gg_in 362 rfl rfl
theorem gw_363 : Cond.methodLink "StarChart$Reader" 68 ⟨"StarChart$Reader","isDigit","(I)Z"⟩ ∈ GG := gg_in 363 (by decide +kernel) (by decide +kernel)
theorem gw_364 : Cond.static ⟨"StarChart$Reader","isDigit","(I)Z"⟩ ∈ GG := gg_in 364 (by decide +kernel) (by decide +kernel)
set_option maxRecDepth 20000 in
theorem gw_365 : Cond.code ⟨"StarChart$Reader","isDigit","(I)Z"⟩ prog_5_method_7_code 1 (some .boolean) ∈ GG := gg_in 365 rfl rfl
theorem gw_366 : Cond.methodLink "StarChart$Reader" 61 ⟨"StarChart$Reader","tokenOf","(II)I"⟩ ∈ GG := gg_in 366 (by decide +kernel) (by decide +kernel)
theorem gw_368 : Cond.instanceMethod ⟨"StarChart$Reader","tokenOf","(II)I"⟩ ∈ GG := gg_in 368 (by decide +kernel) (by decide +kernel)
set_option maxRecDepth 20000 in
theorem gw_369 : Cond.code ⟨"StarChart$Reader","tokenOf","(II)I"⟩ prog_5_method_9_code 3 (some .int) ∈ GG := gg_in 369 rfl rfl
theorem gw_370 : Cond.methodLink "StarChart$Reader" 71 ⟨"StarChart$Reader","numberOf","(II)I"⟩ ∈ GG := gg_in 370 (by decide +kernel) (by decide +kernel)
theorem gw_372 : Cond.instanceMethod ⟨"StarChart$Reader","numberOf","(II)I"⟩ ∈ GG := gg_in 372 (by decide +kernel) (by decide +kernel)
set_option maxRecDepth 20000 in
theorem gw_373 : Cond.code ⟨"StarChart$Reader","numberOf","(II)I"⟩ prog_5_method_10_code 5 (some .int) ∈ GG := gg_in 373 rfl rfl
theorem lt_374 : Cond.stringRef "StarChart$Reader" 74 "child" ∈ lw_tbl := List.mem_of_getElem? (i := 374) (by decide +kernel)
theorem gw_375 : Cond.methodLink "StarChart$Reader" 76 ⟨"StarChart$Reader","spells","(IILjava/lang/String;)Z"⟩ ∈ GG := gg_in 375 (by decide +kernel) (by decide +kernel)
theorem gw_377 : Cond.instanceMethod ⟨"StarChart$Reader","spells","(IILjava/lang/String;)Z"⟩ ∈ GG := gg_in 377 (by decide +kernel) (by decide +kernel)
set_option maxRecDepth 20000 in
theorem gw_378 : Cond.code ⟨"StarChart$Reader","spells","(IILjava/lang/String;)Z"⟩ prog_5_method_11_code 5 (some .boolean) ∈ GG := gg_in 378 rfl rfl
theorem gw_379 : Cond.methodLink "StarChart$Reader" 90 ⟨"java/lang/String","length","()I"⟩ ∈ GG := gg_in 379 (by decide +kernel) (by decide +kernel)
theorem gw_380 : Cond.instanceMethod ⟨"java/lang/String","length","()I"⟩ ∈ GG := gg_in 380 (by decide +kernel) (by decide +kernel)
theorem gw_381 : Cond.selects "java/lang/String" ⟨"java/lang/String","length","()I"⟩ ⟨"java/lang/String","length","()I"⟩ ∈ GG := gg_in 381 (by decide +kernel) (by decide +kernel)
set_option maxRecDepth 20000 in
theorem gw_382 : Cond.code ⟨"java/lang/String","length","()I"⟩ prog_11_method_54_code 1 (some .int) ∈ GG := gg_in 382 rfl rfl
theorem gw_383 : Cond.methodLink "java/lang/String" 335 ⟨"java/lang/String","coder","()B"⟩ ∈ GG := gg_in 383 (by decide +kernel) (by decide +kernel)
theorem gw_384 : Cond.instanceMethod ⟨"java/lang/String","coder","()B"⟩ ∈ GG := gg_in 384 (by decide +kernel) (by decide +kernel)
theorem gw_385 : Cond.selects "java/lang/String" ⟨"java/lang/String","coder","()B"⟩ ⟨"java/lang/String","coder","()B"⟩ ∈ GG := gg_in 385 (by decide +kernel) (by decide +kernel)
set_option maxRecDepth 20000 in
theorem gw_386 : Cond.code ⟨"java/lang/String","coder","()B"⟩ prog_11_method_152_code 1 (some .byte) ∈ GG := gg_in 386 rfl rfl
theorem gw_387 : Cond.fieldLink "java/lang/String" 38 "java/lang/String" "COMPACT_STRINGS" "Z" ∈ GG := gg_in 387 (by decide +kernel) (by decide +kernel)
theorem lt_388 : Cond.laysStatic "java/lang/String" "COMPACT_STRINGS" "Z" ∈ lw_tbl := List.mem_of_getElem? (i := 388) (by decide +kernel)
theorem gw_389 : Cond.methodLink "StarChart$Reader" 94 ⟨"java/lang/String","charAt","(I)C"⟩ ∈ GG := gg_in 389 (by decide +kernel) (by decide +kernel)
theorem gw_390 : Cond.instanceMethod ⟨"java/lang/String","charAt","(I)C"⟩ ∈ GG := gg_in 390 (by decide +kernel) (by decide +kernel)
theorem gw_391 : Cond.selects "java/lang/String" ⟨"java/lang/String","charAt","(I)C"⟩ ⟨"java/lang/String","charAt","(I)C"⟩ ∈ GG := gg_in 391 (by decide +kernel) (by decide +kernel)
set_option maxRecDepth 20000 in
theorem gw_392 : Cond.code ⟨"java/lang/String","charAt","(I)C"⟩ prog_11_method_56_code 2 (some .char) ∈ GG := gg_in 392 rfl rfl
theorem gw_393 : Cond.methodLink "java/lang/String" 492 ⟨"java/lang/String","isLatin1","()Z"⟩ ∈ GG := gg_in 393 (by decide +kernel) (by decide +kernel)
theorem gw_394 : Cond.instanceMethod ⟨"java/lang/String","isLatin1","()Z"⟩ ∈ GG := gg_in 394 (by decide +kernel) (by decide +kernel)
theorem gw_395 : Cond.selects "java/lang/String" ⟨"java/lang/String","isLatin1","()Z"⟩ ⟨"java/lang/String","isLatin1","()Z"⟩ ∈ GG := gg_in 395 (by decide +kernel) (by decide +kernel)
set_option maxRecDepth 20000 in
theorem gw_396 : Cond.code ⟨"java/lang/String","isLatin1","()Z"⟩ prog_11_method_154_code 1 (some .boolean) ∈ GG := gg_in 396 rfl rfl
theorem gw_397 : Cond.methodLink "java/lang/String" 495 ⟨"java/lang/StringLatin1","charAt","([BI)C"⟩ ∈ GG := gg_in 397 (by decide +kernel) (by decide +kernel)
theorem gw_398 : Cond.static ⟨"java/lang/StringLatin1","charAt","([BI)C"⟩ ∈ GG := gg_in 398 (by decide +kernel) (by decide +kernel)
set_option maxRecDepth 20000 in
theorem gw_399 : Cond.code ⟨"java/lang/StringLatin1","charAt","([BI)C"⟩ prog_12_method_2_code 2 (some .char) ∈ GG := gg_in 399 rfl rfl
theorem gw_400 : Cond.methodLink "java/lang/StringLatin1" 9 ⟨"java/lang/String","checkIndex","(II)V"⟩ ∈ GG := gg_in 400 (by decide +kernel) (by decide +kernel)
theorem gw_401 : Cond.static ⟨"java/lang/String","checkIndex","(II)V"⟩ ∈ GG := gg_in 401 (by decide +kernel) (by decide +kernel)
set_option maxRecDepth 20000 in
theorem gw_402 : Cond.code ⟨"java/lang/String","checkIndex","(II)V"⟩ prog_11_method_155_code 2 none ∈ GG := gg_in 402 rfl rfl
theorem gw_403 : Cond.fieldLink "java/lang/String" 1053 "jdk/internal/util/Preconditions" "SIOOBE_FORMATTER" "Ljava/util/function/BiFunction;" ∈ GG := gg_in 403 (by decide +kernel) (by decide +kernel)
theorem lt_404 : Cond.laysStatic "jdk/internal/util/Preconditions" "SIOOBE_FORMATTER" "Ljava/util/function/BiFunction;" ∈ lw_tbl := List.mem_of_getElem? (i := 404) (by decide +kernel)
theorem gw_405 : Cond.methodLink "java/lang/String" 1059 ⟨"jdk/internal/util/Preconditions","checkIndex","(IILjava/util/function/BiFunction;)I"⟩ ∈ GG := gg_in 405 (by decide +kernel) (by decide +kernel)
theorem gw_406 : Cond.static ⟨"jdk/internal/util/Preconditions","checkIndex","(IILjava/util/function/BiFunction;)I"⟩ ∈ GG := gg_in 406 (by decide +kernel) (by decide +kernel)
set_option maxRecDepth 20000 in
theorem gw_407 : Cond.code ⟨"jdk/internal/util/Preconditions","checkIndex","(IILjava/util/function/BiFunction;)I"⟩ prog_15_method_11_code 3 (some .int) ∈ GG := gg_in 407 rfl rfl
theorem gw_408 : Cond.methodLink "java/lang/String" 498 ⟨"java/lang/StringUTF16","charAt","([BI)C"⟩ ∈ GG := gg_in 408 (by decide +kernel) (by decide +kernel)
theorem gw_409 : Cond.static ⟨"java/lang/StringUTF16","charAt","([BI)C"⟩ ∈ GG := gg_in 409 (by decide +kernel) (by decide +kernel)
set_option maxRecDepth 20000 in
theorem gw_410 : Cond.code ⟨"java/lang/StringUTF16","charAt","([BI)C"⟩ prog_13_method_83_code 2 (some .char) ∈ GG := gg_in 410 rfl rfl
theorem gw_411 : Cond.methodLink "java/lang/StringUTF16" 67 ⟨"java/lang/StringUTF16","checkIndex","(I[B)V"⟩ ∈ GG := gg_in 411 (by decide +kernel) (by decide +kernel)
theorem gw_412 : Cond.static ⟨"java/lang/StringUTF16","checkIndex","(I[B)V"⟩ ∈ GG := gg_in 412 (by decide +kernel) (by decide +kernel)
set_option maxRecDepth 20000 in
theorem gw_413 : Cond.code ⟨"java/lang/StringUTF16","checkIndex","(I[B)V"⟩ prog_13_method_91_code 2 none ∈ GG := gg_in 413 rfl rfl
theorem gw_414 : Cond.methodLink "java/lang/StringUTF16" 48 ⟨"java/lang/StringUTF16","length","([B)I"⟩ ∈ GG := gg_in 414 (by decide +kernel) (by decide +kernel)
theorem gw_415 : Cond.static ⟨"java/lang/StringUTF16","length","([B)I"⟩ ∈ GG := gg_in 415 (by decide +kernel) (by decide +kernel)
set_option maxRecDepth 20000 in
theorem gw_416 : Cond.code ⟨"java/lang/StringUTF16","length","([B)I"⟩ prog_13_method_6_code 1 (some .int) ∈ GG := gg_in 416 rfl rfl
theorem gw_417 : Cond.methodLink "java/lang/StringUTF16" 414 ⟨"java/lang/String","checkIndex","(II)V"⟩ ∈ GG := gg_in 417 (by decide +kernel) (by decide +kernel)
theorem gw_418 : Cond.methodLink "java/lang/StringUTF16" 71 ⟨"java/lang/StringUTF16","getChar","([BI)C"⟩ ∈ GG := gg_in 418 (by decide +kernel) (by decide +kernel)
theorem gw_419 : Cond.static ⟨"java/lang/StringUTF16","getChar","([BI)C"⟩ ∈ GG := gg_in 419 (by decide +kernel) (by decide +kernel)
set_option maxRecDepth 20000 in
theorem gw_420 : Cond.code ⟨"java/lang/StringUTF16","getChar","([BI)C"⟩ prog_13_method_5_code 2 (some .char) ∈ GG := gg_in 420 rfl rfl
theorem gw_421 : Cond.fieldLink "java/lang/StringUTF16" 44 "java/lang/StringUTF16" "$assertionsDisabled" "Z" ∈ GG := gg_in 421 (by decide +kernel) (by decide +kernel)
theorem lt_422 : Cond.laysStatic "java/lang/StringUTF16" "$assertionsDisabled" "Z" ∈ lw_tbl := List.mem_of_getElem? (i := 422) (by decide +kernel)
theorem gw_423 : Cond.fieldLink "java/lang/StringUTF16" 59 "java/lang/StringUTF16" "HI_BYTE_SHIFT" "I" ∈ GG := gg_in 423 (by decide +kernel) (by decide +kernel)
theorem lt_424 : Cond.laysStatic "java/lang/StringUTF16" "HI_BYTE_SHIFT" "I" ∈ lw_tbl := List.mem_of_getElem? (i := 424) (by decide +kernel)
theorem gw_425 : Cond.fieldLink "java/lang/StringUTF16" 63 "java/lang/StringUTF16" "LO_BYTE_SHIFT" "I" ∈ GG := gg_in 425 (by decide +kernel) (by decide +kernel)
theorem lt_426 : Cond.laysStatic "java/lang/StringUTF16" "LO_BYTE_SHIFT" "I" ∈ lw_tbl := List.mem_of_getElem? (i := 426) (by decide +kernel)
theorem lt_427 : Cond.stringRef "StarChart$Reader" 80 "book" ∈ lw_tbl := List.mem_of_getElem? (i := 427) (by decide +kernel)
theorem lt_428 : Cond.stringRef "StarChart$Reader" 82 "plan" ∈ lw_tbl := List.mem_of_getElem? (i := 428) (by decide +kernel)
theorem lt_429 : Cond.stringRef "StarChart$Reader" 84 "after" ∈ lw_tbl := List.mem_of_getElem? (i := 429) (by decide +kernel)
theorem lt_430 : Cond.stringRef "StarChart$Reader" 86 "thin" ∈ lw_tbl := List.mem_of_getElem? (i := 430) (by decide +kernel)
theorem lt_431 : Cond.stringRef "StarChart$Reader" 88 "pay" ∈ lw_tbl := List.mem_of_getElem? (i := 431) (by decide +kernel)
theorem gw_432 : Cond.methodLink "StarChart$Reader" 35 ⟨"StarChart$Sheet","wipe","()V"⟩ ∈ GG := gg_in 432 (by decide +kernel) (by decide +kernel)
theorem gw_433 : Cond.methodLink "StarChart$Reader" 45 ⟨"StarChart$Reader","seen","()I"⟩ ∈ GG := gg_in 433 (by decide +kernel) (by decide +kernel)
theorem gw_435 : Cond.instanceMethod ⟨"StarChart$Reader","seen","()I"⟩ ∈ GG := gg_in 435 (by decide +kernel) (by decide +kernel)
set_option maxRecDepth 20000 in
theorem gw_436 : Cond.code ⟨"StarChart$Reader","seen","()I"⟩ prog_5_method_12_code 1 (some .int) ∈ GG := gg_in 436 rfl rfl
theorem gw_437 : Cond.methodLink "StarChart$Reader" 49 ⟨"StarChart$Reader","readItem","()Z"⟩ ∈ GG := gg_in 437 (by decide +kernel) (by decide +kernel)
theorem gw_439 : Cond.instanceMethod ⟨"StarChart$Reader","readItem","()Z"⟩ ∈ GG := gg_in 439 (by decide +kernel) (by decide +kernel)
set_option maxRecDepth 20000 in
theorem gw_440 : Cond.code ⟨"StarChart$Reader","readItem","()Z"⟩ prog_5_method_15_code 1 (some .boolean) ∈ GG := gg_in 440 rfl rfl
theorem gw_441 : Cond.methodLink "StarChart$Reader" 105 ⟨"StarChart$Reader","readChild","()Z"⟩ ∈ GG := gg_in 441 (by decide +kernel) (by decide +kernel)
theorem gw_443 : Cond.instanceMethod ⟨"StarChart$Reader","readChild","()Z"⟩ ∈ GG := gg_in 443 (by decide +kernel) (by decide +kernel)
set_option maxRecDepth 20000 in
theorem gw_444 : Cond.code ⟨"StarChart$Reader","readChild","()Z"⟩ prog_5_method_16_code 4 (some .boolean) ∈ GG := gg_in 444 rfl rfl
theorem gw_445 : Cond.methodLink "StarChart$Reader" 120 ⟨"StarChart$Reader","readNumber","(II)I"⟩ ∈ GG := gg_in 445 (by decide +kernel) (by decide +kernel)
theorem gw_447 : Cond.instanceMethod ⟨"StarChart$Reader","readNumber","(II)I"⟩ ∈ GG := gg_in 447 (by decide +kernel) (by decide +kernel)
set_option maxRecDepth 20000 in
theorem gw_448 : Cond.code ⟨"StarChart$Reader","readNumber","(II)I"⟩ prog_5_method_13_code 4 (some .int) ∈ GG := gg_in 448 rfl rfl
theorem lt_449 : Cond.methodLinkNest "StarChart$Reader" 98 ⟨"StarChart","within","(III)Z"⟩ "StarChart" ∈ lw_tbl := List.mem_of_getElem? (i := 449) (by decide +kernel)
theorem gw_450 : Cond.methodLink "StarChart$Reader" 123 ⟨"StarChart$Sheet","addChild","(III)V"⟩ ∈ GG := gg_in 450 (by decide +kernel) (by decide +kernel)
theorem gw_451 : Cond.instanceMethod ⟨"StarChart$Sheet","addChild","(III)V"⟩ ∈ GG := gg_in 451 (by decide +kernel) (by decide +kernel)
theorem gw_452 : Cond.selects "StarChart$Sheet" ⟨"StarChart$Sheet","addChild","(III)V"⟩ ⟨"StarChart$Sheet","addChild","(III)V"⟩ ∈ GG := gg_in 452 (by decide +kernel) (by decide +kernel)
set_option maxRecDepth 20000 in
theorem gw_453 : Cond.code ⟨"StarChart$Sheet","addChild","(III)V"⟩ prog_6_method_6_code 4 none ∈ GG := gg_in 453 rfl rfl
theorem gw_454 : Cond.methodLink "StarChart$Reader" 111 ⟨"StarChart$Reader","readBook","()Z"⟩ ∈ GG := gg_in 454 (by decide +kernel) (by decide +kernel)
theorem gw_456 : Cond.instanceMethod ⟨"StarChart$Reader","readBook","()Z"⟩ ∈ GG := gg_in 456 (by decide +kernel) (by decide +kernel)
set_option maxRecDepth 20000 in
theorem gw_457 : Cond.code ⟨"StarChart$Reader","readBook","()Z"⟩ prog_5_method_17_code 3 (some .boolean) ∈ GG := gg_in 457 rfl rfl
theorem gw_458 : Cond.methodLink "StarChart$Reader" 127 ⟨"StarChart$Sheet","addSort","(II)V"⟩ ∈ GG := gg_in 458 (by decide +kernel) (by decide +kernel)
theorem gw_459 : Cond.instanceMethod ⟨"StarChart$Sheet","addSort","(II)V"⟩ ∈ GG := gg_in 459 (by decide +kernel) (by decide +kernel)
theorem gw_460 : Cond.selects "StarChart$Sheet" ⟨"StarChart$Sheet","addSort","(II)V"⟩ ⟨"StarChart$Sheet","addSort","(II)V"⟩ ∈ GG := gg_in 460 (by decide +kernel) (by decide +kernel)
set_option maxRecDepth 20000 in
theorem gw_461 : Cond.code ⟨"StarChart$Sheet","addSort","(II)V"⟩ prog_6_method_7_code 3 none ∈ GG := gg_in 461 rfl rfl
theorem gw_462 : Cond.methodLink "StarChart$Reader" 114 ⟨"StarChart$Reader","readPlan","()Z"⟩ ∈ GG := gg_in 462 (by decide +kernel) (by decide +kernel)
theorem gw_464 : Cond.instanceMethod ⟨"StarChart$Reader","readPlan","()Z"⟩ ∈ GG := gg_in 464 (by decide +kernel) (by decide +kernel)
set_option maxRecDepth 20000 in
theorem gw_465 : Cond.code ⟨"StarChart$Reader","readPlan","()Z"⟩ prog_5_method_18_code 5 (some .boolean) ∈ GG := gg_in 465 rfl rfl
theorem gw_466 : Cond.methodLink "StarChart$Reader" 53 ⟨"StarChart$Reader","readWord","(I)Z"⟩ ∈ GG := gg_in 466 (by decide +kernel) (by decide +kernel)
theorem gw_468 : Cond.instanceMethod ⟨"StarChart$Reader","readWord","(I)Z"⟩ ∈ GG := gg_in 468 (by decide +kernel) (by decide +kernel)
set_option maxRecDepth 20000 in
theorem gw_469 : Cond.code ⟨"StarChart$Reader","readWord","(I)Z"⟩ prog_5_method_14_code 2 (some .boolean) ∈ GG := gg_in 469 rfl rfl
theorem gw_470 : Cond.methodLink "StarChart$Reader" 131 ⟨"StarChart$Sheet","schedule","(IIZI)V"⟩ ∈ GG := gg_in 470 (by decide +kernel) (by decide +kernel)
theorem gw_471 : Cond.methodLink "StarChart$Reader" 117 ⟨"StarChart$Reader","readPay","()Z"⟩ ∈ GG := gg_in 471 (by decide +kernel) (by decide +kernel)
theorem gw_473 : Cond.instanceMethod ⟨"StarChart$Reader","readPay","()Z"⟩ ∈ GG := gg_in 473 (by decide +kernel) (by decide +kernel)
set_option maxRecDepth 20000 in
theorem gw_474 : Cond.code ⟨"StarChart$Reader","readPay","()Z"⟩ prog_5_method_19_code 3 (some .boolean) ∈ GG := gg_in 474 rfl rfl
theorem gw_475 : Cond.methodLink "StarChart" 103 ⟨"StarChart$Reader","fault","()I"⟩ ∈ GG := gg_in 475 (by decide +kernel) (by decide +kernel)
theorem gw_476 : Cond.instanceMethod ⟨"StarChart$Reader","fault","()I"⟩ ∈ GG := gg_in 476 (by decide +kernel) (by decide +kernel)
theorem gw_477 : Cond.selects "StarChart$Reader" ⟨"StarChart$Reader","fault","()I"⟩ ⟨"StarChart$Reader","fault","()I"⟩ ∈ GG := gg_in 477 (by decide +kernel) (by decide +kernel)
set_option maxRecDepth 20000 in
theorem gw_478 : Cond.code ⟨"StarChart$Reader","fault","()I"⟩ prog_5_method_4_code 1 (some .int) ∈ GG := gg_in 478 rfl rfl
theorem gw_479 : Cond.methodLink "StarChart" 109 ⟨"StarChart$Sheet","copyOf","(LStarChart$Sheet;)V"⟩ ∈ GG := gg_in 479 (by decide +kernel) (by decide +kernel)
theorem gw_480 : Cond.instanceMethod ⟨"StarChart$Sheet","copyOf","(LStarChart$Sheet;)V"⟩ ∈ GG := gg_in 480 (by decide +kernel) (by decide +kernel)
theorem gw_481 : Cond.selects "StarChart$Sheet" ⟨"StarChart$Sheet","copyOf","(LStarChart$Sheet;)V"⟩ ⟨"StarChart$Sheet","copyOf","(LStarChart$Sheet;)V"⟩ ∈ GG := gg_in 481 (by decide +kernel) (by decide +kernel)
set_option maxRecDepth 20000 in
theorem gw_482 : Cond.code ⟨"StarChart$Sheet","copyOf","(LStarChart$Sheet;)V"⟩ prog_6_method_4_code 2 none ∈ GG := gg_in 482 rfl rfl
theorem gw_483 : Cond.methodLink "StarChart$Sheet" 57 ⟨"java/lang/System","arraycopy","(Ljava/lang/Object;ILjava/lang/Object;II)V"⟩ ∈ GG := gg_in 483 (by decide +kernel) (by decide +kernel)
theorem gw_484 : Cond.arrayClass .byte ∈ GG := gg_in 484 (by decide +kernel) (by decide +kernel)
theorem gw_485 : Cond.methodLink "StarChartLaw" 29 ⟨"StarChart","child","(II)I"⟩ ∈ GG := gg_in 485 (by decide +kernel) (by decide +kernel)
theorem gw_486 : Cond.instanceMethod ⟨"StarChart","child","(II)I"⟩ ∈ GG := gg_in 486 (by decide +kernel) (by decide +kernel)
theorem gw_487 : Cond.selects "StarChart" ⟨"StarChart","child","(II)I"⟩ ⟨"StarChart","child","(II)I"⟩ ∈ GG := gg_in 487 (by decide +kernel) (by decide +kernel)
set_option maxRecDepth 20000 in
theorem gw_488 : Cond.code ⟨"StarChart","child","(II)I"⟩ prog_1_method_5_code 3 (some .int) ∈ GG := gg_in 488 rfl rfl
theorem gw_489 : Cond.methodLink "StarChart" 117 ⟨"StarChart","isChild","(I)Z"⟩ ∈ GG := gg_in 489 (by decide +kernel) (by decide +kernel)
theorem gw_491 : Cond.instanceMethod ⟨"StarChart","isChild","(I)Z"⟩ ∈ GG := gg_in 491 (by decide +kernel) (by decide +kernel)
set_option maxRecDepth 20000 in
theorem gw_492 : Cond.code ⟨"StarChart","isChild","(I)Z"⟩ prog_1_method_37_code 2 (some .boolean) ∈ GG := gg_in 492 rfl rfl
theorem gw_493 : Cond.methodLink "StarChartLaw" 34 ⟨"StarChart","book","(II)I"⟩ ∈ GG := gg_in 493 (by decide +kernel) (by decide +kernel)
theorem gw_494 : Cond.instanceMethod ⟨"StarChart","book","(II)I"⟩ ∈ GG := gg_in 494 (by decide +kernel) (by decide +kernel)
theorem gw_495 : Cond.selects "StarChart" ⟨"StarChart","book","(II)I"⟩ ⟨"StarChart","book","(II)I"⟩ ∈ GG := gg_in 495 (by decide +kernel) (by decide +kernel)
set_option maxRecDepth 20000 in
theorem gw_496 : Cond.code ⟨"StarChart","book","(II)I"⟩ prog_1_method_6_code 3 (some .int) ∈ GG := gg_in 496 rfl rfl
theorem gw_497 : Cond.methodLink "StarChart" 137 ⟨"StarChart","isSort","(I)Z"⟩ ∈ GG := gg_in 497 (by decide +kernel) (by decide +kernel)
theorem gw_499 : Cond.instanceMethod ⟨"StarChart","isSort","(I)Z"⟩ ∈ GG := gg_in 499 (by decide +kernel) (by decide +kernel)
set_option maxRecDepth 20000 in
theorem gw_500 : Cond.code ⟨"StarChart","isSort","(I)Z"⟩ prog_1_method_38_code 2 (some .boolean) ∈ GG := gg_in 500 rfl rfl
theorem gw_501 : Cond.methodLink "StarChartLaw" 38 ⟨"StarChart","plan","(I)I"⟩ ∈ GG := gg_in 501 (by decide +kernel) (by decide +kernel)
theorem gw_502 : Cond.instanceMethod ⟨"StarChart","plan","(I)I"⟩ ∈ GG := gg_in 502 (by decide +kernel) (by decide +kernel)
theorem gw_503 : Cond.selects "StarChart" ⟨"StarChart","plan","(I)I"⟩ ⟨"StarChart","plan","(I)I"⟩ ∈ GG := gg_in 503 (by decide +kernel) (by decide +kernel)
set_option maxRecDepth 20000 in
theorem gw_504 : Cond.code ⟨"StarChart","plan","(I)I"⟩ prog_1_method_7_code 2 (some .int) ∈ GG := gg_in 504 rfl rfl
theorem gw_505 : Cond.methodLink "StarChartLaw" 43 ⟨"StarChart","tune","(II)I"⟩ ∈ GG := gg_in 505 (by decide +kernel) (by decide +kernel)
theorem gw_506 : Cond.instanceMethod ⟨"StarChart","tune","(II)I"⟩ ∈ GG := gg_in 506 (by decide +kernel) (by decide +kernel)
theorem gw_507 : Cond.selects "StarChart" ⟨"StarChart","tune","(II)I"⟩ ⟨"StarChart","tune","(II)I"⟩ ∈ GG := gg_in 507 (by decide +kernel) (by decide +kernel)
set_option maxRecDepth 20000 in
theorem gw_508 : Cond.code ⟨"StarChart","tune","(II)I"⟩ prog_1_method_8_code 4 (some .int) ∈ GG := gg_in 508 rfl rfl
theorem gw_509 : Cond.fieldLink "StarChart" 161 "StarChart" "TUNE_MOST" "[I" ∈ GG := gg_in 509 (by decide +kernel) (by decide +kernel)
theorem lt_510 : Cond.laysStatic "StarChart" "TUNE_MOST" "[I" ∈ lw_tbl := List.mem_of_getElem? (i := 510) (by decide +kernel)
theorem gw_511 : Cond.methodLink "StarChartLaw" 47 ⟨"StarChart","given","(II)I"⟩ ∈ GG := gg_in 511 (by decide +kernel) (by decide +kernel)
theorem gw_512 : Cond.instanceMethod ⟨"StarChart","given","(II)I"⟩ ∈ GG := gg_in 512 (by decide +kernel) (by decide +kernel)
theorem gw_513 : Cond.selects "StarChart" ⟨"StarChart","given","(II)I"⟩ ⟨"StarChart","given","(II)I"⟩ ∈ GG := gg_in 513 (by decide +kernel) (by decide +kernel)
set_option maxRecDepth 20000 in
theorem gw_514 : Cond.code ⟨"StarChart","given","(II)I"⟩ prog_1_method_9_code 3 (some .int) ∈ GG := gg_in 514 rfl rfl
theorem gw_515 : Cond.methodLink "StarChart" 164 ⟨"StarChart","isDay","(I)Z"⟩ ∈ GG := gg_in 515 (by decide +kernel) (by decide +kernel)
theorem gw_516 : Cond.static ⟨"StarChart","isDay","(I)Z"⟩ ∈ GG := gg_in 516 (by decide +kernel) (by decide +kernel)
set_option maxRecDepth 20000 in
theorem gw_517 : Cond.code ⟨"StarChart","isDay","(I)Z"⟩ prog_1_method_39_code 1 (some .boolean) ∈ GG := gg_in 517 rfl rfl
theorem gw_518 : Cond.methodLink "StarChart" 167 ⟨"StarChart$Sheet","givenOn","(II)I"⟩ ∈ GG := gg_in 518 (by decide +kernel) (by decide +kernel)
theorem gw_519 : Cond.instanceMethod ⟨"StarChart$Sheet","givenOn","(II)I"⟩ ∈ GG := gg_in 519 (by decide +kernel) (by decide +kernel)
theorem gw_520 : Cond.selects "StarChart$Sheet" ⟨"StarChart$Sheet","givenOn","(II)I"⟩ ⟨"StarChart$Sheet","givenOn","(II)I"⟩ ∈ GG := gg_in 520 (by decide +kernel) (by decide +kernel)
set_option maxRecDepth 20000 in
theorem gw_521 : Cond.code ⟨"StarChart$Sheet","givenOn","(II)I"⟩ prog_6_method_10_code 3 (some .int) ∈ GG := gg_in 521 rfl rfl
theorem gw_522 : Cond.methodLink "StarChartLaw" 51 ⟨"StarChart","want","(III)I"⟩ ∈ GG := gg_in 522 (by decide +kernel) (by decide +kernel)
theorem gw_523 : Cond.instanceMethod ⟨"StarChart","want","(III)I"⟩ ∈ GG := gg_in 523 (by decide +kernel) (by decide +kernel)
theorem gw_524 : Cond.selects "StarChart" ⟨"StarChart","want","(III)I"⟩ ⟨"StarChart","want","(III)I"⟩ ∈ GG := gg_in 524 (by decide +kernel) (by decide +kernel)
set_option maxRecDepth 20000 in
theorem gw_525 : Cond.code ⟨"StarChart","want","(III)I"⟩ prog_1_method_10_code 4 (some .int) ∈ GG := gg_in 525 rfl rfl
theorem gw_526 : Cond.methodLink "StarChart" 171 ⟨"StarChart$Sheet","pagesIn","(II)I"⟩ ∈ GG := gg_in 526 (by decide +kernel) (by decide +kernel)
theorem gw_527 : Cond.instanceMethod ⟨"StarChart$Sheet","pagesIn","(II)I"⟩ ∈ GG := gg_in 527 (by decide +kernel) (by decide +kernel)
theorem gw_528 : Cond.selects "StarChart$Sheet" ⟨"StarChart$Sheet","pagesIn","(II)I"⟩ ⟨"StarChart$Sheet","pagesIn","(II)I"⟩ ∈ GG := gg_in 528 (by decide +kernel) (by decide +kernel)
set_option maxRecDepth 20000 in
theorem gw_529 : Cond.code ⟨"StarChart$Sheet","pagesIn","(II)I"⟩ prog_6_method_9_code 3 (some .int) ∈ GG := gg_in 529 rfl rfl
theorem gw_530 : Cond.methodLink "StarChart" 174 ⟨"StarChart$Course","joysOf","(LStarChart$Sheet;II)I"⟩ ∈ GG := gg_in 530 (by decide +kernel) (by decide +kernel)
theorem gw_531 : Cond.instanceMethod ⟨"StarChart$Course","joysOf","(LStarChart$Sheet;II)I"⟩ ∈ GG := gg_in 531 (by decide +kernel) (by decide +kernel)
theorem gw_532 : Cond.selects "StarChart$Course" ⟨"StarChart$Course","joysOf","(LStarChart$Sheet;II)I"⟩ ⟨"StarChart$Course","joysOf","(LStarChart$Sheet;II)I"⟩ ∈ GG := gg_in 532 (by decide +kernel) (by decide +kernel)
set_option maxRecDepth 20000 in
theorem gw_533 : Cond.code ⟨"StarChart$Course","joysOf","(LStarChart$Sheet;II)I"⟩ prog_2_method_5_code 4 (some .int) ∈ GG := gg_in 533 rfl rfl
theorem gw_534 : Cond.methodLink "StarChart" 178 ⟨"StarChart$Course","starsFor","(LStarChart$Sheet;II)I"⟩ ∈ GG := gg_in 534 (by decide +kernel) (by decide +kernel)
theorem gw_535 : Cond.instanceMethod ⟨"StarChart$Course","starsFor","(LStarChart$Sheet;II)I"⟩ ∈ GG := gg_in 535 (by decide +kernel) (by decide +kernel)
theorem gw_536 : Cond.selects "StarChart$Course" ⟨"StarChart$Course","starsFor","(LStarChart$Sheet;II)I"⟩ ⟨"StarChart$Course","starsFor","(LStarChart$Sheet;II)I"⟩ ∈ GG := gg_in 536 (by decide +kernel) (by decide +kernel)
set_option maxRecDepth 20000 in
theorem gw_537 : Cond.code ⟨"StarChart$Course","starsFor","(LStarChart$Sheet;II)I"⟩ prog_2_method_6_code 4 (some .int) ∈ GG := gg_in 537 rfl rfl
theorem gw_538 : Cond.methodLink "StarChart$Course" 40 ⟨"StarChart$Sheet","pagesIn","(II)I"⟩ ∈ GG := gg_in 538 (by decide +kernel) (by decide +kernel)
theorem gw_539 : Cond.methodLink "StarChart$Course" 44 ⟨"StarChart$Sheet","givenOn","(II)I"⟩ ∈ GG := gg_in 539 (by decide +kernel) (by decide +kernel)
theorem gw_540 : Cond.methodLink "StarChart" 181 ⟨"StarChart$Course","wantOf","(LStarChart$Sheet;II)I"⟩ ∈ GG := gg_in 540 (by decide +kernel) (by decide +kernel)
theorem gw_541 : Cond.instanceMethod ⟨"StarChart$Course","wantOf","(LStarChart$Sheet;II)I"⟩ ∈ GG := gg_in 541 (by decide +kernel) (by decide +kernel)
theorem gw_542 : Cond.selects "StarChart$Course" ⟨"StarChart$Course","wantOf","(LStarChart$Sheet;II)I"⟩ ⟨"StarChart$Course","wantOf","(LStarChart$Sheet;II)I"⟩ ∈ GG := gg_in 542 (by decide +kernel) (by decide +kernel)
set_option maxRecDepth 20000 in
theorem gw_543 : Cond.code ⟨"StarChart$Course","wantOf","(LStarChart$Sheet;II)I"⟩ prog_2_method_7_code 5 (some .int) ∈ GG := gg_in 543 rfl rfl
theorem gw_544 : Cond.methodLink "StarChart$Course" 50 ⟨"StarChart$Course","joysOf","(LStarChart$Sheet;II)I"⟩ ∈ GG := gg_in 544 (by decide +kernel) (by decide +kernel)
theorem gw_545 : Cond.methodLink "StarChart$Course" 58 ⟨"StarChart$Course","starsFor","(LStarChart$Sheet;II)I"⟩ ∈ GG := gg_in 545 (by decide +kernel) (by decide +kernel)
theorem gw_546 : Cond.methodLink "StarChartLaw" 56 ⟨"StarChart","choice","(I)I"⟩ ∈ GG := gg_in 546 (by decide +kernel) (by decide +kernel)
theorem gw_547 : Cond.instanceMethod ⟨"StarChart","choice","(I)I"⟩ ∈ GG := gg_in 547 (by decide +kernel) (by decide +kernel)
theorem gw_548 : Cond.selects "StarChart" ⟨"StarChart","choice","(I)I"⟩ ⟨"StarChart","choice","(I)I"⟩ ∈ GG := gg_in 548 (by decide +kernel) (by decide +kernel)
set_option maxRecDepth 20000 in
theorem gw_549 : Cond.code ⟨"StarChart","choice","(I)I"⟩ prog_1_method_11_code 2 (some .int) ∈ GG := gg_in 549 rfl rfl
theorem gw_550 : Cond.methodLink "StarChart" 184 ⟨"StarChart$Course","choiceOf","(LStarChart$Sheet;II)I"⟩ ∈ GG := gg_in 550 (by decide +kernel) (by decide +kernel)
theorem gw_551 : Cond.instanceMethod ⟨"StarChart$Course","choiceOf","(LStarChart$Sheet;II)I"⟩ ∈ GG := gg_in 551 (by decide +kernel) (by decide +kernel)
theorem gw_552 : Cond.selects "StarChart$Course" ⟨"StarChart$Course","choiceOf","(LStarChart$Sheet;II)I"⟩ ⟨"StarChart$Course","choiceOf","(LStarChart$Sheet;II)I"⟩ ∈ GG := gg_in 552 (by decide +kernel) (by decide +kernel)
set_option maxRecDepth 20000 in
theorem gw_553 : Cond.code ⟨"StarChart$Course","choiceOf","(LStarChart$Sheet;II)I"⟩ prog_2_method_8_code 8 (some .int) ∈ GG := gg_in 553 rfl rfl
theorem gw_554 : Cond.methodLink "StarChart$Course" 64 ⟨"StarChart$Course","wantOf","(LStarChart$Sheet;II)I"⟩ ∈ GG := gg_in 554 (by decide +kernel) (by decide +kernel)
theorem gw_555 : Cond.methodLink "StarChartLaw" 60 ⟨"StarChart","go","(I)I"⟩ ∈ GG := gg_in 555 (by decide +kernel) (by decide +kernel)
theorem gw_556 : Cond.instanceMethod ⟨"StarChart","go","(I)I"⟩ ∈ GG := gg_in 556 (by decide +kernel) (by decide +kernel)
theorem gw_557 : Cond.selects "StarChart" ⟨"StarChart","go","(I)I"⟩ ⟨"StarChart","go","(I)I"⟩ ∈ GG := gg_in 557 (by decide +kernel) (by decide +kernel)
set_option maxRecDepth 20000 in
theorem gw_558 : Cond.code ⟨"StarChart","go","(I)I"⟩ prog_1_method_12_code 4 (some .int) ∈ GG := gg_in 558 rfl rfl
theorem gw_559 : Cond.methodLink "StarChart" 190 ⟨"java/lang/Math","min","(II)I"⟩ ∈ GG := gg_in 559 (by decide +kernel) (by decide +kernel)
theorem gw_560 : Cond.static ⟨"java/lang/Math","min","(II)I"⟩ ∈ GG := gg_in 560 (by decide +kernel) (by decide +kernel)
set_option maxRecDepth 20000 in
theorem gw_561 : Cond.code ⟨"java/lang/Math","min","(II)I"⟩ prog_10_method_69_code 2 (some .int) ∈ GG := gg_in 561 rfl rfl
theorem gw_562 : Cond.methodLink "StarChart" 195 ⟨"StarChart$Course","pass","(LStarChart$Sheet;[I)I"⟩ ∈ GG := gg_in 562 (by decide +kernel) (by decide +kernel)
theorem gw_563 : Cond.instanceMethod ⟨"StarChart$Course","pass","(LStarChart$Sheet;[I)I"⟩ ∈ GG := gg_in 563 (by decide +kernel) (by decide +kernel)
theorem gw_564 : Cond.selects "StarChart$Course" ⟨"StarChart$Course","pass","(LStarChart$Sheet;[I)I"⟩ ⟨"StarChart$Course","pass","(LStarChart$Sheet;[I)I"⟩ ∈ GG := gg_in 564 (by decide +kernel) (by decide +kernel)
set_option maxRecDepth 20000 in
theorem gw_565 : Cond.code ⟨"StarChart$Course","pass","(LStarChart$Sheet;[I)I"⟩ prog_2_method_9_code 9 (some .int) ∈ GG := gg_in 565 rfl rfl
theorem gw_566 : Cond.methodLink "StarChart$Course" 70 ⟨"StarChart$Course","choiceOf","(LStarChart$Sheet;II)I"⟩ ∈ GG := gg_in 566 (by decide +kernel) (by decide +kernel)
theorem gw_567 : Cond.methodLink "StarChart$Course" 73 ⟨"StarChart$Course","likingBehind","(LStarChart$Sheet;[III)I"⟩ ∈ GG := gg_in 567 (by decide +kernel) (by decide +kernel)
theorem gw_569 : Cond.instanceMethod ⟨"StarChart$Course","likingBehind","(LStarChart$Sheet;[III)I"⟩ ∈ GG := gg_in 569 (by decide +kernel) (by decide +kernel)
set_option maxRecDepth 20000 in
theorem gw_570 : Cond.code ⟨"StarChart$Course","likingBehind","(LStarChart$Sheet;[III)I"⟩ prog_2_method_10_code 9 (some .int) ∈ GG := gg_in 570 rfl rfl
theorem gw_571 : Cond.methodLink "StarChart$Course" 81 ⟨"java/lang/Math","min","(II)I"⟩ ∈ GG := gg_in 571 (by decide +kernel) (by decide +kernel)
theorem gw_572 : Cond.methodLink "StarChart$Course" 86 ⟨"java/lang/Math","max","(II)I"⟩ ∈ GG := gg_in 572 (by decide +kernel) (by decide +kernel)
theorem gw_573 : Cond.static ⟨"java/lang/Math","max","(II)I"⟩ ∈ GG := gg_in 573 (by decide +kernel) (by decide +kernel)
set_option maxRecDepth 20000 in
theorem gw_574 : Cond.code ⟨"java/lang/Math","max","(II)I"⟩ prog_10_method_65_code 2 (some .int) ∈ GG := gg_in 574 rfl rfl
theorem gw_575 : Cond.methodLink "StarChart$Course" 77 ⟨"StarChart$Course","worthBehind","(LStarChart$Sheet;[II)I"⟩ ∈ GG := gg_in 575 (by decide +kernel) (by decide +kernel)
theorem gw_577 : Cond.instanceMethod ⟨"StarChart$Course","worthBehind","(LStarChart$Sheet;[II)I"⟩ ∈ GG := gg_in 577 (by decide +kernel) (by decide +kernel)
set_option maxRecDepth 20000 in
theorem gw_578 : Cond.code ⟨"StarChart$Course","worthBehind","(LStarChart$Sheet;[II)I"⟩ prog_2_method_11_code 5 (some .int) ∈ GG := gg_in 578 rfl rfl
theorem gw_579 : Cond.methodLink "StarChart$Course" 89 ⟨"StarChart$Sheet","givesNothing","(I)Z"⟩ ∈ GG := gg_in 579 (by decide +kernel) (by decide +kernel)
theorem gw_580 : Cond.instanceMethod ⟨"StarChart$Sheet","givesNothing","(I)Z"⟩ ∈ GG := gg_in 580 (by decide +kernel) (by decide +kernel)
theorem gw_581 : Cond.selects "StarChart$Sheet" ⟨"StarChart$Sheet","givesNothing","(I)Z"⟩ ⟨"StarChart$Sheet","givesNothing","(I)Z"⟩ ∈ GG := gg_in 581 (by decide +kernel) (by decide +kernel)
set_option maxRecDepth 20000 in
theorem gw_582 : Cond.code ⟨"StarChart$Sheet","givesNothing","(I)Z"⟩ prog_6_method_11_code 3 (some .boolean) ∈ GG := gg_in 582 rfl rfl
theorem gw_583 : Cond.methodLink "StarChart$Sheet" 67 ⟨"StarChart$Sheet","givenOn","(II)I"⟩ ∈ GG := gg_in 583 (by decide +kernel) (by decide +kernel)
theorem gw_584 : Cond.methodLink "StarChartLaw" 64 ⟨"StarChart","now","(I)I"⟩ ∈ GG := gg_in 584 (by decide +kernel) (by decide +kernel)
theorem gw_585 : Cond.instanceMethod ⟨"StarChart","now","(I)I"⟩ ∈ GG := gg_in 585 (by decide +kernel) (by decide +kernel)
theorem gw_586 : Cond.selects "StarChart" ⟨"StarChart","now","(I)I"⟩ ⟨"StarChart","now","(I)I"⟩ ∈ GG := gg_in 586 (by decide +kernel) (by decide +kernel)
set_option maxRecDepth 20000 in
theorem gw_587 : Cond.code ⟨"StarChart","now","(I)I"⟩ prog_1_method_13_code 2 (some .int) ∈ GG := gg_in 587 rfl rfl
theorem gw_588 : Cond.methodLink "StarChart" 205 ⟨"StarChart$Course","sumOf","([II)I"⟩ ∈ GG := gg_in 588 (by decide +kernel) (by decide +kernel)
theorem gw_589 : Cond.static ⟨"StarChart$Course","sumOf","([II)I"⟩ ∈ GG := gg_in 589 (by decide +kernel) (by decide +kernel)
set_option maxRecDepth 20000 in
theorem gw_590 : Cond.code ⟨"StarChart$Course","sumOf","([II)I"⟩ prog_2_method_4_code 4 (some .int) ∈ GG := gg_in 590 rfl rfl
theorem gw_591 : Cond.methodLink "StarChartLaw" 68 ⟨"StarChart","anew","()I"⟩ ∈ GG := gg_in 591 (by decide +kernel) (by decide +kernel)
theorem gw_592 : Cond.instanceMethod ⟨"StarChart","anew","()I"⟩ ∈ GG := gg_in 592 (by decide +kernel) (by decide +kernel)
theorem gw_593 : Cond.selects "StarChart" ⟨"StarChart","anew","()I"⟩ ⟨"StarChart","anew","()I"⟩ ∈ GG := gg_in 593 (by decide +kernel) (by decide +kernel)
set_option maxRecDepth 20000 in
theorem gw_594 : Cond.code ⟨"StarChart","anew","()I"⟩ prog_1_method_14_code 2 (some .int) ∈ GG := gg_in 594 rfl rfl
theorem gw_595 : Cond.methodLink "StarChartLaw" 72 ⟨"StarChart","term","(I)I"⟩ ∈ GG := gg_in 595 (by decide +kernel) (by decide +kernel)
theorem gw_596 : Cond.instanceMethod ⟨"StarChart","term","(I)I"⟩ ∈ GG := gg_in 596 (by decide +kernel) (by decide +kernel)
theorem gw_597 : Cond.selects "StarChart" ⟨"StarChart","term","(I)I"⟩ ⟨"StarChart","term","(I)I"⟩ ∈ GG := gg_in 597 (by decide +kernel) (by decide +kernel)
set_option maxRecDepth 20000 in
theorem gw_598 : Cond.code ⟨"StarChart","term","(I)I"⟩ prog_1_method_15_code 3 (some .int) ∈ GG := gg_in 598 rfl rfl
theorem gw_599 : Cond.methodLink "StarChart" 209 ⟨"StarChart","pagesBetween","(II)I"⟩ ∈ GG := gg_in 599 (by decide +kernel) (by decide +kernel)
theorem gw_601 : Cond.instanceMethod ⟨"StarChart","pagesBetween","(II)I"⟩ ∈ GG := gg_in 601 (by decide +kernel) (by decide +kernel)
set_option maxRecDepth 20000 in
theorem gw_602 : Cond.code ⟨"StarChart","pagesBetween","(II)I"⟩ prog_1_method_41_code 6 (some .int) ∈ GG := gg_in 602 rfl rfl
theorem gw_603 : Cond.methodLink "StarChart" 212 ⟨"StarChart$Sheet","payNothing","()V"⟩ ∈ GG := gg_in 603 (by decide +kernel) (by decide +kernel)
theorem gw_604 : Cond.methodLink "StarChartLaw" 76 ⟨"StarChart","end","(I)I"⟩ ∈ GG := gg_in 604 (by decide +kernel) (by decide +kernel)
theorem gw_605 : Cond.instanceMethod ⟨"StarChart","end","(I)I"⟩ ∈ GG := gg_in 605 (by decide +kernel) (by decide +kernel)
theorem gw_606 : Cond.selects "StarChart" ⟨"StarChart","end","(I)I"⟩ ⟨"StarChart","end","(I)I"⟩ ∈ GG := gg_in 606 (by decide +kernel) (by decide +kernel)
set_option maxRecDepth 20000 in
theorem gw_607 : Cond.code ⟨"StarChart","end","(I)I"⟩ prog_1_method_16_code 2 (some .int) ∈ GG := gg_in 607 rfl rfl
theorem gw_608 : Cond.methodLink "StarChart" 215 ⟨"StarChart","likingOn","(I)I"⟩ ∈ GG := gg_in 608 (by decide +kernel) (by decide +kernel)
theorem gw_610 : Cond.instanceMethod ⟨"StarChart","likingOn","(I)I"⟩ ∈ GG := gg_in 610 (by decide +kernel) (by decide +kernel)
set_option maxRecDepth 20000 in
theorem gw_611 : Cond.code ⟨"StarChart","likingOn","(I)I"⟩ prog_1_method_42_code 3 (some .int) ∈ GG := gg_in 611 rfl rfl
theorem gw_612 : Cond.methodLink "StarChartLaw" 80 ⟨"StarChart","best","(III)I"⟩ ∈ GG := gg_in 612 (by decide +kernel) (by decide +kernel)
theorem gw_613 : Cond.instanceMethod ⟨"StarChart","best","(III)I"⟩ ∈ GG := gg_in 613 (by decide +kernel) (by decide +kernel)
theorem gw_614 : Cond.selects "StarChart" ⟨"StarChart","best","(III)I"⟩ ⟨"StarChart","best","(III)I"⟩ ∈ GG := gg_in 614 (by decide +kernel) (by decide +kernel)
set_option maxRecDepth 20000 in
theorem gw_615 : Cond.code ⟨"StarChart","best","(III)I"⟩ prog_1_method_17_code 11 (some .int) ∈ GG := gg_in 615 rfl rfl
theorem gw_616 : Cond.methodLink "StarChartLaw" 84 ⟨"StarChart","line","(III)I"⟩ ∈ GG := gg_in 616 (by decide +kernel) (by decide +kernel)
theorem gw_617 : Cond.instanceMethod ⟨"StarChart","line","(III)I"⟩ ∈ GG := gg_in 617 (by decide +kernel) (by decide +kernel)
theorem gw_618 : Cond.selects "StarChart" ⟨"StarChart","line","(III)I"⟩ ⟨"StarChart","line","(III)I"⟩ ∈ GG := gg_in 618 (by decide +kernel) (by decide +kernel)
set_option maxRecDepth 20000 in
theorem gw_619 : Cond.code ⟨"StarChart","line","(III)I"⟩ prog_1_method_18_code 6 (some .int) ∈ GG := gg_in 619 rfl rfl
theorem gw_620 : Cond.methodLink "StarChart" 219 ⟨"StarChart$Sheet","teachOne","(III)V"⟩ ∈ GG := gg_in 620 (by decide +kernel) (by decide +kernel)
theorem gw_621 : Cond.instanceMethod ⟨"StarChart$Sheet","teachOne","(III)V"⟩ ∈ GG := gg_in 621 (by decide +kernel) (by decide +kernel)
theorem gw_622 : Cond.selects "StarChart$Sheet" ⟨"StarChart$Sheet","teachOne","(III)V"⟩ ⟨"StarChart$Sheet","teachOne","(III)V"⟩ ∈ GG := gg_in 622 (by decide +kernel) (by decide +kernel)
set_option maxRecDepth 20000 in
theorem gw_623 : Cond.code ⟨"StarChart$Sheet","teachOne","(III)V"⟩ prog_6_method_8_code 4 none ∈ GG := gg_in 623 rfl rfl
theorem gw_624 : Cond.methodLink "StarChart$Sheet" 63 ⟨"StarChart$Sheet","addChild","(III)V"⟩ ∈ GG := gg_in 624 (by decide +kernel) (by decide +kernel)
theorem gw_625 : Cond.methodLink "StarChartLaw" 88 ⟨"StarChart","ending","(I)I"⟩ ∈ GG := gg_in 625 (by decide +kernel) (by decide +kernel)
theorem gw_626 : Cond.instanceMethod ⟨"StarChart","ending","(I)I"⟩ ∈ GG := gg_in 626 (by decide +kernel) (by decide +kernel)
theorem gw_627 : Cond.selects "StarChart" ⟨"StarChart","ending","(I)I"⟩ ⟨"StarChart","ending","(I)I"⟩ ∈ GG := gg_in 627 (by decide +kernel) (by decide +kernel)
set_option maxRecDepth 20000 in
theorem gw_628 : Cond.code ⟨"StarChart","ending","(I)I"⟩ prog_1_method_19_code 6 (some .int) ∈ GG := gg_in 628 rfl rfl
theorem gw_629 : Cond.methodLink "StarChartLaw" 92 ⟨"StarChart","easy","()I"⟩ ∈ GG := gg_in 629 (by decide +kernel) (by decide +kernel)
theorem gw_630 : Cond.instanceMethod ⟨"StarChart","easy","()I"⟩ ∈ GG := gg_in 630 (by decide +kernel) (by decide +kernel)
theorem gw_631 : Cond.selects "StarChart" ⟨"StarChart","easy","()I"⟩ ⟨"StarChart","easy","()I"⟩ ∈ GG := gg_in 631 (by decide +kernel) (by decide +kernel)
set_option maxRecDepth 20000 in
theorem gw_632 : Cond.code ⟨"StarChart","easy","()I"⟩ prog_1_method_20_code 4 (some .int) ∈ GG := gg_in 632 rfl rfl
theorem gw_633 : Cond.methodLink "StarChartLaw" 96 ⟨"StarChart","stays","(II)I"⟩ ∈ GG := gg_in 633 (by decide +kernel) (by decide +kernel)
theorem gw_634 : Cond.instanceMethod ⟨"StarChart","stays","(II)I"⟩ ∈ GG := gg_in 634 (by decide +kernel) (by decide +kernel)
theorem gw_635 : Cond.selects "StarChart" ⟨"StarChart","stays","(II)I"⟩ ⟨"StarChart","stays","(II)I"⟩ ∈ GG := gg_in 635 (by decide +kernel) (by decide +kernel)
set_option maxRecDepth 20000 in
theorem gw_636 : Cond.code ⟨"StarChart","stays","(II)I"⟩ prog_1_method_21_code 4 (some .int) ∈ GG := gg_in 636 rfl rfl
theorem gw_637 : Cond.methodLink "StarChartLaw" 100 ⟨"StarChart","rests","(III)I"⟩ ∈ GG := gg_in 637 (by decide +kernel) (by decide +kernel)
theorem gw_638 : Cond.instanceMethod ⟨"StarChart","rests","(III)I"⟩ ∈ GG := gg_in 638 (by decide +kernel) (by decide +kernel)
theorem gw_639 : Cond.selects "StarChart" ⟨"StarChart","rests","(III)I"⟩ ⟨"StarChart","rests","(III)I"⟩ ∈ GG := gg_in 639 (by decide +kernel) (by decide +kernel)
set_option maxRecDepth 20000 in
theorem gw_640 : Cond.code ⟨"StarChart","rests","(III)I"⟩ prog_1_method_22_code 7 (some .int) ∈ GG := gg_in 640 rfl rfl
theorem gw_641 : Cond.methodLink "StarChart" 226 ⟨"StarChart","fillJar","(II)V"⟩ ∈ GG := gg_in 641 (by decide +kernel) (by decide +kernel)
theorem gw_643 : Cond.instanceMethod ⟨"StarChart","fillJar","(II)V"⟩ ∈ GG := gg_in 643 (by decide +kernel) (by decide +kernel)
set_option maxRecDepth 20000 in
theorem gw_644 : Cond.code ⟨"StarChart","fillJar","(II)V"⟩ prog_1_method_43_code 5 none ∈ GG := gg_in 644 rfl rfl
theorem gw_645 : Cond.methodLink "StarChart" 236 ⟨"java/lang/Math","max","(II)I"⟩ ∈ GG := gg_in 645 (by decide +kernel) (by decide +kernel)
theorem gw_646 : Cond.methodLink "StarChart" 230 ⟨"StarChart$Jar","isRest","(I)Z"⟩ ∈ GG := gg_in 646 (by decide +kernel) (by decide +kernel)
theorem gw_647 : Cond.instanceMethod ⟨"StarChart$Jar","isRest","(I)Z"⟩ ∈ GG := gg_in 647 (by decide +kernel) (by decide +kernel)
theorem gw_648 : Cond.selects "StarChart$Jar" ⟨"StarChart$Jar","isRest","(I)Z"⟩ ⟨"StarChart$Jar","isRest","(I)Z"⟩ ∈ GG := gg_in 648 (by decide +kernel) (by decide +kernel)
set_option maxRecDepth 20000 in
theorem gw_649 : Cond.code ⟨"StarChart$Jar","isRest","(I)Z"⟩ prog_4_method_4_code 3 (some .boolean) ∈ GG := gg_in 649 rfl rfl
theorem gw_650 : Cond.methodLink "StarChart$Jar" 32 ⟨"StarChart$Jar","hasBy","(II)I"⟩ ∈ GG := gg_in 650 (by decide +kernel) (by decide +kernel)
theorem gw_652 : Cond.instanceMethod ⟨"StarChart$Jar","hasBy","(II)I"⟩ ∈ GG := gg_in 652 (by decide +kernel) (by decide +kernel)
set_option maxRecDepth 20000 in
theorem gw_653 : Cond.code ⟨"StarChart$Jar","hasBy","(II)I"⟩ prog_4_method_3_code 4 (some .int) ∈ GG := gg_in 653 rfl rfl
theorem gw_654 : Cond.methodLink "StarChart$Jar" 25 ⟨"StarChart$Jar","pagesOf","(I)I"⟩ ∈ GG := gg_in 654 (by decide +kernel) (by decide +kernel)
theorem gw_656 : Cond.instanceMethod ⟨"StarChart$Jar","pagesOf","(I)I"⟩ ∈ GG := gg_in 656 (by decide +kernel) (by decide +kernel)
set_option maxRecDepth 20000 in
theorem gw_657 : Cond.code ⟨"StarChart$Jar","pagesOf","(I)I"⟩ prog_4_method_2_code 4 (some .int) ∈ GG := gg_in 657 rfl rfl
theorem gw_658 : Cond.methodLink "StarChartLaw" 104 ⟨"StarChart","blamed","(II)I"⟩ ∈ GG := gg_in 658 (by decide +kernel) (by decide +kernel)
theorem gw_659 : Cond.instanceMethod ⟨"StarChart","blamed","(II)I"⟩ ∈ GG := gg_in 659 (by decide +kernel) (by decide +kernel)
theorem gw_660 : Cond.selects "StarChart" ⟨"StarChart","blamed","(II)I"⟩ ⟨"StarChart","blamed","(II)I"⟩ ∈ GG := gg_in 660 (by decide +kernel) (by decide +kernel)
set_option maxRecDepth 20000 in
theorem gw_661 : Cond.code ⟨"StarChart","blamed","(II)I"⟩ prog_1_method_23_code 3 (some .int) ∈ GG := gg_in 661 rfl rfl
theorem gw_662 : Cond.methodLink "StarChart" 233 ⟨"StarChart$Jar","blamedFor","(I)I"⟩ ∈ GG := gg_in 662 (by decide +kernel) (by decide +kernel)
theorem gw_663 : Cond.instanceMethod ⟨"StarChart$Jar","blamedFor","(I)I"⟩ ∈ GG := gg_in 663 (by decide +kernel) (by decide +kernel)
theorem gw_664 : Cond.selects "StarChart$Jar" ⟨"StarChart$Jar","blamedFor","(I)I"⟩ ⟨"StarChart$Jar","blamedFor","(I)I"⟩ ∈ GG := gg_in 664 (by decide +kernel) (by decide +kernel)
set_option maxRecDepth 20000 in
theorem gw_665 : Cond.code ⟨"StarChart$Jar","blamedFor","(I)I"⟩ prog_4_method_5_code 4 (some .int) ∈ GG := gg_in 665 rfl rfl
theorem gw_666 : Cond.methodLink "StarChartLaw" 108 ⟨"StarChart","checks","(I)I"⟩ ∈ GG := gg_in 666 (by decide +kernel) (by decide +kernel)
theorem gw_667 : Cond.instanceMethod ⟨"StarChart","checks","(I)I"⟩ ∈ GG := gg_in 667 (by decide +kernel) (by decide +kernel)
theorem gw_668 : Cond.selects "StarChart" ⟨"StarChart","checks","(I)I"⟩ ⟨"StarChart","checks","(I)I"⟩ ∈ GG := gg_in 668 (by decide +kernel) (by decide +kernel)
set_option maxRecDepth 20000 in
theorem gw_669 : Cond.code ⟨"StarChart","checks","(I)I"⟩ prog_1_method_24_code 5 (some .int) ∈ GG := gg_in 669 rfl rfl
theorem gw_670 : Cond.methodLink "StarChartLaw" 112 ⟨"StarChart","trial","(II)I"⟩ ∈ GG := gg_in 670 (by decide +kernel) (by decide +kernel)
theorem gw_671 : Cond.instanceMethod ⟨"StarChart","trial","(II)I"⟩ ∈ GG := gg_in 671 (by decide +kernel) (by decide +kernel)
theorem gw_672 : Cond.selects "StarChart" ⟨"StarChart","trial","(II)I"⟩ ⟨"StarChart","trial","(II)I"⟩ ∈ GG := gg_in 672 (by decide +kernel) (by decide +kernel)
set_option maxRecDepth 20000 in
theorem gw_673 : Cond.code ⟨"StarChart","trial","(II)I"⟩ prog_1_method_25_code 3 (some .int) ∈ GG := gg_in 673 rfl rfl
theorem gw_674 : Cond.methodLink "StarChart" 239 ⟨"StarChart$Trials","note","(II)Z"⟩ ∈ GG := gg_in 674 (by decide +kernel) (by decide +kernel)
theorem gw_675 : Cond.instanceMethod ⟨"StarChart$Trials","note","(II)Z"⟩ ∈ GG := gg_in 675 (by decide +kernel) (by decide +kernel)
theorem gw_676 : Cond.selects "StarChart$Trials" ⟨"StarChart$Trials","note","(II)Z"⟩ ⟨"StarChart$Trials","note","(II)Z"⟩ ∈ GG := gg_in 676 (by decide +kernel) (by decide +kernel)
set_option maxRecDepth 20000 in
theorem gw_677 : Cond.code ⟨"StarChart$Trials","note","(II)Z"⟩ prog_7_method_2_code 3 (some .boolean) ∈ GG := gg_in 677 rfl rfl
theorem gw_678 : Cond.methodLink "StarChartLaw" 116 ⟨"StarChart","joined","(II)I"⟩ ∈ GG := gg_in 678 (by decide +kernel) (by decide +kernel)
theorem gw_679 : Cond.instanceMethod ⟨"StarChart","joined","(II)I"⟩ ∈ GG := gg_in 679 (by decide +kernel) (by decide +kernel)
theorem gw_680 : Cond.selects "StarChart" ⟨"StarChart","joined","(II)I"⟩ ⟨"StarChart","joined","(II)I"⟩ ∈ GG := gg_in 680 (by decide +kernel) (by decide +kernel)
set_option maxRecDepth 20000 in
theorem gw_681 : Cond.code ⟨"StarChart","joined","(II)I"⟩ prog_1_method_26_code 3 (some .int) ∈ GG := gg_in 681 rfl rfl
theorem gw_682 : Cond.constant "StarChart" 246 (-1000000) ∈ GG := gg_in 682 (by decide +kernel) (by decide +kernel)
theorem gw_683 : Cond.methodLink "StarChart" 247 ⟨"StarChart$Trials","meanOf","(II)I"⟩ ∈ GG := gg_in 683 (by decide +kernel) (by decide +kernel)
theorem gw_684 : Cond.instanceMethod ⟨"StarChart$Trials","meanOf","(II)I"⟩ ∈ GG := gg_in 684 (by decide +kernel) (by decide +kernel)
theorem gw_685 : Cond.selects "StarChart$Trials" ⟨"StarChart$Trials","meanOf","(II)I"⟩ ⟨"StarChart$Trials","meanOf","(II)I"⟩ ∈ GG := gg_in 685 (by decide +kernel) (by decide +kernel)
set_option maxRecDepth 20000 in
theorem gw_686 : Cond.code ⟨"StarChart$Trials","meanOf","(II)I"⟩ prog_7_method_5_code 7 (some .int) ∈ GG := gg_in 686 rfl rfl
theorem gw_687 : Cond.methodLink "StarChart$Trials" 22 ⟨"StarChart$Trials","sumOf","(I)I"⟩ ∈ GG := gg_in 687 (by decide +kernel) (by decide +kernel)
theorem gw_689 : Cond.instanceMethod ⟨"StarChart$Trials","sumOf","(I)I"⟩ ∈ GG := gg_in 689 (by decide +kernel) (by decide +kernel)
set_option maxRecDepth 20000 in
theorem gw_690 : Cond.code ⟨"StarChart$Trials","sumOf","(I)I"⟩ prog_7_method_4_code 4 (some .int) ∈ GG := gg_in 690 rfl rfl
theorem gw_691 : Cond.methodLink "StarChart$Trials" 26 ⟨"StarChart$Trials","manyOf","(I)I"⟩ ∈ GG := gg_in 691 (by decide +kernel) (by decide +kernel)
theorem gw_692 : Cond.instanceMethod ⟨"StarChart$Trials","manyOf","(I)I"⟩ ∈ GG := gg_in 692 (by decide +kernel) (by decide +kernel)
theorem gw_693 : Cond.selects "StarChart$Trials" ⟨"StarChart$Trials","manyOf","(I)I"⟩ ⟨"StarChart$Trials","manyOf","(I)I"⟩ ∈ GG := gg_in 693 (by decide +kernel) (by decide +kernel)
set_option maxRecDepth 20000 in
theorem gw_694 : Cond.code ⟨"StarChart$Trials","manyOf","(I)I"⟩ prog_7_method_3_code 4 (some .int) ∈ GG := gg_in 694 rfl rfl
theorem gw_695 : Cond.constant "StarChart$Trials" 29 (-1000000) ∈ GG := gg_in 695 (by decide +kernel) (by decide +kernel)
theorem gw_696 : Cond.methodLink "StarChartLaw" 120 ⟨"StarChart","parts","()I"⟩ ∈ GG := gg_in 696 (by decide +kernel) (by decide +kernel)
theorem gw_697 : Cond.instanceMethod ⟨"StarChart","parts","()I"⟩ ∈ GG := gg_in 697 (by decide +kernel) (by decide +kernel)
theorem gw_698 : Cond.selects "StarChart" ⟨"StarChart","parts","()I"⟩ ⟨"StarChart","parts","()I"⟩ ∈ GG := gg_in 698 (by decide +kernel) (by decide +kernel)
set_option maxRecDepth 20000 in
theorem gw_699 : Cond.code ⟨"StarChart","parts","()I"⟩ prog_1_method_27_code 1 (some .int) ∈ GG := gg_in 699 rfl rfl
theorem gw_700 : Cond.methodLink "StarChart" 250 ⟨"StarChart$Trials","farthestBit","()I"⟩ ∈ GG := gg_in 700 (by decide +kernel) (by decide +kernel)
theorem gw_701 : Cond.instanceMethod ⟨"StarChart$Trials","farthestBit","()I"⟩ ∈ GG := gg_in 701 (by decide +kernel) (by decide +kernel)
theorem gw_702 : Cond.selects "StarChart$Trials" ⟨"StarChart$Trials","farthestBit","()I"⟩ ⟨"StarChart$Trials","farthestBit","()I"⟩ ∈ GG := gg_in 702 (by decide +kernel) (by decide +kernel)
set_option maxRecDepth 20000 in
theorem gw_703 : Cond.code ⟨"StarChart$Trials","farthestBit","()I"⟩ prog_7_method_6_code 11 (some .int) ∈ GG := gg_in 703 rfl rfl
theorem gw_704 : Cond.fieldLink "StarChart$Trials" 30 "StarChart$Trials" "SORTS_WITH" "[I" ∈ GG := gg_in 704 (by decide +kernel) (by decide +kernel)
theorem lt_705 : Cond.laysStatic "StarChart$Trials" "SORTS_WITH" "[I" ∈ lw_tbl := List.mem_of_getElem? (i := 705) (by decide +kernel)
theorem gw_706 : Cond.methodLink "StarChart$Trials" 33 ⟨"java/lang/Math","abs","(I)I"⟩ ∈ GG := gg_in 706 (by decide +kernel) (by decide +kernel)
theorem gw_707 : Cond.static ⟨"java/lang/Math","abs","(I)I"⟩ ∈ GG := gg_in 707 (by decide +kernel) (by decide +kernel)
set_option maxRecDepth 20000 in
theorem gw_708 : Cond.code ⟨"java/lang/Math","abs","(I)I"⟩ prog_10_method_59_code 1 (some .int) ∈ GG := gg_in 708 rfl rfl
theorem gw_709 : Cond.methodLink "StarChartLaw" 124 ⟨"StarChart","ahead","(II)I"⟩ ∈ GG := gg_in 709 (by decide +kernel) (by decide +kernel)
theorem gw_710 : Cond.instanceMethod ⟨"StarChart","ahead","(II)I"⟩ ∈ GG := gg_in 710 (by decide +kernel) (by decide +kernel)
theorem gw_711 : Cond.selects "StarChart" ⟨"StarChart","ahead","(II)I"⟩ ⟨"StarChart","ahead","(II)I"⟩ ∈ GG := gg_in 711 (by decide +kernel) (by decide +kernel)
set_option maxRecDepth 20000 in
theorem gw_712 : Cond.code ⟨"StarChart","ahead","(II)I"⟩ prog_1_method_28_code 4 (some .int) ∈ GG := gg_in 712 rfl rfl
theorem gw_713 : Cond.methodLink "StarChart" 253 ⟨"StarChart$Trials","manyOf","(I)I"⟩ ∈ GG := gg_in 713 (by decide +kernel) (by decide +kernel)
theorem gw_714 : Cond.methodLink "StarChartLaw" 128 ⟨"StarChart","halves","(I)I"⟩ ∈ GG := gg_in 714 (by decide +kernel) (by decide +kernel)
theorem gw_715 : Cond.instanceMethod ⟨"StarChart","halves","(I)I"⟩ ∈ GG := gg_in 715 (by decide +kernel) (by decide +kernel)
theorem gw_716 : Cond.selects "StarChart" ⟨"StarChart","halves","(I)I"⟩ ⟨"StarChart","halves","(I)I"⟩ ∈ GG := gg_in 716 (by decide +kernel) (by decide +kernel)
set_option maxRecDepth 20000 in
theorem gw_717 : Cond.code ⟨"StarChart","halves","(I)I"⟩ prog_1_method_29_code 6 (some .int) ∈ GG := gg_in 717 rfl rfl
theorem gw_718 : Cond.constant "StarChart" 256 1103515245 ∈ GG := gg_in 718 (by decide +kernel) (by decide +kernel)
theorem gw_719 : Cond.methodLink "StarChartLaw" 132 ⟨"StarChart","lot","(I)I"⟩ ∈ GG := gg_in 719 (by decide +kernel) (by decide +kernel)
theorem gw_720 : Cond.instanceMethod ⟨"StarChart","lot","(I)I"⟩ ∈ GG := gg_in 720 (by decide +kernel) (by decide +kernel)
theorem gw_721 : Cond.selects "StarChart" ⟨"StarChart","lot","(I)I"⟩ ⟨"StarChart","lot","(I)I"⟩ ∈ GG := gg_in 721 (by decide +kernel) (by decide +kernel)
set_option maxRecDepth 20000 in
theorem gw_722 : Cond.code ⟨"StarChart","lot","(I)I"⟩ prog_1_method_30_code 3 (some .int) ∈ GG := gg_in 722 rfl rfl
theorem gw_723 : Cond.methodLink "StarChartLaw" 136 ⟨"StarChart","rate","(II)I"⟩ ∈ GG := gg_in 723 (by decide +kernel) (by decide +kernel)
theorem gw_724 : Cond.instanceMethod ⟨"StarChart","rate","(II)I"⟩ ∈ GG := gg_in 724 (by decide +kernel) (by decide +kernel)
theorem gw_725 : Cond.selects "StarChart" ⟨"StarChart","rate","(II)I"⟩ ⟨"StarChart","rate","(II)I"⟩ ∈ GG := gg_in 725 (by decide +kernel) (by decide +kernel)
set_option maxRecDepth 20000 in
theorem gw_726 : Cond.code ⟨"StarChart","rate","(II)I"⟩ prog_1_method_31_code 3 (some .int) ∈ GG := gg_in 726 rfl rfl
theorem gw_727 : Cond.methodLink "StarChart" 257 ⟨"StarChart","rateOfPay","(I)I"⟩ ∈ GG := gg_in 727 (by decide +kernel) (by decide +kernel)
theorem gw_729 : Cond.instanceMethod ⟨"StarChart","rateOfPay","(I)I"⟩ ∈ GG := gg_in 729 (by decide +kernel) (by decide +kernel)
set_option maxRecDepth 20000 in
theorem gw_730 : Cond.code ⟨"StarChart","rateOfPay","(I)I"⟩ prog_1_method_44_code 2 (some .int) ∈ GG := gg_in 730 rfl rfl
theorem gw_731 : Cond.methodLink "StarChart" 260 ⟨"StarChart","rateOfTold","(I)I"⟩ ∈ GG := gg_in 731 (by decide +kernel) (by decide +kernel)
theorem gw_733 : Cond.instanceMethod ⟨"StarChart","rateOfTold","(I)I"⟩ ∈ GG := gg_in 733 (by decide +kernel) (by decide +kernel)
set_option maxRecDepth 20000 in
theorem gw_734 : Cond.code ⟨"StarChart","rateOfTold","(I)I"⟩ prog_1_method_45_code 2 (some .int) ∈ GG := gg_in 734 rfl rfl
theorem gw_735 : Cond.constantLong "StarChart" 297 10 ∈ GG := gg_in 735 (by decide +kernel) (by decide +kernel)
theorem gw_736 : Cond.methodLink "StarChart" 263 ⟨"StarChart","rateOfUnforeseen","(I)I"⟩ ∈ GG := gg_in 736 (by decide +kernel) (by decide +kernel)
theorem gw_738 : Cond.instanceMethod ⟨"StarChart","rateOfUnforeseen","(I)I"⟩ ∈ GG := gg_in 738 (by decide +kernel) (by decide +kernel)
set_option maxRecDepth 20000 in
theorem gw_739 : Cond.code ⟨"StarChart","rateOfUnforeseen","(I)I"⟩ prog_1_method_46_code 2 (some .int) ∈ GG := gg_in 739 rfl rfl
theorem gw_740 : Cond.constantLong "StarChart" 299 100 ∈ GG := gg_in 740 (by decide +kernel) (by decide +kernel)
theorem gw_741 : Cond.methodLink "StarChart" 266 ⟨"StarChart","rateOfDoing","(I)I"⟩ ∈ GG := gg_in 741 (by decide +kernel) (by decide +kernel)
theorem gw_743 : Cond.instanceMethod ⟨"StarChart","rateOfDoing","(I)I"⟩ ∈ GG := gg_in 743 (by decide +kernel) (by decide +kernel)
set_option maxRecDepth 20000 in
theorem gw_744 : Cond.code ⟨"StarChart","rateOfDoing","(I)I"⟩ prog_1_method_47_code 2 (some .int) ∈ GG := gg_in 744 rfl rfl
theorem gw_745 : Cond.constantLong "StarChart" 301 1000 ∈ GG := gg_in 745 (by decide +kernel) (by decide +kernel)
theorem gw_746 : Cond.methodLink "StarChart" 269 ⟨"StarChart","rateOfWell","(I)I"⟩ ∈ GG := gg_in 746 (by decide +kernel) (by decide +kernel)
theorem gw_748 : Cond.instanceMethod ⟨"StarChart","rateOfWell","(I)I"⟩ ∈ GG := gg_in 748 (by decide +kernel) (by decide +kernel)
set_option maxRecDepth 20000 in
theorem gw_749 : Cond.code ⟨"StarChart","rateOfWell","(I)I"⟩ prog_1_method_48_code 2 (some .int) ∈ GG := gg_in 749 rfl rfl
theorem gw_750 : Cond.constantLong "StarChart" 303 10000 ∈ GG := gg_in 750 (by decide +kernel) (by decide +kernel)
theorem gw_751 : Cond.methodLink "StarChart" 272 ⟨"StarChart","rateOfCommon","(I)I"⟩ ∈ GG := gg_in 751 (by decide +kernel) (by decide +kernel)
theorem gw_753 : Cond.instanceMethod ⟨"StarChart","rateOfCommon","(I)I"⟩ ∈ GG := gg_in 753 (by decide +kernel) (by decide +kernel)
set_option maxRecDepth 20000 in
theorem gw_754 : Cond.code ⟨"StarChart","rateOfCommon","(I)I"⟩ prog_1_method_49_code 2 (some .int) ∈ GG := gg_in 754 rfl rfl
theorem gw_755 : Cond.constantLong "StarChart" 305 100000 ∈ GG := gg_in 755 (by decide +kernel) (by decide +kernel)
theorem gw_756 : Cond.methodLink "StarChartLaw" 140 ⟨"StarChart","keep","(I)I"⟩ ∈ GG := gg_in 756 (by decide +kernel) (by decide +kernel)
theorem gw_757 : Cond.instanceMethod ⟨"StarChart","keep","(I)I"⟩ ∈ GG := gg_in 757 (by decide +kernel) (by decide +kernel)
theorem gw_758 : Cond.selects "StarChart" ⟨"StarChart","keep","(I)I"⟩ ⟨"StarChart","keep","(I)I"⟩ ∈ GG := gg_in 758 (by decide +kernel) (by decide +kernel)
set_option maxRecDepth 20000 in
theorem gw_759 : Cond.code ⟨"StarChart","keep","(I)I"⟩ prog_1_method_32_code 3 (some .int) ∈ GG := gg_in 759 rfl rfl
theorem gw_760 : Cond.methodLink "StarChart" 275 ⟨"StarChart","imageOf","(I)LStarChart$Image;"⟩ ∈ GG := gg_in 760 (by decide +kernel) (by decide +kernel)
theorem gw_762 : Cond.instanceMethod ⟨"StarChart","imageOf","(I)LStarChart$Image;"⟩ ∈ GG := gg_in 762 (by decide +kernel) (by decide +kernel)
set_option maxRecDepth 20000 in
theorem gw_763 : Cond.code ⟨"StarChart","imageOf","(I)LStarChart$Image;"⟩ prog_1_method_40_code 2 (some (.object "StarChart$Image")) ∈ GG := gg_in 763 rfl rfl
theorem gw_764 : Cond.methodLink "StarChart" 283 ⟨"StarChart$Course","copyOf","(LStarChart$Course;)V"⟩ ∈ GG := gg_in 764 (by decide +kernel) (by decide +kernel)
theorem gw_765 : Cond.instanceMethod ⟨"StarChart$Course","copyOf","(LStarChart$Course;)V"⟩ ∈ GG := gg_in 765 (by decide +kernel) (by decide +kernel)
theorem gw_766 : Cond.selects "StarChart$Course" ⟨"StarChart$Course","copyOf","(LStarChart$Course;)V"⟩ ⟨"StarChart$Course","copyOf","(LStarChart$Course;)V"⟩ ∈ GG := gg_in 766 (by decide +kernel) (by decide +kernel)
set_option maxRecDepth 20000 in
theorem gw_767 : Cond.code ⟨"StarChart$Course","copyOf","(LStarChart$Course;)V"⟩ prog_2_method_3_code 2 none ∈ GG := gg_in 767 rfl rfl
theorem gw_768 : Cond.methodLink "StarChart$Course" 31 ⟨"java/lang/System","arraycopy","(Ljava/lang/Object;ILjava/lang/Object;II)V"⟩ ∈ GG := gg_in 768 (by decide +kernel) (by decide +kernel)
theorem gw_769 : Cond.methodLink "StarChartLaw" 144 ⟨"StarChart","back","(I)I"⟩ ∈ GG := gg_in 769 (by decide +kernel) (by decide +kernel)
theorem gw_770 : Cond.instanceMethod ⟨"StarChart","back","(I)I"⟩ ∈ GG := gg_in 770 (by decide +kernel) (by decide +kernel)
theorem gw_771 : Cond.selects "StarChart" ⟨"StarChart","back","(I)I"⟩ ⟨"StarChart","back","(I)I"⟩ ∈ GG := gg_in 771 (by decide +kernel) (by decide +kernel)
set_option maxRecDepth 20000 in
theorem gw_772 : Cond.code ⟨"StarChart","back","(I)I"⟩ prog_1_method_33_code 3 (some .int) ∈ GG := gg_in 772 rfl rfl
theorem gw_773 : Cond.methodLink "StarChartLaw" 148 ⟨"StarChart","count","(I)I"⟩ ∈ GG := gg_in 773 (by decide +kernel) (by decide +kernel)
theorem gw_774 : Cond.instanceMethod ⟨"StarChart","count","(I)I"⟩ ∈ GG := gg_in 774 (by decide +kernel) (by decide +kernel)
theorem gw_775 : Cond.selects "StarChart" ⟨"StarChart","count","(I)I"⟩ ⟨"StarChart","count","(I)I"⟩ ∈ GG := gg_in 775 (by decide +kernel) (by decide +kernel)
set_option maxRecDepth 20000 in
theorem gw_776 : Cond.code ⟨"StarChart","count","(I)I"⟩ prog_1_method_34_code 2 (some .int) ∈ GG := gg_in 776 rfl rfl
theorem gw_777 : Cond.methodLink "StarChartLaw" 152 ⟨"StarChart","trace","()J"⟩ ∈ GG := gg_in 777 (by decide +kernel) (by decide +kernel)
theorem gw_778 : Cond.instanceMethod ⟨"StarChart","trace","()J"⟩ ∈ GG := gg_in 778 (by decide +kernel) (by decide +kernel)
theorem gw_779 : Cond.selects "StarChart" ⟨"StarChart","trace","()J"⟩ ⟨"StarChart","trace","()J"⟩ ∈ GG := gg_in 779 (by decide +kernel) (by decide +kernel)
set_option maxRecDepth 20000 in
theorem gw_780 : Cond.code ⟨"StarChart","trace","()J"⟩ prog_1_method_35_code 1 (some .long) ∈ GG := gg_in 780 rfl rfl
theorem gw_781 : Cond.classLink "StarChartLaw" 10 "StarChartModel" ∈ GG := gg_in 781 (by decide +kernel) (by decide +kernel)
theorem gw_782 : Cond.instantiable "StarChartModel" 20 ∈ GG := gg_in 782 (by decide +kernel) (by decide +kernel)
theorem gw_783 : Cond.methodLink "StarChartLaw" 12 ⟨"StarChartModel","<init>","()V"⟩ ∈ GG := gg_in 783 (by decide +kernel) (by decide +kernel)
theorem gw_784 : Cond.instanceMethod ⟨"StarChartModel","<init>","()V"⟩ ∈ GG := gg_in 784 (by decide +kernel) (by decide +kernel)
set_option maxRecDepth 20000 in
theorem gw_785 : Cond.code ⟨"StarChartModel","<init>","()V"⟩ prog_9_method_1_code 1 none ∈ GG := gg_in 785 rfl rfl
theorem gw_786 : Cond.methodLink "StarChartModel" 1 ⟨"java/lang/Object","<init>","()V"⟩ ∈ GG := gg_in 786 (by decide +kernel) (by decide +kernel)
theorem gw_787 : Cond.methodLink "StarChartModel" 41 ⟨"StarChartModel","drafts","()V"⟩ ∈ GG := gg_in 787 (by decide +kernel) (by decide +kernel)
theorem gw_789 : Cond.instanceMethod ⟨"StarChartModel","drafts","()V"⟩ ∈ GG := gg_in 789 (by decide +kernel) (by decide +kernel)
set_option maxRecDepth 20000 in
theorem gw_790 : Cond.code ⟨"StarChartModel","drafts","()V"⟩ prog_9_method_15_code 2 none ∈ GG := gg_in 790 rfl rfl
theorem gw_791 : Cond.methodLink "StarChartModel" 44 ⟨"StarChartModel","adopts","()V"⟩ ∈ GG := gg_in 791 (by decide +kernel) (by decide +kernel)
theorem gw_793 : Cond.instanceMethod ⟨"StarChartModel","adopts","()V"⟩ ∈ GG := gg_in 793 (by decide +kernel) (by decide +kernel)
set_option maxRecDepth 20000 in
theorem gw_794 : Cond.code ⟨"StarChartModel","adopts","()V"⟩ prog_9_method_18_code 2 none ∈ GG := gg_in 794 rfl rfl
theorem gw_795 : Cond.methodLink "StarChartModel" 116 ⟨"StarChartModel","begins","([I)V"⟩ ∈ GG := gg_in 795 (by decide +kernel) (by decide +kernel)
theorem gw_797 : Cond.instanceMethod ⟨"StarChartModel","begins","([I)V"⟩ ∈ GG := gg_in 797 (by decide +kernel) (by decide +kernel)
set_option maxRecDepth 20000 in
theorem gw_798 : Cond.code ⟨"StarChartModel","begins","([I)V"⟩ prog_9_method_19_code 3 none ∈ GG := gg_in 798 rfl rfl
theorem gw_799 : Cond.fieldLink "StarChartModel" 47 "StarChartModel" "thrown" "I" ∈ GG := gg_in 799 (by decide +kernel) (by decide +kernel)
theorem gw_800 : Cond.fieldLink "StarChartModel" 201 "StarChartModel" "trace" "J" ∈ GG := gg_in 800 (by decide +kernel) (by decide +kernel)
theorem gw_801 : Cond.fieldLink "StarChartModel" 7 "StarChartModel" "text" "[I" ∈ GG := gg_in 801 (by decide +kernel) (by decide +kernel)
theorem gw_802 : Cond.fieldLink "StarChartModel" 55 "StarChartModel" "typed" "I" ∈ GG := gg_in 802 (by decide +kernel) (by decide +kernel)
theorem gw_803 : Cond.fieldLink "StarChartModel" 70 "StarChartModel" "next" "I" ∈ GG := gg_in 803 (by decide +kernel) (by decide +kernel)
theorem gw_804 : Cond.fieldLink "StarChartModel" 80 "StarChartModel" "token" "I" ∈ GG := gg_in 804 (by decide +kernel) (by decide +kernel)
theorem gw_805 : Cond.fieldLink "StarChartModel" 77 "StarChartModel" "place" "I" ∈ GG := gg_in 805 (by decide +kernel) (by decide +kernel)
theorem gw_806 : Cond.fieldLink "StarChartModel" 87 "StarChartModel" "value" "I" ∈ GG := gg_in 806 (by decide +kernel) (by decide +kernel)
theorem gw_807 : Cond.fieldLink "StarChartModel" 90 "StarChartModel" "fault" "I" ∈ GG := gg_in 807 (by decide +kernel) (by decide +kernel)
theorem gw_808 : Cond.fieldLink "StarChartModel" 13 "StarChartModel" "told" "[I" ∈ GG := gg_in 808 (by decide +kernel) (by decide +kernel)
theorem gw_809 : Cond.fieldLink "StarChartModel" 16 "StarChartModel" "tunes" "[I" ∈ GG := gg_in 809 (by decide +kernel) (by decide +kernel)
theorem gw_810 : Cond.fieldLink "StarChartModel" 19 "StarChartModel" "s" "[I" ∈ GG := gg_in 810 (by decide +kernel) (by decide +kernel)
theorem gw_811 : Cond.fieldLink "StarChartModel" 22 "StarChartModel" "kept" "[I" ∈ GG := gg_in 811 (by decide +kernel) (by decide +kernel)
theorem gw_812 : Cond.fieldLink "StarChartModel" 25 "StarChartModel" "isKept" "[Z" ∈ GG := gg_in 812 (by decide +kernel) (by decide +kernel)
theorem gw_813 : Cond.fieldLink "StarChartModel" 29 "StarChartModel" "f" "[I" ∈ GG := gg_in 813 (by decide +kernel) (by decide +kernel)
theorem gw_814 : Cond.fieldLink "StarChartModel" 32 "StarChartModel" "was" "[I" ∈ GG := gg_in 814 (by decide +kernel) (by decide +kernel)
theorem gw_815 : Cond.fieldLink "StarChartModel" 126 "StarChartModel" "isBare" "Z" ∈ GG := gg_in 815 (by decide +kernel) (by decide +kernel)
theorem gw_816 : Cond.fieldLink "StarChartModel" 35 "StarChartModel" "trialSort" "[I" ∈ GG := gg_in 816 (by decide +kernel) (by decide +kernel)
theorem gw_817 : Cond.fieldLink "StarChartModel" 38 "StarChartModel" "trialCame" "[I" ∈ GG := gg_in 817 (by decide +kernel) (by decide +kernel)
theorem gw_818 : Cond.fieldLink "StarChartModel" 184 "StarChartModel" "trials" "I" ∈ GG := gg_in 818 (by decide +kernel) (by decide +kernel)
theorem gw_819 : Cond.lays "StarChartModel" "StarChartModel" "thrown" "I" ∈ GG := gg_in 819 (by decide +kernel) (by decide +kernel)
theorem gw_821 : Cond.lays "StarChartModel" "StarChartModel" "trace" "J" ∈ GG := gg_in 821 (by decide +kernel) (by decide +kernel)
theorem gw_823 : Cond.laysFinal "StarChartModel" "StarChartModel" "text" "[I" ∈ GG := gg_in 823 (by decide +kernel) (by decide +kernel)
theorem gw_825 : Cond.lays "StarChartModel" "StarChartModel" "typed" "I" ∈ GG := gg_in 825 (by decide +kernel) (by decide +kernel)
theorem gw_827 : Cond.lays "StarChartModel" "StarChartModel" "next" "I" ∈ GG := gg_in 827 (by decide +kernel) (by decide +kernel)
theorem gw_829 : Cond.lays "StarChartModel" "StarChartModel" "token" "I" ∈ GG := gg_in 829 (by decide +kernel) (by decide +kernel)
theorem gw_831 : Cond.lays "StarChartModel" "StarChartModel" "place" "I" ∈ GG := gg_in 831 (by decide +kernel) (by decide +kernel)
theorem gw_833 : Cond.lays "StarChartModel" "StarChartModel" "value" "I" ∈ GG := gg_in 833 (by decide +kernel) (by decide +kernel)
theorem gw_835 : Cond.lays "StarChartModel" "StarChartModel" "fault" "I" ∈ GG := gg_in 835 (by decide +kernel) (by decide +kernel)
theorem gw_837 : Cond.laysFinal "StarChartModel" "StarChartModel" "told" "[I" ∈ GG := gg_in 837 (by decide +kernel) (by decide +kernel)
theorem gw_839 : Cond.laysFinal "StarChartModel" "StarChartModel" "tunes" "[I" ∈ GG := gg_in 839 (by decide +kernel) (by decide +kernel)
theorem gw_841 : Cond.laysFinal "StarChartModel" "StarChartModel" "s" "[I" ∈ GG := gg_in 841 (by decide +kernel) (by decide +kernel)
theorem gw_843 : Cond.laysFinal "StarChartModel" "StarChartModel" "kept" "[I" ∈ GG := gg_in 843 (by decide +kernel) (by decide +kernel)
theorem gw_845 : Cond.laysFinal "StarChartModel" "StarChartModel" "isKept" "[Z" ∈ GG := gg_in 845 (by decide +kernel) (by decide +kernel)
theorem gw_847 : Cond.laysFinal "StarChartModel" "StarChartModel" "f" "[I" ∈ GG := gg_in 847 (by decide +kernel) (by decide +kernel)
theorem gw_849 : Cond.laysFinal "StarChartModel" "StarChartModel" "was" "[I" ∈ GG := gg_in 849 (by decide +kernel) (by decide +kernel)
theorem gw_851 : Cond.lays "StarChartModel" "StarChartModel" "isBare" "Z" ∈ GG := gg_in 851 (by decide +kernel) (by decide +kernel)
theorem gw_853 : Cond.laysFinal "StarChartModel" "StarChartModel" "trialSort" "[I" ∈ GG := gg_in 853 (by decide +kernel) (by decide +kernel)
theorem gw_855 : Cond.laysFinal "StarChartModel" "StarChartModel" "trialCame" "[I" ∈ GG := gg_in 855 (by decide +kernel) (by decide +kernel)
theorem gw_857 : Cond.lays "StarChartModel" "StarChartModel" "trials" "I" ∈ GG := gg_in 857 (by decide +kernel) (by decide +kernel)
theorem gw_860 : Cond.arrayClass .boolean ∈ GG := gg_in 860 (by decide +kernel) (by decide +kernel)
theorem gw_861 : Cond.methodLink "StarChartLaw" 19 ⟨"StarChartModel","type","(JI)I"⟩ ∈ GG := gg_in 861 (by decide +kernel) (by decide +kernel)
theorem gw_862 : Cond.instanceMethod ⟨"StarChartModel","type","(JI)I"⟩ ∈ GG := gg_in 862 (by decide +kernel) (by decide +kernel)
theorem gw_863 : Cond.selects "StarChartModel" ⟨"StarChartModel","type","(JI)I"⟩ ⟨"StarChartModel","type","(JI)I"⟩ ∈ GG := gg_in 863 (by decide +kernel) (by decide +kernel)
set_option maxRecDepth 20000 in
theorem gw_864 : Cond.code ⟨"StarChartModel","type","(JI)I"⟩ prog_9_method_4_code 5 (some .int) ∈ GG := gg_in 864 rfl rfl
theorem gw_865 : Cond.methodLink "StarChartModel" 51 ⟨"StarChartModel","in","(III)Z"⟩ ∈ GG := gg_in 865 (by decide +kernel) (by decide +kernel)
theorem gw_866 : Cond.static ⟨"StarChartModel","in","(III)Z"⟩ ∈ GG := gg_in 866 (by decide +kernel) (by decide +kernel)
set_option maxRecDepth 20000 in
theorem gw_867 : Cond.code ⟨"StarChartModel","in","(III)Z"⟩ prog_9_method_3_code 3 (some .boolean) ∈ GG := gg_in 867 rfl rfl
theorem gw_868 : Cond.constantLong "StarChartModel" 58 255 ∈ GG := gg_in 868 (by decide +kernel) (by decide +kernel)
theorem gw_869 : Cond.methodLink "StarChartLaw" 24 ⟨"StarChartModel","clear","()I"⟩ ∈ GG := gg_in 869 (by decide +kernel) (by decide +kernel)
theorem gw_870 : Cond.instanceMethod ⟨"StarChartModel","clear","()I"⟩ ∈ GG := gg_in 870 (by decide +kernel) (by decide +kernel)
theorem gw_871 : Cond.selects "StarChartModel" ⟨"StarChartModel","clear","()I"⟩ ⟨"StarChartModel","clear","()I"⟩ ∈ GG := gg_in 871 (by decide +kernel) (by decide +kernel)
set_option maxRecDepth 20000 in
theorem gw_872 : Cond.code ⟨"StarChartModel","clear","()I"⟩ prog_9_method_5_code 2 (some .int) ∈ GG := gg_in 872 rfl rfl
theorem gw_873 : Cond.methodLink "StarChartLaw" 28 ⟨"StarChartModel","chart","()I"⟩ ∈ GG := gg_in 873 (by decide +kernel) (by decide +kernel)
theorem gw_874 : Cond.instanceMethod ⟨"StarChartModel","chart","()I"⟩ ∈ GG := gg_in 874 (by decide +kernel) (by decide +kernel)
theorem gw_875 : Cond.selects "StarChartModel" ⟨"StarChartModel","chart","()I"⟩ ⟨"StarChartModel","chart","()I"⟩ ∈ GG := gg_in 875 (by decide +kernel) (by decide +kernel)
set_option maxRecDepth 20000 in
theorem gw_876 : Cond.code ⟨"StarChartModel","chart","()I"⟩ prog_9_method_17_code 5 (some .int) ∈ GG := gg_in 876 rfl rfl
theorem gw_877 : Cond.methodLink "StarChartModel" 97 ⟨"StarChartModel","advances","()V"⟩ ∈ GG := gg_in 877 (by decide +kernel) (by decide +kernel)
theorem gw_879 : Cond.instanceMethod ⟨"StarChartModel","advances","()V"⟩ ∈ GG := gg_in 879 (by decide +kernel) (by decide +kernel)
set_option maxRecDepth 20000 in
theorem gw_880 : Cond.code ⟨"StarChartModel","advances","()V"⟩ prog_9_method_10_code 4 none ∈ GG := gg_in 880 rfl rfl
theorem gw_881 : Cond.methodLink "StarChartModel" 73 ⟨"StarChartModel","byteAt","(I)I"⟩ ∈ GG := gg_in 881 (by decide +kernel) (by decide +kernel)
theorem gw_883 : Cond.instanceMethod ⟨"StarChartModel","byteAt","(I)I"⟩ ∈ GG := gg_in 883 (by decide +kernel) (by decide +kernel)
set_option maxRecDepth 20000 in
theorem gw_884 : Cond.code ⟨"StarChartModel","byteAt","(I)I"⟩ prog_9_method_6_code 2 (some .int) ∈ GG := gg_in 884 rfl rfl
theorem gw_885 : Cond.methodLink "StarChartModel" 62 ⟨"StarChartModel","add","(JI)J"⟩ ∈ GG := gg_in 885 (by decide +kernel) (by decide +kernel)
theorem gw_886 : Cond.static ⟨"StarChartModel","add","(JI)J"⟩ ∈ GG := gg_in 886 (by decide +kernel) (by decide +kernel)
set_option maxRecDepth 20000 in
theorem gw_887 : Cond.code ⟨"StarChartModel","add","(JI)J"⟩ prog_9_method_7_code 3 (some .long) ∈ GG := gg_in 887 rfl rfl
theorem gw_888 : Cond.constantLong "StarChartModel" 60 256 ∈ GG := gg_in 888 (by decide +kernel) (by decide +kernel)
theorem gw_889 : Cond.methodLink "StarChartModel" 83 ⟨"StarChartModel","wordOf","(J)I"⟩ ∈ GG := gg_in 889 (by decide +kernel) (by decide +kernel)
theorem gw_890 : Cond.static ⟨"StarChartModel","wordOf","(J)I"⟩ ∈ GG := gg_in 890 (by decide +kernel) (by decide +kernel)
set_option maxRecDepth 20000 in
theorem gw_891 : Cond.code ⟨"StarChartModel","wordOf","(J)I"⟩ prog_9_method_9_code 3 (some .int) ∈ GG := gg_in 891 rfl rfl
theorem gw_892 : Cond.methodLink "StarChartModel" 66 ⟨"StarChartModel","named","(IIIII)J"⟩ ∈ GG := gg_in 892 (by decide +kernel) (by decide +kernel)
theorem gw_893 : Cond.static ⟨"StarChartModel","named","(IIIII)J"⟩ ∈ GG := gg_in 893 (by decide +kernel) (by decide +kernel)
set_option maxRecDepth 20000 in
theorem gw_894 : Cond.code ⟨"StarChartModel","named","(IIIII)J"⟩ prog_9_method_8_code 5 (some .long) ∈ GG := gg_in 894 rfl rfl
theorem gw_895 : Cond.methodLink "StarChartModel" 93 ⟨"StarChartModel","isWell","()Z"⟩ ∈ GG := gg_in 895 (by decide +kernel) (by decide +kernel)
theorem gw_897 : Cond.instanceMethod ⟨"StarChartModel","isWell","()Z"⟩ ∈ GG := gg_in 897 (by decide +kernel) (by decide +kernel)
set_option maxRecDepth 20000 in
theorem gw_898 : Cond.code ⟨"StarChartModel","isWell","()Z"⟩ prog_9_method_11_code 1 (some .boolean) ∈ GG := gg_in 898 rfl rfl
theorem gw_899 : Cond.methodLink "StarChartModel" 100 ⟨"StarChartModel","takes","(Z)I"⟩ ∈ GG := gg_in 899 (by decide +kernel) (by decide +kernel)
theorem gw_901 : Cond.instanceMethod ⟨"StarChartModel","takes","(Z)I"⟩ ∈ GG := gg_in 901 (by decide +kernel) (by decide +kernel)
set_option maxRecDepth 20000 in
theorem gw_902 : Cond.code ⟨"StarChartModel","takes","(Z)I"⟩ prog_9_method_12_code 3 (some .int) ∈ GG := gg_in 902 rfl rfl
theorem gw_903 : Cond.methodLink "StarChartModel" 112 ⟨"StarChartModel","readsItem","(I)V"⟩ ∈ GG := gg_in 903 (by decide +kernel) (by decide +kernel)
theorem gw_905 : Cond.instanceMethod ⟨"StarChartModel","readsItem","(I)V"⟩ ∈ GG := gg_in 905 (by decide +kernel) (by decide +kernel)
set_option maxRecDepth 20000 in
theorem gw_906 : Cond.code ⟨"StarChartModel","readsItem","(I)V"⟩ prog_9_method_16_code 4 none ∈ GG := gg_in 906 rfl rfl
theorem gw_907 : Cond.methodLink "StarChartModel" 104 ⟨"StarChartModel","number","(II)I"⟩ ∈ GG := gg_in 907 (by decide +kernel) (by decide +kernel)
theorem gw_909 : Cond.instanceMethod ⟨"StarChartModel","number","(II)I"⟩ ∈ GG := gg_in 909 (by decide +kernel) (by decide +kernel)
set_option maxRecDepth 20000 in
theorem gw_910 : Cond.code ⟨"StarChartModel","number","(II)I"⟩ prog_9_method_13_code 3 (some .int) ∈ GG := gg_in 910 rfl rfl
theorem gw_911 : Cond.methodLink "StarChartModel" 108 ⟨"StarChartModel","takesWord","(I)Z"⟩ ∈ GG := gg_in 911 (by decide +kernel) (by decide +kernel)
theorem gw_913 : Cond.instanceMethod ⟨"StarChartModel","takesWord","(I)Z"⟩ ∈ GG := gg_in 913 (by decide +kernel) (by decide +kernel)
set_option maxRecDepth 20000 in
theorem gw_914 : Cond.code ⟨"StarChartModel","takesWord","(I)Z"⟩ prog_9_method_14_code 3 (some .boolean) ∈ GG := gg_in 914 rfl rfl
theorem gw_915 : Cond.methodLink "StarChartLaw" 33 ⟨"StarChartModel","child","(II)I"⟩ ∈ GG := gg_in 915 (by decide +kernel) (by decide +kernel)
theorem gw_916 : Cond.instanceMethod ⟨"StarChartModel","child","(II)I"⟩ ∈ GG := gg_in 916 (by decide +kernel) (by decide +kernel)
theorem gw_917 : Cond.selects "StarChartModel" ⟨"StarChartModel","child","(II)I"⟩ ⟨"StarChartModel","child","(II)I"⟩ ∈ GG := gg_in 917 (by decide +kernel) (by decide +kernel)
set_option maxRecDepth 20000 in
theorem gw_918 : Cond.code ⟨"StarChartModel","child","(II)I"⟩ prog_9_method_23_code 3 (some .int) ∈ GG := gg_in 918 rfl rfl
theorem gw_919 : Cond.methodLink "StarChartModel" 120 ⟨"StarChartModel","isChild","(I)Z"⟩ ∈ GG := gg_in 919 (by decide +kernel) (by decide +kernel)
theorem gw_921 : Cond.instanceMethod ⟨"StarChartModel","isChild","(I)Z"⟩ ∈ GG := gg_in 921 (by decide +kernel) (by decide +kernel)
set_option maxRecDepth 20000 in
theorem gw_922 : Cond.code ⟨"StarChartModel","isChild","(I)Z"⟩ prog_9_method_20_code 2 (some .boolean) ∈ GG := gg_in 922 rfl rfl
theorem gw_923 : Cond.methodLink "StarChartLaw" 37 ⟨"StarChartModel","book","(II)I"⟩ ∈ GG := gg_in 923 (by decide +kernel) (by decide +kernel)
theorem gw_924 : Cond.instanceMethod ⟨"StarChartModel","book","(II)I"⟩ ∈ GG := gg_in 924 (by decide +kernel) (by decide +kernel)
theorem gw_925 : Cond.selects "StarChartModel" ⟨"StarChartModel","book","(II)I"⟩ ⟨"StarChartModel","book","(II)I"⟩ ∈ GG := gg_in 925 (by decide +kernel) (by decide +kernel)
set_option maxRecDepth 20000 in
theorem gw_926 : Cond.code ⟨"StarChartModel","book","(II)I"⟩ prog_9_method_24_code 3 (some .int) ∈ GG := gg_in 926 rfl rfl
theorem gw_927 : Cond.methodLink "StarChartModel" 123 ⟨"StarChartModel","isSort","(I)Z"⟩ ∈ GG := gg_in 927 (by decide +kernel) (by decide +kernel)
theorem gw_929 : Cond.instanceMethod ⟨"StarChartModel","isSort","(I)Z"⟩ ∈ GG := gg_in 929 (by decide +kernel) (by decide +kernel)
set_option maxRecDepth 20000 in
theorem gw_930 : Cond.code ⟨"StarChartModel","isSort","(I)Z"⟩ prog_9_method_21_code 2 (some .boolean) ∈ GG := gg_in 930 rfl rfl
theorem gw_931 : Cond.methodLink "StarChartLaw" 42 ⟨"StarChartModel","plan","(I)I"⟩ ∈ GG := gg_in 931 (by decide +kernel) (by decide +kernel)
theorem gw_932 : Cond.instanceMethod ⟨"StarChartModel","plan","(I)I"⟩ ∈ GG := gg_in 932 (by decide +kernel) (by decide +kernel)
theorem gw_933 : Cond.selects "StarChartModel" ⟨"StarChartModel","plan","(I)I"⟩ ⟨"StarChartModel","plan","(I)I"⟩ ∈ GG := gg_in 933 (by decide +kernel) (by decide +kernel)
set_option maxRecDepth 20000 in
theorem gw_934 : Cond.code ⟨"StarChartModel","plan","(I)I"⟩ prog_9_method_25_code 2 (some .int) ∈ GG := gg_in 934 rfl rfl
theorem gw_935 : Cond.methodLink "StarChartLaw" 46 ⟨"StarChartModel","tune","(II)I"⟩ ∈ GG := gg_in 935 (by decide +kernel) (by decide +kernel)
theorem gw_936 : Cond.instanceMethod ⟨"StarChartModel","tune","(II)I"⟩ ∈ GG := gg_in 936 (by decide +kernel) (by decide +kernel)
theorem gw_937 : Cond.selects "StarChartModel" ⟨"StarChartModel","tune","(II)I"⟩ ⟨"StarChartModel","tune","(II)I"⟩ ∈ GG := gg_in 937 (by decide +kernel) (by decide +kernel)
set_option maxRecDepth 20000 in
theorem gw_938 : Cond.code ⟨"StarChartModel","tune","(II)I"⟩ prog_9_method_26_code 5 (some .int) ∈ GG := gg_in 938 rfl rfl
theorem gw_939 : Cond.methodLink "StarChartLaw" 50 ⟨"StarChartModel","given","(II)I"⟩ ∈ GG := gg_in 939 (by decide +kernel) (by decide +kernel)
theorem gw_940 : Cond.instanceMethod ⟨"StarChartModel","given","(II)I"⟩ ∈ GG := gg_in 940 (by decide +kernel) (by decide +kernel)
theorem gw_941 : Cond.selects "StarChartModel" ⟨"StarChartModel","given","(II)I"⟩ ⟨"StarChartModel","given","(II)I"⟩ ∈ GG := gg_in 941 (by decide +kernel) (by decide +kernel)
set_option maxRecDepth 20000 in
theorem gw_942 : Cond.code ⟨"StarChartModel","given","(II)I"⟩ prog_9_method_28_code 3 (some .int) ∈ GG := gg_in 942 rfl rfl
theorem gw_943 : Cond.methodLink "StarChartModel" 130 ⟨"StarChartModel","isDay","(I)Z"⟩ ∈ GG := gg_in 943 (by decide +kernel) (by decide +kernel)
theorem gw_944 : Cond.static ⟨"StarChartModel","isDay","(I)Z"⟩ ∈ GG := gg_in 944 (by decide +kernel) (by decide +kernel)
set_option maxRecDepth 20000 in
theorem gw_945 : Cond.code ⟨"StarChartModel","isDay","(I)Z"⟩ prog_9_method_22_code 1 (some .boolean) ∈ GG := gg_in 945 rfl rfl
theorem gw_946 : Cond.methodLink "StarChartModel" 133 ⟨"StarChartModel","givenOf","(II)I"⟩ ∈ GG := gg_in 946 (by decide +kernel) (by decide +kernel)
theorem gw_948 : Cond.instanceMethod ⟨"StarChartModel","givenOf","(II)I"⟩ ∈ GG := gg_in 948 (by decide +kernel) (by decide +kernel)
set_option maxRecDepth 20000 in
theorem gw_949 : Cond.code ⟨"StarChartModel","givenOf","(II)I"⟩ prog_9_method_27_code 5 (some .int) ∈ GG := gg_in 949 rfl rfl
theorem gw_950 : Cond.methodLink "StarChartLaw" 55 ⟨"StarChartModel","want","(III)I"⟩ ∈ GG := gg_in 950 (by decide +kernel) (by decide +kernel)
theorem gw_951 : Cond.instanceMethod ⟨"StarChartModel","want","(III)I"⟩ ∈ GG := gg_in 951 (by decide +kernel) (by decide +kernel)
theorem gw_952 : Cond.selects "StarChartModel" ⟨"StarChartModel","want","(III)I"⟩ ⟨"StarChartModel","want","(III)I"⟩ ∈ GG := gg_in 952 (by decide +kernel) (by decide +kernel)
set_option maxRecDepth 20000 in
theorem gw_953 : Cond.code ⟨"StarChartModel","want","(III)I"⟩ prog_9_method_34_code 4 (some .int) ∈ GG := gg_in 953 rfl rfl
theorem gw_954 : Cond.methodLink "StarChartModel" 136 ⟨"StarChartModel","pagesOf","(II)I"⟩ ∈ GG := gg_in 954 (by decide +kernel) (by decide +kernel)
theorem gw_956 : Cond.instanceMethod ⟨"StarChartModel","pagesOf","(II)I"⟩ ∈ GG := gg_in 956 (by decide +kernel) (by decide +kernel)
set_option maxRecDepth 20000 in
theorem gw_957 : Cond.code ⟨"StarChartModel","pagesOf","(II)I"⟩ prog_9_method_29_code 3 (some .int) ∈ GG := gg_in 957 rfl rfl
theorem gw_958 : Cond.methodLink "StarChartModel" 139 ⟨"StarChartModel","joysOf","([III)I"⟩ ∈ GG := gg_in 958 (by decide +kernel) (by decide +kernel)
theorem gw_960 : Cond.instanceMethod ⟨"StarChartModel","joysOf","([III)I"⟩ ∈ GG := gg_in 960 (by decide +kernel) (by decide +kernel)
set_option maxRecDepth 20000 in
theorem gw_961 : Cond.code ⟨"StarChartModel","joysOf","([III)I"⟩ prog_9_method_30_code 4 (some .int) ∈ GG := gg_in 961 rfl rfl
theorem gw_962 : Cond.methodLink "StarChartModel" 143 ⟨"StarChartModel","starsOf","([IIII)I"⟩ ∈ GG := gg_in 962 (by decide +kernel) (by decide +kernel)
theorem gw_964 : Cond.instanceMethod ⟨"StarChartModel","starsOf","([IIII)I"⟩ ∈ GG := gg_in 964 (by decide +kernel) (by decide +kernel)
set_option maxRecDepth 20000 in
theorem gw_965 : Cond.code ⟨"StarChartModel","starsOf","([IIII)I"⟩ prog_9_method_31_code 5 (some .int) ∈ GG := gg_in 965 rfl rfl
theorem gw_966 : Cond.methodLink "StarChartModel" 147 ⟨"StarChartModel","wantOf","([IIII)I"⟩ ∈ GG := gg_in 966 (by decide +kernel) (by decide +kernel)
theorem gw_968 : Cond.instanceMethod ⟨"StarChartModel","wantOf","([IIII)I"⟩ ∈ GG := gg_in 968 (by decide +kernel) (by decide +kernel)
set_option maxRecDepth 20000 in
theorem gw_969 : Cond.code ⟨"StarChartModel","wantOf","([IIII)I"⟩ prog_9_method_32_code 5 (some .int) ∈ GG := gg_in 969 rfl rfl
theorem gw_970 : Cond.methodLink "StarChartLaw" 59 ⟨"StarChartModel","choice","(I)I"⟩ ∈ GG := gg_in 970 (by decide +kernel) (by decide +kernel)
theorem gw_971 : Cond.instanceMethod ⟨"StarChartModel","choice","(I)I"⟩ ∈ GG := gg_in 971 (by decide +kernel) (by decide +kernel)
theorem gw_972 : Cond.selects "StarChartModel" ⟨"StarChartModel","choice","(I)I"⟩ ⟨"StarChartModel","choice","(I)I"⟩ ∈ GG := gg_in 972 (by decide +kernel) (by decide +kernel)
set_option maxRecDepth 20000 in
theorem gw_973 : Cond.code ⟨"StarChartModel","choice","(I)I"⟩ prog_9_method_35_code 2 (some .int) ∈ GG := gg_in 973 rfl rfl
theorem gw_974 : Cond.methodLink "StarChartModel" 150 ⟨"StarChartModel","choiceOf","([III)I"⟩ ∈ GG := gg_in 974 (by decide +kernel) (by decide +kernel)
theorem gw_976 : Cond.instanceMethod ⟨"StarChartModel","choiceOf","([III)I"⟩ ∈ GG := gg_in 976 (by decide +kernel) (by decide +kernel)
set_option maxRecDepth 20000 in
theorem gw_977 : Cond.code ⟨"StarChartModel","choiceOf","([III)I"⟩ prog_9_method_33_code 8 (some .int) ∈ GG := gg_in 977 rfl rfl
theorem gw_978 : Cond.methodLink "StarChartLaw" 63 ⟨"StarChartModel","go","(I)I"⟩ ∈ GG := gg_in 978 (by decide +kernel) (by decide +kernel)
theorem gw_979 : Cond.instanceMethod ⟨"StarChartModel","go","(I)I"⟩ ∈ GG := gg_in 979 (by decide +kernel) (by decide +kernel)
theorem gw_980 : Cond.selects "StarChartModel" ⟨"StarChartModel","go","(I)I"⟩ ⟨"StarChartModel","go","(I)I"⟩ ∈ GG := gg_in 980 (by decide +kernel) (by decide +kernel)
set_option maxRecDepth 20000 in
theorem gw_981 : Cond.code ⟨"StarChartModel","go","(I)I"⟩ prog_9_method_38_code 3 (some .int) ∈ GG := gg_in 981 rfl rfl
theorem gw_982 : Cond.methodLink "StarChartModel" 156 ⟨"StarChartModel","goesBy","([I)I"⟩ ∈ GG := gg_in 982 (by decide +kernel) (by decide +kernel)
theorem gw_984 : Cond.instanceMethod ⟨"StarChartModel","goesBy","([I)I"⟩ ∈ GG := gg_in 984 (by decide +kernel) (by decide +kernel)
set_option maxRecDepth 20000 in
theorem gw_985 : Cond.code ⟨"StarChartModel","goesBy","([I)I"⟩ prog_9_method_37_code 12 (some .int) ∈ GG := gg_in 985 rfl rfl
theorem gw_986 : Cond.methodLink "StarChartModel" 153 ⟨"StarChartModel","within","(I)I"⟩ ∈ GG := gg_in 986 (by decide +kernel) (by decide +kernel)
theorem gw_987 : Cond.static ⟨"StarChartModel","within","(I)I"⟩ ∈ GG := gg_in 987 (by decide +kernel) (by decide +kernel)
set_option maxRecDepth 20000 in
theorem gw_988 : Cond.code ⟨"StarChartModel","within","(I)I"⟩ prog_9_method_36_code 1 (some .int) ∈ GG := gg_in 988 rfl rfl
theorem gw_989 : Cond.methodLink "StarChartLaw" 67 ⟨"StarChartModel","now","(I)I"⟩ ∈ GG := gg_in 989 (by decide +kernel) (by decide +kernel)
theorem gw_990 : Cond.instanceMethod ⟨"StarChartModel","now","(I)I"⟩ ∈ GG := gg_in 990 (by decide +kernel) (by decide +kernel)
theorem gw_991 : Cond.selects "StarChartModel" ⟨"StarChartModel","now","(I)I"⟩ ⟨"StarChartModel","now","(I)I"⟩ ∈ GG := gg_in 991 (by decide +kernel) (by decide +kernel)
set_option maxRecDepth 20000 in
theorem gw_992 : Cond.code ⟨"StarChartModel","now","(I)I"⟩ prog_9_method_40_code 2 (some .int) ∈ GG := gg_in 992 rfl rfl
theorem gw_993 : Cond.methodLink "StarChartModel" 160 ⟨"StarChartModel","allOf","([II)I"⟩ ∈ GG := gg_in 993 (by decide +kernel) (by decide +kernel)
theorem gw_995 : Cond.instanceMethod ⟨"StarChartModel","allOf","([II)I"⟩ ∈ GG := gg_in 995 (by decide +kernel) (by decide +kernel)
set_option maxRecDepth 20000 in
theorem gw_996 : Cond.code ⟨"StarChartModel","allOf","([II)I"⟩ prog_9_method_39_code 5 (some .int) ∈ GG := gg_in 996 rfl rfl
theorem gw_997 : Cond.methodLink "StarChartLaw" 71 ⟨"StarChartModel","anew","()I"⟩ ∈ GG := gg_in 997 (by decide +kernel) (by decide +kernel)
theorem gw_998 : Cond.instanceMethod ⟨"StarChartModel","anew","()I"⟩ ∈ GG := gg_in 998 (by decide +kernel) (by decide +kernel)
theorem gw_999 : Cond.selects "StarChartModel" ⟨"StarChartModel","anew","()I"⟩ ⟨"StarChartModel","anew","()I"⟩ ∈ GG := gg_in 999 (by decide +kernel) (by decide +kernel)
set_option maxRecDepth 20000 in
theorem gw_1000 : Cond.code ⟨"StarChartModel","anew","()I"⟩ prog_9_method_41_code 2 (some .int) ∈ GG := gg_in 1000 rfl rfl
theorem gw_1001 : Cond.methodLink "StarChartLaw" 75 ⟨"StarChartModel","term","(I)I"⟩ ∈ GG := gg_in 1001 (by decide +kernel) (by decide +kernel)
theorem gw_1002 : Cond.instanceMethod ⟨"StarChartModel","term","(I)I"⟩ ∈ GG := gg_in 1002 (by decide +kernel) (by decide +kernel)
theorem gw_1003 : Cond.selects "StarChartModel" ⟨"StarChartModel","term","(I)I"⟩ ⟨"StarChartModel","term","(I)I"⟩ ∈ GG := gg_in 1003 (by decide +kernel) (by decide +kernel)
set_option maxRecDepth 20000 in
theorem gw_1004 : Cond.code ⟨"StarChartModel","term","(I)I"⟩ prog_9_method_43_code 4 (some .int) ∈ GG := gg_in 1004 rfl rfl
theorem gw_1005 : Cond.methodLink "StarChartModel" 164 ⟨"StarChartModel","pagesBy","(II)I"⟩ ∈ GG := gg_in 1005 (by decide +kernel) (by decide +kernel)
theorem gw_1007 : Cond.instanceMethod ⟨"StarChartModel","pagesBy","(II)I"⟩ ∈ GG := gg_in 1007 (by decide +kernel) (by decide +kernel)
set_option maxRecDepth 20000 in
theorem gw_1008 : Cond.code ⟨"StarChartModel","pagesBy","(II)I"⟩ prog_9_method_42_code 6 (some .int) ∈ GG := gg_in 1008 rfl rfl
theorem gw_1009 : Cond.methodLink "StarChartLaw" 79 ⟨"StarChartModel","end","(I)I"⟩ ∈ GG := gg_in 1009 (by decide +kernel) (by decide +kernel)
theorem gw_1010 : Cond.instanceMethod ⟨"StarChartModel","end","(I)I"⟩ ∈ GG := gg_in 1010 (by decide +kernel) (by decide +kernel)
theorem gw_1011 : Cond.selects "StarChartModel" ⟨"StarChartModel","end","(I)I"⟩ ⟨"StarChartModel","end","(I)I"⟩ ∈ GG := gg_in 1011 (by decide +kernel) (by decide +kernel)
set_option maxRecDepth 20000 in
theorem gw_1012 : Cond.code ⟨"StarChartModel","end","(I)I"⟩ prog_9_method_45_code 2 (some .int) ∈ GG := gg_in 1012 rfl rfl
theorem gw_1013 : Cond.methodLink "StarChartModel" 167 ⟨"StarChartModel","endOn","(I)I"⟩ ∈ GG := gg_in 1013 (by decide +kernel) (by decide +kernel)
theorem gw_1015 : Cond.instanceMethod ⟨"StarChartModel","endOn","(I)I"⟩ ∈ GG := gg_in 1015 (by decide +kernel) (by decide +kernel)
set_option maxRecDepth 20000 in
theorem gw_1016 : Cond.code ⟨"StarChartModel","endOn","(I)I"⟩ prog_9_method_44_code 2 (some .int) ∈ GG := gg_in 1016 rfl rfl
theorem gw_1017 : Cond.methodLink "StarChartLaw" 83 ⟨"StarChartModel","best","(III)I"⟩ ∈ GG := gg_in 1017 (by decide +kernel) (by decide +kernel)
theorem gw_1018 : Cond.instanceMethod ⟨"StarChartModel","best","(III)I"⟩ ∈ GG := gg_in 1018 (by decide +kernel) (by decide +kernel)
theorem gw_1019 : Cond.selects "StarChartModel" ⟨"StarChartModel","best","(III)I"⟩ ⟨"StarChartModel","best","(III)I"⟩ ∈ GG := gg_in 1019 (by decide +kernel) (by decide +kernel)
set_option maxRecDepth 20000 in
theorem gw_1020 : Cond.code ⟨"StarChartModel","best","(III)I"⟩ prog_9_method_47_code 10 (some .int) ∈ GG := gg_in 1020 rfl rfl
theorem gw_1021 : Cond.methodLink "StarChartModel" 170 ⟨"StarChartModel","aside","(Z)V"⟩ ∈ GG := gg_in 1021 (by decide +kernel) (by decide +kernel)
theorem gw_1023 : Cond.instanceMethod ⟨"StarChartModel","aside","(Z)V"⟩ ∈ GG := gg_in 1023 (by decide +kernel) (by decide +kernel)
set_option maxRecDepth 20000 in
theorem gw_1024 : Cond.code ⟨"StarChartModel","aside","(Z)V"⟩ prog_9_method_46_code 3 none ∈ GG := gg_in 1024 rfl rfl
theorem gw_1025 : Cond.methodLink "StarChartLaw" 87 ⟨"StarChartModel","line","(III)I"⟩ ∈ GG := gg_in 1025 (by decide +kernel) (by decide +kernel)
theorem gw_1026 : Cond.instanceMethod ⟨"StarChartModel","line","(III)I"⟩ ∈ GG := gg_in 1026 (by decide +kernel) (by decide +kernel)
theorem gw_1027 : Cond.selects "StarChartModel" ⟨"StarChartModel","line","(III)I"⟩ ⟨"StarChartModel","line","(III)I"⟩ ∈ GG := gg_in 1027 (by decide +kernel) (by decide +kernel)
set_option maxRecDepth 20000 in
theorem gw_1028 : Cond.code ⟨"StarChartModel","line","(III)I"⟩ prog_9_method_48_code 7 (some .int) ∈ GG := gg_in 1028 rfl rfl
theorem gw_1029 : Cond.methodLink "StarChartLaw" 91 ⟨"StarChartModel","ending","(I)I"⟩ ∈ GG := gg_in 1029 (by decide +kernel) (by decide +kernel)
theorem gw_1030 : Cond.instanceMethod ⟨"StarChartModel","ending","(I)I"⟩ ∈ GG := gg_in 1030 (by decide +kernel) (by decide +kernel)
theorem gw_1031 : Cond.selects "StarChartModel" ⟨"StarChartModel","ending","(I)I"⟩ ⟨"StarChartModel","ending","(I)I"⟩ ∈ GG := gg_in 1031 (by decide +kernel) (by decide +kernel)
set_option maxRecDepth 20000 in
theorem gw_1032 : Cond.code ⟨"StarChartModel","ending","(I)I"⟩ prog_9_method_49_code 6 (some .int) ∈ GG := gg_in 1032 rfl rfl
theorem gw_1033 : Cond.methodLink "StarChartLaw" 95 ⟨"StarChartModel","easy","()I"⟩ ∈ GG := gg_in 1033 (by decide +kernel) (by decide +kernel)
theorem gw_1034 : Cond.instanceMethod ⟨"StarChartModel","easy","()I"⟩ ∈ GG := gg_in 1034 (by decide +kernel) (by decide +kernel)
theorem gw_1035 : Cond.selects "StarChartModel" ⟨"StarChartModel","easy","()I"⟩ ⟨"StarChartModel","easy","()I"⟩ ∈ GG := gg_in 1035 (by decide +kernel) (by decide +kernel)
set_option maxRecDepth 20000 in
theorem gw_1036 : Cond.code ⟨"StarChartModel","easy","()I"⟩ prog_9_method_50_code 4 (some .int) ∈ GG := gg_in 1036 rfl rfl
theorem gw_1037 : Cond.methodLink "StarChartLaw" 99 ⟨"StarChartModel","stays","(II)I"⟩ ∈ GG := gg_in 1037 (by decide +kernel) (by decide +kernel)
theorem gw_1038 : Cond.instanceMethod ⟨"StarChartModel","stays","(II)I"⟩ ∈ GG := gg_in 1038 (by decide +kernel) (by decide +kernel)
theorem gw_1039 : Cond.selects "StarChartModel" ⟨"StarChartModel","stays","(II)I"⟩ ⟨"StarChartModel","stays","(II)I"⟩ ∈ GG := gg_in 1039 (by decide +kernel) (by decide +kernel)
set_option maxRecDepth 20000 in
theorem gw_1040 : Cond.code ⟨"StarChartModel","stays","(II)I"⟩ prog_9_method_51_code 7 (some .int) ∈ GG := gg_in 1040 rfl rfl
theorem gw_1041 : Cond.methodLink "StarChartLaw" 103 ⟨"StarChartModel","rests","(III)I"⟩ ∈ GG := gg_in 1041 (by decide +kernel) (by decide +kernel)
theorem gw_1042 : Cond.instanceMethod ⟨"StarChartModel","rests","(III)I"⟩ ∈ GG := gg_in 1042 (by decide +kernel) (by decide +kernel)
theorem gw_1043 : Cond.selects "StarChartModel" ⟨"StarChartModel","rests","(III)I"⟩ ⟨"StarChartModel","rests","(III)I"⟩ ∈ GG := gg_in 1043 (by decide +kernel) (by decide +kernel)
set_option maxRecDepth 20000 in
theorem gw_1044 : Cond.code ⟨"StarChartModel","rests","(III)I"⟩ prog_9_method_55_code 9 (some .int) ∈ GG := gg_in 1044 rfl rfl
theorem gw_1045 : Cond.methodLink "StarChartModel" 180 ⟨"StarChartModel","jarHas","(IIII)I"⟩ ∈ GG := gg_in 1045 (by decide +kernel) (by decide +kernel)
theorem gw_1047 : Cond.instanceMethod ⟨"StarChartModel","jarHas","(IIII)I"⟩ ∈ GG := gg_in 1047 (by decide +kernel) (by decide +kernel)
set_option maxRecDepth 20000 in
theorem gw_1048 : Cond.code ⟨"StarChartModel","jarHas","(IIII)I"⟩ prog_9_method_54_code 6 (some .int) ∈ GG := gg_in 1048 rfl rfl
theorem gw_1049 : Cond.methodLink "StarChartModel" 174 ⟨"StarChartModel","jarSort","(I)I"⟩ ∈ GG := gg_in 1049 (by decide +kernel) (by decide +kernel)
theorem gw_1051 : Cond.instanceMethod ⟨"StarChartModel","jarSort","(I)I"⟩ ∈ GG := gg_in 1051 (by decide +kernel) (by decide +kernel)
set_option maxRecDepth 20000 in
theorem gw_1052 : Cond.code ⟨"StarChartModel","jarSort","(I)I"⟩ prog_9_method_52_code 3 (some .int) ∈ GG := gg_in 1052 rfl rfl
theorem gw_1053 : Cond.methodLink "StarChartModel" 177 ⟨"StarChartModel","jarPages","(I)I"⟩ ∈ GG := gg_in 1053 (by decide +kernel) (by decide +kernel)
theorem gw_1055 : Cond.instanceMethod ⟨"StarChartModel","jarPages","(I)I"⟩ ∈ GG := gg_in 1055 (by decide +kernel) (by decide +kernel)
set_option maxRecDepth 20000 in
theorem gw_1056 : Cond.code ⟨"StarChartModel","jarPages","(I)I"⟩ prog_9_method_53_code 4 (some .int) ∈ GG := gg_in 1056 rfl rfl
theorem gw_1057 : Cond.methodLink "StarChartLaw" 107 ⟨"StarChartModel","blamed","(II)I"⟩ ∈ GG := gg_in 1057 (by decide +kernel) (by decide +kernel)
theorem gw_1058 : Cond.instanceMethod ⟨"StarChartModel","blamed","(II)I"⟩ ∈ GG := gg_in 1058 (by decide +kernel) (by decide +kernel)
theorem gw_1059 : Cond.selects "StarChartModel" ⟨"StarChartModel","blamed","(II)I"⟩ ⟨"StarChartModel","blamed","(II)I"⟩ ∈ GG := gg_in 1059 (by decide +kernel) (by decide +kernel)
set_option maxRecDepth 20000 in
theorem gw_1060 : Cond.code ⟨"StarChartModel","blamed","(II)I"⟩ prog_9_method_56_code 5 (some .int) ∈ GG := gg_in 1060 rfl rfl
theorem gw_1061 : Cond.methodLink "StarChartLaw" 111 ⟨"StarChartModel","checks","(I)I"⟩ ∈ GG := gg_in 1061 (by decide +kernel) (by decide +kernel)
theorem gw_1062 : Cond.instanceMethod ⟨"StarChartModel","checks","(I)I"⟩ ∈ GG := gg_in 1062 (by decide +kernel) (by decide +kernel)
theorem gw_1063 : Cond.selects "StarChartModel" ⟨"StarChartModel","checks","(I)I"⟩ ⟨"StarChartModel","checks","(I)I"⟩ ∈ GG := gg_in 1063 (by decide +kernel) (by decide +kernel)
set_option maxRecDepth 20000 in
theorem gw_1064 : Cond.code ⟨"StarChartModel","checks","(I)I"⟩ prog_9_method_57_code 7 (some .int) ∈ GG := gg_in 1064 rfl rfl
theorem gw_1065 : Cond.methodLink "StarChartLaw" 115 ⟨"StarChartModel","trial","(II)I"⟩ ∈ GG := gg_in 1065 (by decide +kernel) (by decide +kernel)
theorem gw_1066 : Cond.instanceMethod ⟨"StarChartModel","trial","(II)I"⟩ ∈ GG := gg_in 1066 (by decide +kernel) (by decide +kernel)
theorem gw_1067 : Cond.selects "StarChartModel" ⟨"StarChartModel","trial","(II)I"⟩ ⟨"StarChartModel","trial","(II)I"⟩ ∈ GG := gg_in 1067 (by decide +kernel) (by decide +kernel)
set_option maxRecDepth 20000 in
theorem gw_1068 : Cond.code ⟨"StarChartModel","trial","(II)I"⟩ prog_9_method_58_code 3 (some .int) ∈ GG := gg_in 1068 rfl rfl
theorem gw_1069 : Cond.methodLink "StarChartLaw" 119 ⟨"StarChartModel","joined","(II)I"⟩ ∈ GG := gg_in 1069 (by decide +kernel) (by decide +kernel)
theorem gw_1070 : Cond.instanceMethod ⟨"StarChartModel","joined","(II)I"⟩ ∈ GG := gg_in 1070 (by decide +kernel) (by decide +kernel)
theorem gw_1071 : Cond.selects "StarChartModel" ⟨"StarChartModel","joined","(II)I"⟩ ⟨"StarChartModel","joined","(II)I"⟩ ∈ GG := gg_in 1071 (by decide +kernel) (by decide +kernel)
set_option maxRecDepth 20000 in
theorem gw_1072 : Cond.code ⟨"StarChartModel","joined","(II)I"⟩ prog_9_method_63_code 3 (some .int) ∈ GG := gg_in 1072 rfl rfl
theorem gw_1073 : Cond.methodLink "StarChartModel" 197 ⟨"StarChartModel","meanOf","(II)I"⟩ ∈ GG := gg_in 1073 (by decide +kernel) (by decide +kernel)
theorem gw_1075 : Cond.instanceMethod ⟨"StarChartModel","meanOf","(II)I"⟩ ∈ GG := gg_in 1075 (by decide +kernel) (by decide +kernel)
set_option maxRecDepth 20000 in
theorem gw_1076 : Cond.code ⟨"StarChartModel","meanOf","(II)I"⟩ prog_9_method_62_code 6 (some .int) ∈ GG := gg_in 1076 rfl rfl
theorem gw_1077 : Cond.methodLink "StarChartModel" 187 ⟨"StarChartModel","sumOf","(I)I"⟩ ∈ GG := gg_in 1077 (by decide +kernel) (by decide +kernel)
theorem gw_1079 : Cond.instanceMethod ⟨"StarChartModel","sumOf","(I)I"⟩ ∈ GG := gg_in 1079 (by decide +kernel) (by decide +kernel)
set_option maxRecDepth 20000 in
theorem gw_1080 : Cond.code ⟨"StarChartModel","sumOf","(I)I"⟩ prog_9_method_60_code 4 (some .int) ∈ GG := gg_in 1080 rfl rfl
theorem gw_1081 : Cond.methodLink "StarChartModel" 190 ⟨"StarChartModel","manyOf","(I)I"⟩ ∈ GG := gg_in 1081 (by decide +kernel) (by decide +kernel)
theorem gw_1083 : Cond.instanceMethod ⟨"StarChartModel","manyOf","(I)I"⟩ ∈ GG := gg_in 1083 (by decide +kernel) (by decide +kernel)
set_option maxRecDepth 20000 in
theorem gw_1084 : Cond.code ⟨"StarChartModel","manyOf","(I)I"⟩ prog_9_method_59_code 4 (some .int) ∈ GG := gg_in 1084 rfl rfl
theorem gw_1085 : Cond.constant "StarChartModel" 193 (-1000000) ∈ GG := gg_in 1085 (by decide +kernel) (by decide +kernel)
theorem gw_1086 : Cond.methodLink "StarChartModel" 194 ⟨"StarChartModel","gcd","(II)I"⟩ ∈ GG := gg_in 1086 (by decide +kernel) (by decide +kernel)
theorem gw_1087 : Cond.static ⟨"StarChartModel","gcd","(II)I"⟩ ∈ GG := gg_in 1087 (by decide +kernel) (by decide +kernel)
set_option maxRecDepth 20000 in
theorem gw_1088 : Cond.code ⟨"StarChartModel","gcd","(II)I"⟩ prog_9_method_61_code 5 (some .int) ∈ GG := gg_in 1088 rfl rfl
theorem gw_1089 : Cond.methodLink "StarChartLaw" 123 ⟨"StarChartModel","parts","()I"⟩ ∈ GG := gg_in 1089 (by decide +kernel) (by decide +kernel)
theorem gw_1090 : Cond.instanceMethod ⟨"StarChartModel","parts","()I"⟩ ∈ GG := gg_in 1090 (by decide +kernel) (by decide +kernel)
theorem gw_1091 : Cond.selects "StarChartModel" ⟨"StarChartModel","parts","()I"⟩ ⟨"StarChartModel","parts","()I"⟩ ∈ GG := gg_in 1091 (by decide +kernel) (by decide +kernel)
set_option maxRecDepth 20000 in
theorem gw_1092 : Cond.code ⟨"StarChartModel","parts","()I"⟩ prog_9_method_64_code 15 (some .int) ∈ GG := gg_in 1092 rfl rfl
theorem gw_1093 : Cond.methodLink "StarChartLaw" 127 ⟨"StarChartModel","ahead","(II)I"⟩ ∈ GG := gg_in 1093 (by decide +kernel) (by decide +kernel)
theorem gw_1094 : Cond.instanceMethod ⟨"StarChartModel","ahead","(II)I"⟩ ∈ GG := gg_in 1094 (by decide +kernel) (by decide +kernel)
theorem gw_1095 : Cond.selects "StarChartModel" ⟨"StarChartModel","ahead","(II)I"⟩ ⟨"StarChartModel","ahead","(II)I"⟩ ∈ GG := gg_in 1095 (by decide +kernel) (by decide +kernel)
set_option maxRecDepth 20000 in
theorem gw_1096 : Cond.code ⟨"StarChartModel","ahead","(II)I"⟩ prog_9_method_65_code 3 (some .int) ∈ GG := gg_in 1096 rfl rfl
theorem gw_1097 : Cond.methodLink "StarChartLaw" 131 ⟨"StarChartModel","halves","(I)I"⟩ ∈ GG := gg_in 1097 (by decide +kernel) (by decide +kernel)
theorem gw_1098 : Cond.instanceMethod ⟨"StarChartModel","halves","(I)I"⟩ ∈ GG := gg_in 1098 (by decide +kernel) (by decide +kernel)
theorem gw_1099 : Cond.selects "StarChartModel" ⟨"StarChartModel","halves","(I)I"⟩ ⟨"StarChartModel","halves","(I)I"⟩ ∈ GG := gg_in 1099 (by decide +kernel) (by decide +kernel)
set_option maxRecDepth 20000 in
theorem gw_1100 : Cond.code ⟨"StarChartModel","halves","(I)I"⟩ prog_9_method_66_code 5 (some .int) ∈ GG := gg_in 1100 rfl rfl
theorem gw_1101 : Cond.constant "StarChartModel" 200 1103515245 ∈ GG := gg_in 1101 (by decide +kernel) (by decide +kernel)
theorem gw_1102 : Cond.methodLink "StarChartLaw" 135 ⟨"StarChartModel","lot","(I)I"⟩ ∈ GG := gg_in 1102 (by decide +kernel) (by decide +kernel)
theorem gw_1103 : Cond.instanceMethod ⟨"StarChartModel","lot","(I)I"⟩ ∈ GG := gg_in 1103 (by decide +kernel) (by decide +kernel)
theorem gw_1104 : Cond.selects "StarChartModel" ⟨"StarChartModel","lot","(I)I"⟩ ⟨"StarChartModel","lot","(I)I"⟩ ∈ GG := gg_in 1104 (by decide +kernel) (by decide +kernel)
set_option maxRecDepth 20000 in
theorem gw_1105 : Cond.code ⟨"StarChartModel","lot","(I)I"⟩ prog_9_method_67_code 3 (some .int) ∈ GG := gg_in 1105 rfl rfl
theorem gw_1106 : Cond.methodLink "StarChartLaw" 139 ⟨"StarChartModel","rate","(II)I"⟩ ∈ GG := gg_in 1106 (by decide +kernel) (by decide +kernel)
theorem gw_1107 : Cond.instanceMethod ⟨"StarChartModel","rate","(II)I"⟩ ∈ GG := gg_in 1107 (by decide +kernel) (by decide +kernel)
theorem gw_1108 : Cond.selects "StarChartModel" ⟨"StarChartModel","rate","(II)I"⟩ ⟨"StarChartModel","rate","(II)I"⟩ ∈ GG := gg_in 1108 (by decide +kernel) (by decide +kernel)
set_option maxRecDepth 20000 in
theorem gw_1109 : Cond.code ⟨"StarChartModel","rate","(II)I"⟩ prog_9_method_68_code 6 (some .int) ∈ GG := gg_in 1109 rfl rfl
theorem gw_1110 : Cond.constantLong "StarChartModel" 205 11 ∈ GG := gg_in 1110 (by decide +kernel) (by decide +kernel)
theorem gw_1111 : Cond.constantLong "StarChartModel" 207 101 ∈ GG := gg_in 1111 (by decide +kernel) (by decide +kernel)
theorem gw_1112 : Cond.constantLong "StarChartModel" 209 1011 ∈ GG := gg_in 1112 (by decide +kernel) (by decide +kernel)
theorem gw_1113 : Cond.constantLong "StarChartModel" 211 11011 ∈ GG := gg_in 1113 (by decide +kernel) (by decide +kernel)
theorem gw_1114 : Cond.constantLong "StarChartModel" 213 100001 ∈ GG := gg_in 1114 (by decide +kernel) (by decide +kernel)
theorem gw_1115 : Cond.methodLink "StarChartLaw" 143 ⟨"StarChartModel","keep","(I)I"⟩ ∈ GG := gg_in 1115 (by decide +kernel) (by decide +kernel)
theorem gw_1116 : Cond.instanceMethod ⟨"StarChartModel","keep","(I)I"⟩ ∈ GG := gg_in 1116 (by decide +kernel) (by decide +kernel)
theorem gw_1117 : Cond.selects "StarChartModel" ⟨"StarChartModel","keep","(I)I"⟩ ⟨"StarChartModel","keep","(I)I"⟩ ∈ GG := gg_in 1117 (by decide +kernel) (by decide +kernel)
set_option maxRecDepth 20000 in
theorem gw_1118 : Cond.code ⟨"StarChartModel","keep","(I)I"⟩ prog_9_method_69_code 3 (some .int) ∈ GG := gg_in 1118 rfl rfl
theorem gw_1119 : Cond.methodLink "StarChartLaw" 147 ⟨"StarChartModel","back","(I)I"⟩ ∈ GG := gg_in 1119 (by decide +kernel) (by decide +kernel)
theorem gw_1120 : Cond.instanceMethod ⟨"StarChartModel","back","(I)I"⟩ ∈ GG := gg_in 1120 (by decide +kernel) (by decide +kernel)
theorem gw_1121 : Cond.selects "StarChartModel" ⟨"StarChartModel","back","(I)I"⟩ ⟨"StarChartModel","back","(I)I"⟩ ∈ GG := gg_in 1121 (by decide +kernel) (by decide +kernel)
set_option maxRecDepth 20000 in
theorem gw_1122 : Cond.code ⟨"StarChartModel","back","(I)I"⟩ prog_9_method_70_code 3 (some .int) ∈ GG := gg_in 1122 rfl rfl
theorem gw_1123 : Cond.methodLink "StarChartLaw" 151 ⟨"StarChartModel","count","(I)I"⟩ ∈ GG := gg_in 1123 (by decide +kernel) (by decide +kernel)
theorem gw_1124 : Cond.instanceMethod ⟨"StarChartModel","count","(I)I"⟩ ∈ GG := gg_in 1124 (by decide +kernel) (by decide +kernel)
theorem gw_1125 : Cond.selects "StarChartModel" ⟨"StarChartModel","count","(I)I"⟩ ⟨"StarChartModel","count","(I)I"⟩ ∈ GG := gg_in 1125 (by decide +kernel) (by decide +kernel)
set_option maxRecDepth 20000 in
theorem gw_1126 : Cond.code ⟨"StarChartModel","count","(I)I"⟩ prog_9_method_71_code 2 (some .int) ∈ GG := gg_in 1126 rfl rfl
theorem gw_1127 : Cond.methodLink "StarChartLaw" 156 ⟨"StarChartModel","trace","()J"⟩ ∈ GG := gg_in 1127 (by decide +kernel) (by decide +kernel)
theorem gw_1128 : Cond.instanceMethod ⟨"StarChartModel","trace","()J"⟩ ∈ GG := gg_in 1128 (by decide +kernel) (by decide +kernel)
theorem gw_1129 : Cond.selects "StarChartModel" ⟨"StarChartModel","trace","()J"⟩ ⟨"StarChartModel","trace","()J"⟩ ∈ GG := gg_in 1129 (by decide +kernel) (by decide +kernel)
set_option maxRecDepth 20000 in
theorem gw_1130 : Cond.code ⟨"StarChartModel","trace","()J"⟩ prog_9_method_72_code 1 (some .long) ∈ GG := gg_in 1130 rfl rfl
theorem gw_1131 : Cond.constantLong "StarChartLaw" 13 4294967295 ∈ GG := gg_in 1131 (by decide +kernel) (by decide +kernel)
theorem gw_1132 : Cond.fieldLink "java/lang/String" 9 "java/lang/String" "value" "[B" ∈ GG := gg_in 1132 (by decide +kernel) (by decide +kernel)
theorem gw_1133 : Cond.fieldLink "java/lang/String" 15 "java/lang/String" "coder" "B" ∈ GG := gg_in 1133 (by decide +kernel) (by decide +kernel)
