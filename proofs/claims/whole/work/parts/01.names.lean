-- ===== PART A: goes FIRST, ahead of the names: the tables' words, and 'selects' of the private methods out of them =====
/-- a private method of a class that the tables say can be made, by its rows of tables_1 -/
def lw_okq (q : MethodName × Nat) : Prop := (q.1.cls ≠ "java/lang/invoke/MethodHandle" ∧ q.1.cls ≠ "java/lang/invoke/VarHandle") ∧ Cond.instantiable q.1.cls q.2 ∈ tables_1 ∧ Cond.privateMethod q.1 ∈ tables_1 ∧ Cond.instanceMethod q.1 ∈ tables_1
theorem lw_p0 : lw_okq (⟨"StarChart$Reader", "cut", "()V"⟩, 7) := ⟨⟨by decide +kernel, by decide +kernel⟩, List.mem_of_getElem? (i := 89) (by decide +kernel), List.mem_of_getElem? (i := 294) (by decide +kernel), List.mem_of_getElem? (i := 295) (by decide +kernel)⟩
theorem lw_p1 : lw_okq (⟨"StarChart$Reader", "rowEnd", "(I)I"⟩, 7) := ⟨⟨by decide +kernel, by decide +kernel⟩, List.mem_of_getElem? (i := 89) (by decide +kernel), List.mem_of_getElem? (i := 298) (by decide +kernel), List.mem_of_getElem? (i := 299) (by decide +kernel)⟩
theorem lw_p2 : lw_okq (⟨"StarChart$Reader", "tokenOf", "(II)I"⟩, 7) := ⟨⟨by decide +kernel, by decide +kernel⟩, List.mem_of_getElem? (i := 89) (by decide +kernel), List.mem_of_getElem? (i := 308) (by decide +kernel), List.mem_of_getElem? (i := 309) (by decide +kernel)⟩
theorem lw_p3 : lw_okq (⟨"StarChart$Reader", "numberOf", "(II)I"⟩, 7) := ⟨⟨by decide +kernel, by decide +kernel⟩, List.mem_of_getElem? (i := 89) (by decide +kernel), List.mem_of_getElem? (i := 312) (by decide +kernel), List.mem_of_getElem? (i := 313) (by decide +kernel)⟩
theorem lw_p4 : lw_okq (⟨"StarChart$Reader", "spells", "(IILjava/lang/String;)Z"⟩, 7) := ⟨⟨by decide +kernel, by decide +kernel⟩, List.mem_of_getElem? (i := 89) (by decide +kernel), List.mem_of_getElem? (i := 317) (by decide +kernel), List.mem_of_getElem? (i := 318) (by decide +kernel)⟩
theorem lw_p5 : lw_okq (⟨"StarChart$Reader", "seen", "()I"⟩, 7) := ⟨⟨by decide +kernel, by decide +kernel⟩, List.mem_of_getElem? (i := 89) (by decide +kernel), List.mem_of_getElem? (i := 375) (by decide +kernel), List.mem_of_getElem? (i := 376) (by decide +kernel)⟩
theorem lw_p6 : lw_okq (⟨"StarChart$Reader", "readItem", "()Z"⟩, 7) := ⟨⟨by decide +kernel, by decide +kernel⟩, List.mem_of_getElem? (i := 89) (by decide +kernel), List.mem_of_getElem? (i := 379) (by decide +kernel), List.mem_of_getElem? (i := 380) (by decide +kernel)⟩
theorem lw_p7 : lw_okq (⟨"StarChart$Reader", "readChild", "()Z"⟩, 7) := ⟨⟨by decide +kernel, by decide +kernel⟩, List.mem_of_getElem? (i := 89) (by decide +kernel), List.mem_of_getElem? (i := 383) (by decide +kernel), List.mem_of_getElem? (i := 384) (by decide +kernel)⟩
theorem lw_p8 : lw_okq (⟨"StarChart$Reader", "readNumber", "(II)I"⟩, 7) := ⟨⟨by decide +kernel, by decide +kernel⟩, List.mem_of_getElem? (i := 89) (by decide +kernel), List.mem_of_getElem? (i := 387) (by decide +kernel), List.mem_of_getElem? (i := 388) (by decide +kernel)⟩
theorem lw_p9 : lw_okq (⟨"StarChart$Reader", "readBook", "()Z"⟩, 7) := ⟨⟨by decide +kernel, by decide +kernel⟩, List.mem_of_getElem? (i := 89) (by decide +kernel), List.mem_of_getElem? (i := 396) (by decide +kernel), List.mem_of_getElem? (i := 397) (by decide +kernel)⟩
theorem lw_p10 : lw_okq (⟨"StarChart$Reader", "readPlan", "()Z"⟩, 7) := ⟨⟨by decide +kernel, by decide +kernel⟩, List.mem_of_getElem? (i := 89) (by decide +kernel), List.mem_of_getElem? (i := 404) (by decide +kernel), List.mem_of_getElem? (i := 405) (by decide +kernel)⟩
theorem lw_p11 : lw_okq (⟨"StarChart$Reader", "readWord", "(I)Z"⟩, 7) := ⟨⟨by decide +kernel, by decide +kernel⟩, List.mem_of_getElem? (i := 89) (by decide +kernel), List.mem_of_getElem? (i := 408) (by decide +kernel), List.mem_of_getElem? (i := 409) (by decide +kernel)⟩
theorem lw_p12 : lw_okq (⟨"StarChart$Reader", "readPay", "()Z"⟩, 7) := ⟨⟨by decide +kernel, by decide +kernel⟩, List.mem_of_getElem? (i := 89) (by decide +kernel), List.mem_of_getElem? (i := 413) (by decide +kernel), List.mem_of_getElem? (i := 414) (by decide +kernel)⟩
theorem lw_p13 : lw_okq (⟨"StarChart", "isChild", "(I)Z"⟩, 12) := ⟨⟨by decide +kernel, by decide +kernel⟩, List.mem_of_getElem? (i := 16) (by decide +kernel), List.mem_of_getElem? (i := 431) (by decide +kernel), List.mem_of_getElem? (i := 432) (by decide +kernel)⟩
theorem lw_p14 : lw_okq (⟨"StarChart", "isSort", "(I)Z"⟩, 12) := ⟨⟨by decide +kernel, by decide +kernel⟩, List.mem_of_getElem? (i := 16) (by decide +kernel), List.mem_of_getElem? (i := 439) (by decide +kernel), List.mem_of_getElem? (i := 440) (by decide +kernel)⟩
theorem lw_p15 : lw_okq (⟨"StarChart$Course", "likingBehind", "(LStarChart$Sheet;[III)I"⟩, 5) := ⟨⟨by decide +kernel, by decide +kernel⟩, List.mem_of_getElem? (i := 121) (by decide +kernel), List.mem_of_getElem? (i := 509) (by decide +kernel), List.mem_of_getElem? (i := 510) (by decide +kernel)⟩
def lw_privs_1 : List (MethodName × Nat) := [(⟨"StarChart$Reader", "cut", "()V"⟩, 7), (⟨"StarChart$Reader", "rowEnd", "(I)I"⟩, 7), (⟨"StarChart$Reader", "tokenOf", "(II)I"⟩, 7), (⟨"StarChart$Reader", "numberOf", "(II)I"⟩, 7), (⟨"StarChart$Reader", "spells", "(IILjava/lang/String;)Z"⟩, 7), (⟨"StarChart$Reader", "seen", "()I"⟩, 7), (⟨"StarChart$Reader", "readItem", "()Z"⟩, 7), (⟨"StarChart$Reader", "readChild", "()Z"⟩, 7), (⟨"StarChart$Reader", "readNumber", "(II)I"⟩, 7), (⟨"StarChart$Reader", "readBook", "()Z"⟩, 7), (⟨"StarChart$Reader", "readPlan", "()Z"⟩, 7), (⟨"StarChart$Reader", "readWord", "(I)Z"⟩, 7), (⟨"StarChart$Reader", "readPay", "()Z"⟩, 7), (⟨"StarChart", "isChild", "(I)Z"⟩, 12), (⟨"StarChart", "isSort", "(I)Z"⟩, 12), (⟨"StarChart$Course", "likingBehind", "(LStarChart$Sheet;[III)I"⟩, 5)]
theorem lw_r1 : ∀ q ∈ lw_privs_1, lw_okq q := List.forall_mem_cons.mpr ⟨lw_p0, List.forall_mem_cons.mpr ⟨lw_p1, List.forall_mem_cons.mpr ⟨lw_p2, List.forall_mem_cons.mpr ⟨lw_p3, List.forall_mem_cons.mpr ⟨lw_p4, List.forall_mem_cons.mpr ⟨lw_p5, List.forall_mem_cons.mpr ⟨lw_p6, List.forall_mem_cons.mpr ⟨lw_p7, List.forall_mem_cons.mpr ⟨lw_p8, List.forall_mem_cons.mpr ⟨lw_p9, List.forall_mem_cons.mpr ⟨lw_p10, List.forall_mem_cons.mpr ⟨lw_p11, List.forall_mem_cons.mpr ⟨lw_p12, List.forall_mem_cons.mpr ⟨lw_p13, List.forall_mem_cons.mpr ⟨lw_p14, List.forall_mem_cons.mpr ⟨lw_p15, fun _ h => absurd h List.not_mem_nil⟩⟩⟩⟩⟩⟩⟩⟩⟩⟩⟩⟩⟩⟩⟩⟩
theorem lw_p16 : lw_okq (⟨"StarChart$Course", "worthBehind", "(LStarChart$Sheet;[II)I"⟩, 5) := ⟨⟨by decide +kernel, by decide +kernel⟩, List.mem_of_getElem? (i := 121) (by decide +kernel), List.mem_of_getElem? (i := 517) (by decide +kernel), List.mem_of_getElem? (i := 518) (by decide +kernel)⟩
theorem lw_p17 : lw_okq (⟨"StarChart", "pagesBetween", "(II)I"⟩, 12) := ⟨⟨by decide +kernel, by decide +kernel⟩, List.mem_of_getElem? (i := 16) (by decide +kernel), List.mem_of_getElem? (i := 541) (by decide +kernel), List.mem_of_getElem? (i := 542) (by decide +kernel)⟩
theorem lw_p18 : lw_okq (⟨"StarChart", "likingOn", "(I)I"⟩, 12) := ⟨⟨by decide +kernel, by decide +kernel⟩, List.mem_of_getElem? (i := 16) (by decide +kernel), List.mem_of_getElem? (i := 550) (by decide +kernel), List.mem_of_getElem? (i := 551) (by decide +kernel)⟩
theorem lw_p19 : lw_okq (⟨"StarChart", "fillJar", "(II)V"⟩, 12) := ⟨⟨by decide +kernel, by decide +kernel⟩, List.mem_of_getElem? (i := 16) (by decide +kernel), List.mem_of_getElem? (i := 583) (by decide +kernel), List.mem_of_getElem? (i := 584) (by decide +kernel)⟩
theorem lw_p20 : lw_okq (⟨"StarChart$Jar", "hasBy", "(II)I"⟩, 5) := ⟨⟨by decide +kernel, by decide +kernel⟩, List.mem_of_getElem? (i := 186) (by decide +kernel), List.mem_of_getElem? (i := 592) (by decide +kernel), List.mem_of_getElem? (i := 593) (by decide +kernel)⟩
theorem lw_p21 : lw_okq (⟨"StarChart$Jar", "pagesOf", "(I)I"⟩, 5) := ⟨⟨by decide +kernel, by decide +kernel⟩, List.mem_of_getElem? (i := 186) (by decide +kernel), List.mem_of_getElem? (i := 596) (by decide +kernel), List.mem_of_getElem? (i := 597) (by decide +kernel)⟩
theorem lw_p22 : lw_okq (⟨"StarChart$Trials", "sumOf", "(I)I"⟩, 3) := ⟨⟨by decide +kernel, by decide +kernel⟩, List.mem_of_getElem? (i := 169) (by decide +kernel), List.mem_of_getElem? (i := 629) (by decide +kernel), List.mem_of_getElem? (i := 630) (by decide +kernel)⟩
theorem lw_p23 : lw_okq (⟨"StarChart", "rateOfPay", "(I)I"⟩, 12) := ⟨⟨by decide +kernel, by decide +kernel⟩, List.mem_of_getElem? (i := 16) (by decide +kernel), List.mem_of_getElem? (i := 669) (by decide +kernel), List.mem_of_getElem? (i := 670) (by decide +kernel)⟩
theorem lw_p24 : lw_okq (⟨"StarChart", "rateOfTold", "(I)I"⟩, 12) := ⟨⟨by decide +kernel, by decide +kernel⟩, List.mem_of_getElem? (i := 16) (by decide +kernel), List.mem_of_getElem? (i := 673) (by decide +kernel), List.mem_of_getElem? (i := 674) (by decide +kernel)⟩
theorem lw_p25 : lw_okq (⟨"StarChart", "rateOfUnforeseen", "(I)I"⟩, 12) := ⟨⟨by decide +kernel, by decide +kernel⟩, List.mem_of_getElem? (i := 16) (by decide +kernel), List.mem_of_getElem? (i := 678) (by decide +kernel), List.mem_of_getElem? (i := 679) (by decide +kernel)⟩
theorem lw_p26 : lw_okq (⟨"StarChart", "rateOfDoing", "(I)I"⟩, 12) := ⟨⟨by decide +kernel, by decide +kernel⟩, List.mem_of_getElem? (i := 16) (by decide +kernel), List.mem_of_getElem? (i := 683) (by decide +kernel), List.mem_of_getElem? (i := 684) (by decide +kernel)⟩
theorem lw_p27 : lw_okq (⟨"StarChart", "rateOfWell", "(I)I"⟩, 12) := ⟨⟨by decide +kernel, by decide +kernel⟩, List.mem_of_getElem? (i := 16) (by decide +kernel), List.mem_of_getElem? (i := 688) (by decide +kernel), List.mem_of_getElem? (i := 689) (by decide +kernel)⟩
theorem lw_p28 : lw_okq (⟨"StarChart", "rateOfCommon", "(I)I"⟩, 12) := ⟨⟨by decide +kernel, by decide +kernel⟩, List.mem_of_getElem? (i := 16) (by decide +kernel), List.mem_of_getElem? (i := 693) (by decide +kernel), List.mem_of_getElem? (i := 694) (by decide +kernel)⟩
theorem lw_p29 : lw_okq (⟨"StarChart", "imageOf", "(I)LStarChart$Image;"⟩, 12) := ⟨⟨by decide +kernel, by decide +kernel⟩, List.mem_of_getElem? (i := 16) (by decide +kernel), List.mem_of_getElem? (i := 702) (by decide +kernel), List.mem_of_getElem? (i := 703) (by decide +kernel)⟩
theorem lw_p30 : lw_okq (⟨"StarChartModel", "drafts", "()V"⟩, 20) := ⟨⟨by decide +kernel, by decide +kernel⟩, List.mem_of_getElem? (i := 723) (by decide +kernel), List.mem_of_getElem? (i := 729) (by decide +kernel), List.mem_of_getElem? (i := 730) (by decide +kernel)⟩
theorem lw_p31 : lw_okq (⟨"StarChartModel", "adopts", "()V"⟩, 20) := ⟨⟨by decide +kernel, by decide +kernel⟩, List.mem_of_getElem? (i := 723) (by decide +kernel), List.mem_of_getElem? (i := 733) (by decide +kernel), List.mem_of_getElem? (i := 734) (by decide +kernel)⟩
def lw_privs_2 : List (MethodName × Nat) := [(⟨"StarChart$Course", "worthBehind", "(LStarChart$Sheet;[II)I"⟩, 5), (⟨"StarChart", "pagesBetween", "(II)I"⟩, 12), (⟨"StarChart", "likingOn", "(I)I"⟩, 12), (⟨"StarChart", "fillJar", "(II)V"⟩, 12), (⟨"StarChart$Jar", "hasBy", "(II)I"⟩, 5), (⟨"StarChart$Jar", "pagesOf", "(I)I"⟩, 5), (⟨"StarChart$Trials", "sumOf", "(I)I"⟩, 3), (⟨"StarChart", "rateOfPay", "(I)I"⟩, 12), (⟨"StarChart", "rateOfTold", "(I)I"⟩, 12), (⟨"StarChart", "rateOfUnforeseen", "(I)I"⟩, 12), (⟨"StarChart", "rateOfDoing", "(I)I"⟩, 12), (⟨"StarChart", "rateOfWell", "(I)I"⟩, 12), (⟨"StarChart", "rateOfCommon", "(I)I"⟩, 12), (⟨"StarChart", "imageOf", "(I)LStarChart$Image;"⟩, 12), (⟨"StarChartModel", "drafts", "()V"⟩, 20), (⟨"StarChartModel", "adopts", "()V"⟩, 20)]
theorem lw_r2 : ∀ q ∈ lw_privs_2, lw_okq q := List.forall_mem_cons.mpr ⟨lw_p16, List.forall_mem_cons.mpr ⟨lw_p17, List.forall_mem_cons.mpr ⟨lw_p18, List.forall_mem_cons.mpr ⟨lw_p19, List.forall_mem_cons.mpr ⟨lw_p20, List.forall_mem_cons.mpr ⟨lw_p21, List.forall_mem_cons.mpr ⟨lw_p22, List.forall_mem_cons.mpr ⟨lw_p23, List.forall_mem_cons.mpr ⟨lw_p24, List.forall_mem_cons.mpr ⟨lw_p25, List.forall_mem_cons.mpr ⟨lw_p26, List.forall_mem_cons.mpr ⟨lw_p27, List.forall_mem_cons.mpr ⟨lw_p28, List.forall_mem_cons.mpr ⟨lw_p29, List.forall_mem_cons.mpr ⟨lw_p30, List.forall_mem_cons.mpr ⟨lw_p31, fun _ h => absurd h List.not_mem_nil⟩⟩⟩⟩⟩⟩⟩⟩⟩⟩⟩⟩⟩⟩⟩⟩
theorem lw_p32 : lw_okq (⟨"StarChartModel", "begins", "([I)V"⟩, 20) := ⟨⟨by decide +kernel, by decide +kernel⟩, List.mem_of_getElem? (i := 723) (by decide +kernel), List.mem_of_getElem? (i := 737) (by decide +kernel), List.mem_of_getElem? (i := 738) (by decide +kernel)⟩
theorem lw_p33 : lw_okq (⟨"StarChartModel", "advances", "()V"⟩, 20) := ⟨⟨by decide +kernel, by decide +kernel⟩, List.mem_of_getElem? (i := 723) (by decide +kernel), List.mem_of_getElem? (i := 819) (by decide +kernel), List.mem_of_getElem? (i := 820) (by decide +kernel)⟩
theorem lw_p34 : lw_okq (⟨"StarChartModel", "byteAt", "(I)I"⟩, 20) := ⟨⟨by decide +kernel, by decide +kernel⟩, List.mem_of_getElem? (i := 723) (by decide +kernel), List.mem_of_getElem? (i := 823) (by decide +kernel), List.mem_of_getElem? (i := 824) (by decide +kernel)⟩
theorem lw_p35 : lw_okq (⟨"StarChartModel", "isWell", "()Z"⟩, 20) := ⟨⟨by decide +kernel, by decide +kernel⟩, List.mem_of_getElem? (i := 723) (by decide +kernel), List.mem_of_getElem? (i := 837) (by decide +kernel), List.mem_of_getElem? (i := 838) (by decide +kernel)⟩
theorem lw_p36 : lw_okq (⟨"StarChartModel", "takes", "(Z)I"⟩, 20) := ⟨⟨by decide +kernel, by decide +kernel⟩, List.mem_of_getElem? (i := 723) (by decide +kernel), List.mem_of_getElem? (i := 841) (by decide +kernel), List.mem_of_getElem? (i := 842) (by decide +kernel)⟩
theorem lw_p37 : lw_okq (⟨"StarChartModel", "readsItem", "(I)V"⟩, 20) := ⟨⟨by decide +kernel, by decide +kernel⟩, List.mem_of_getElem? (i := 723) (by decide +kernel), List.mem_of_getElem? (i := 845) (by decide +kernel), List.mem_of_getElem? (i := 846) (by decide +kernel)⟩
theorem lw_p38 : lw_okq (⟨"StarChartModel", "number", "(II)I"⟩, 20) := ⟨⟨by decide +kernel, by decide +kernel⟩, List.mem_of_getElem? (i := 723) (by decide +kernel), List.mem_of_getElem? (i := 849) (by decide +kernel), List.mem_of_getElem? (i := 850) (by decide +kernel)⟩
theorem lw_p39 : lw_okq (⟨"StarChartModel", "takesWord", "(I)Z"⟩, 20) := ⟨⟨by decide +kernel, by decide +kernel⟩, List.mem_of_getElem? (i := 723) (by decide +kernel), List.mem_of_getElem? (i := 853) (by decide +kernel), List.mem_of_getElem? (i := 854) (by decide +kernel)⟩
theorem lw_p40 : lw_okq (⟨"StarChartModel", "isChild", "(I)Z"⟩, 20) := ⟨⟨by decide +kernel, by decide +kernel⟩, List.mem_of_getElem? (i := 723) (by decide +kernel), List.mem_of_getElem? (i := 861) (by decide +kernel), List.mem_of_getElem? (i := 862) (by decide +kernel)⟩
theorem lw_p41 : lw_okq (⟨"StarChartModel", "isSort", "(I)Z"⟩, 20) := ⟨⟨by decide +kernel, by decide +kernel⟩, List.mem_of_getElem? (i := 723) (by decide +kernel), List.mem_of_getElem? (i := 869) (by decide +kernel), List.mem_of_getElem? (i := 870) (by decide +kernel)⟩
theorem lw_p42 : lw_okq (⟨"StarChartModel", "givenOf", "(II)I"⟩, 20) := ⟨⟨by decide +kernel, by decide +kernel⟩, List.mem_of_getElem? (i := 723) (by decide +kernel), List.mem_of_getElem? (i := 888) (by decide +kernel), List.mem_of_getElem? (i := 889) (by decide +kernel)⟩
theorem lw_p43 : lw_okq (⟨"StarChartModel", "pagesOf", "(II)I"⟩, 20) := ⟨⟨by decide +kernel, by decide +kernel⟩, List.mem_of_getElem? (i := 723) (by decide +kernel), List.mem_of_getElem? (i := 896) (by decide +kernel), List.mem_of_getElem? (i := 897) (by decide +kernel)⟩
theorem lw_p44 : lw_okq (⟨"StarChartModel", "joysOf", "([III)I"⟩, 20) := ⟨⟨by decide +kernel, by decide +kernel⟩, List.mem_of_getElem? (i := 723) (by decide +kernel), List.mem_of_getElem? (i := 900) (by decide +kernel), List.mem_of_getElem? (i := 901) (by decide +kernel)⟩
theorem lw_p45 : lw_okq (⟨"StarChartModel", "starsOf", "([IIII)I"⟩, 20) := ⟨⟨by decide +kernel, by decide +kernel⟩, List.mem_of_getElem? (i := 723) (by decide +kernel), List.mem_of_getElem? (i := 904) (by decide +kernel), List.mem_of_getElem? (i := 905) (by decide +kernel)⟩
theorem lw_p46 : lw_okq (⟨"StarChartModel", "wantOf", "([IIII)I"⟩, 20) := ⟨⟨by decide +kernel, by decide +kernel⟩, List.mem_of_getElem? (i := 723) (by decide +kernel), List.mem_of_getElem? (i := 908) (by decide +kernel), List.mem_of_getElem? (i := 909) (by decide +kernel)⟩
theorem lw_p47 : lw_okq (⟨"StarChartModel", "choiceOf", "([III)I"⟩, 20) := ⟨⟨by decide +kernel, by decide +kernel⟩, List.mem_of_getElem? (i := 723) (by decide +kernel), List.mem_of_getElem? (i := 916) (by decide +kernel), List.mem_of_getElem? (i := 917) (by decide +kernel)⟩
def lw_privs_3 : List (MethodName × Nat) := [(⟨"StarChartModel", "begins", "([I)V"⟩, 20), (⟨"StarChartModel", "advances", "()V"⟩, 20), (⟨"StarChartModel", "byteAt", "(I)I"⟩, 20), (⟨"StarChartModel", "isWell", "()Z"⟩, 20), (⟨"StarChartModel", "takes", "(Z)I"⟩, 20), (⟨"StarChartModel", "readsItem", "(I)V"⟩, 20), (⟨"StarChartModel", "number", "(II)I"⟩, 20), (⟨"StarChartModel", "takesWord", "(I)Z"⟩, 20), (⟨"StarChartModel", "isChild", "(I)Z"⟩, 20), (⟨"StarChartModel", "isSort", "(I)Z"⟩, 20), (⟨"StarChartModel", "givenOf", "(II)I"⟩, 20), (⟨"StarChartModel", "pagesOf", "(II)I"⟩, 20), (⟨"StarChartModel", "joysOf", "([III)I"⟩, 20), (⟨"StarChartModel", "starsOf", "([IIII)I"⟩, 20), (⟨"StarChartModel", "wantOf", "([IIII)I"⟩, 20), (⟨"StarChartModel", "choiceOf", "([III)I"⟩, 20)]
theorem lw_r3 : ∀ q ∈ lw_privs_3, lw_okq q := List.forall_mem_cons.mpr ⟨lw_p32, List.forall_mem_cons.mpr ⟨lw_p33, List.forall_mem_cons.mpr ⟨lw_p34, List.forall_mem_cons.mpr ⟨lw_p35, List.forall_mem_cons.mpr ⟨lw_p36, List.forall_mem_cons.mpr ⟨lw_p37, List.forall_mem_cons.mpr ⟨lw_p38, List.forall_mem_cons.mpr ⟨lw_p39, List.forall_mem_cons.mpr ⟨lw_p40, List.forall_mem_cons.mpr ⟨lw_p41, List.forall_mem_cons.mpr ⟨lw_p42, List.forall_mem_cons.mpr ⟨lw_p43, List.forall_mem_cons.mpr ⟨lw_p44, List.forall_mem_cons.mpr ⟨lw_p45, List.forall_mem_cons.mpr ⟨lw_p46, List.forall_mem_cons.mpr ⟨lw_p47, fun _ h => absurd h List.not_mem_nil⟩⟩⟩⟩⟩⟩⟩⟩⟩⟩⟩⟩⟩⟩⟩⟩
theorem lw_p48 : lw_okq (⟨"StarChartModel", "goesBy", "([I)I"⟩, 20) := ⟨⟨by decide +kernel, by decide +kernel⟩, List.mem_of_getElem? (i := 723) (by decide +kernel), List.mem_of_getElem? (i := 924) (by decide +kernel), List.mem_of_getElem? (i := 925) (by decide +kernel)⟩
theorem lw_p49 : lw_okq (⟨"StarChartModel", "allOf", "([II)I"⟩, 20) := ⟨⟨by decide +kernel, by decide +kernel⟩, List.mem_of_getElem? (i := 723) (by decide +kernel), List.mem_of_getElem? (i := 935) (by decide +kernel), List.mem_of_getElem? (i := 936) (by decide +kernel)⟩
theorem lw_p50 : lw_okq (⟨"StarChartModel", "pagesBy", "(II)I"⟩, 20) := ⟨⟨by decide +kernel, by decide +kernel⟩, List.mem_of_getElem? (i := 723) (by decide +kernel), List.mem_of_getElem? (i := 947) (by decide +kernel), List.mem_of_getElem? (i := 948) (by decide +kernel)⟩
theorem lw_p51 : lw_okq (⟨"StarChartModel", "endOn", "(I)I"⟩, 20) := ⟨⟨by decide +kernel, by decide +kernel⟩, List.mem_of_getElem? (i := 723) (by decide +kernel), List.mem_of_getElem? (i := 955) (by decide +kernel), List.mem_of_getElem? (i := 956) (by decide +kernel)⟩
theorem lw_p52 : lw_okq (⟨"StarChartModel", "aside", "(Z)V"⟩, 20) := ⟨⟨by decide +kernel, by decide +kernel⟩, List.mem_of_getElem? (i := 723) (by decide +kernel), List.mem_of_getElem? (i := 963) (by decide +kernel), List.mem_of_getElem? (i := 964) (by decide +kernel)⟩
theorem lw_p53 : lw_okq (⟨"StarChartModel", "jarHas", "(IIII)I"⟩, 20) := ⟨⟨by decide +kernel, by decide +kernel⟩, List.mem_of_getElem? (i := 723) (by decide +kernel), List.mem_of_getElem? (i := 987) (by decide +kernel), List.mem_of_getElem? (i := 988) (by decide +kernel)⟩
theorem lw_p54 : lw_okq (⟨"StarChartModel", "jarSort", "(I)I"⟩, 20) := ⟨⟨by decide +kernel, by decide +kernel⟩, List.mem_of_getElem? (i := 723) (by decide +kernel), List.mem_of_getElem? (i := 991) (by decide +kernel), List.mem_of_getElem? (i := 992) (by decide +kernel)⟩
theorem lw_p55 : lw_okq (⟨"StarChartModel", "jarPages", "(I)I"⟩, 20) := ⟨⟨by decide +kernel, by decide +kernel⟩, List.mem_of_getElem? (i := 723) (by decide +kernel), List.mem_of_getElem? (i := 995) (by decide +kernel), List.mem_of_getElem? (i := 996) (by decide +kernel)⟩
theorem lw_p56 : lw_okq (⟨"StarChartModel", "meanOf", "(II)I"⟩, 20) := ⟨⟨by decide +kernel, by decide +kernel⟩, List.mem_of_getElem? (i := 723) (by decide +kernel), List.mem_of_getElem? (i := 1015) (by decide +kernel), List.mem_of_getElem? (i := 1016) (by decide +kernel)⟩
theorem lw_p57 : lw_okq (⟨"StarChartModel", "sumOf", "(I)I"⟩, 20) := ⟨⟨by decide +kernel, by decide +kernel⟩, List.mem_of_getElem? (i := 723) (by decide +kernel), List.mem_of_getElem? (i := 1019) (by decide +kernel), List.mem_of_getElem? (i := 1020) (by decide +kernel)⟩
theorem lw_p58 : lw_okq (⟨"StarChartModel", "manyOf", "(I)I"⟩, 20) := ⟨⟨by decide +kernel, by decide +kernel⟩, List.mem_of_getElem? (i := 723) (by decide +kernel), List.mem_of_getElem? (i := 1023) (by decide +kernel), List.mem_of_getElem? (i := 1024) (by decide +kernel)⟩
def lw_privs_4 : List (MethodName × Nat) := [(⟨"StarChartModel", "goesBy", "([I)I"⟩, 20), (⟨"StarChartModel", "allOf", "([II)I"⟩, 20), (⟨"StarChartModel", "pagesBy", "(II)I"⟩, 20), (⟨"StarChartModel", "endOn", "(I)I"⟩, 20), (⟨"StarChartModel", "aside", "(Z)V"⟩, 20), (⟨"StarChartModel", "jarHas", "(IIII)I"⟩, 20), (⟨"StarChartModel", "jarSort", "(I)I"⟩, 20), (⟨"StarChartModel", "jarPages", "(I)I"⟩, 20), (⟨"StarChartModel", "meanOf", "(II)I"⟩, 20), (⟨"StarChartModel", "sumOf", "(I)I"⟩, 20), (⟨"StarChartModel", "manyOf", "(I)I"⟩, 20)]
theorem lw_r4 : ∀ q ∈ lw_privs_4, lw_okq q := List.forall_mem_cons.mpr ⟨lw_p48, List.forall_mem_cons.mpr ⟨lw_p49, List.forall_mem_cons.mpr ⟨lw_p50, List.forall_mem_cons.mpr ⟨lw_p51, List.forall_mem_cons.mpr ⟨lw_p52, List.forall_mem_cons.mpr ⟨lw_p53, List.forall_mem_cons.mpr ⟨lw_p54, List.forall_mem_cons.mpr ⟨lw_p55, List.forall_mem_cons.mpr ⟨lw_p56, List.forall_mem_cons.mpr ⟨lw_p57, List.forall_mem_cons.mpr ⟨lw_p58, fun _ h => absurd h List.not_mem_nil⟩⟩⟩⟩⟩⟩⟩⟩⟩⟩⟩
def lw_privs : List (MethodName × Nat) := lw_privs_1 ++ (lw_privs_2 ++ (lw_privs_3 ++ (lw_privs_4)))
def lw_tbl : List Cond := k2_sels lw_privs ++ tables_1
theorem lw_privs_ok : ∀ q ∈ lw_privs, lw_okq q := by
  show ∀ q ∈ lw_privs_1 ++ (lw_privs_2 ++ (lw_privs_3 ++ (lw_privs_4))), lw_okq q
  exact List.forall_mem_append.mpr ⟨lw_r1, List.forall_mem_append.mpr ⟨lw_r2, List.forall_mem_append.mpr ⟨lw_r3, lw_r4⟩⟩⟩
def RX0 : String := "StarChart$Course"
def TX0 : u_T := fun k => match k with
  | 0 => ("StarChart$Course", "day", "I", false)
  | 1 => ("StarChart$Course", "worth", "I", false)
  | 2 => ("StarChart$Course", "liking", "[I", true)
  | 3 => ("StarChart$Course", "pages", "[I", true)
  | _ => ("StarChart$Course", "stars", "[I", true)
def tyX0 : Nat → FieldType := fun k => match k with
  | 0 => .int
  | 1 => .int
  | 2 => .array .int
  | 3 => .array .int
  | _ => .array .int
abbrev wsX00 : List Cond := u_ws RX0 TX0 5
theorem nmX0 : ∀ a, a < 5 → ∀ b, b < 5 → a ≠ b → (TX0 a).2.1 ≠ (TX0 b).2.1 := by decide +kernel
theorem tyX0_ok : ∀ k, k < 5 → parseFieldDescriptor (TX0 k).2.2.1 = some (tyX0 k) := by decide +kernel
abbrev cX0_init : ByteArray := prog_2_method_1_code
def yX0_init : MethodName := ⟨RX0, "<init>", "()V"⟩
abbrev cX0_begin : ByteArray := prog_2_method_2_code
def yX0_begin : MethodName := ⟨RX0, "begin", "(LStarChart$Sheet;I)V"⟩
abbrev cX0_copyOf : ByteArray := prog_2_method_3_code
def yX0_copyOf : MethodName := ⟨RX0, "copyOf", "(LStarChart$Course;)V"⟩
abbrev cX0_sumOf : ByteArray := prog_2_method_4_code
def yX0_sumOf : MethodName := ⟨RX0, "sumOf", "([II)I"⟩
abbrev cX0_joysOf : ByteArray := prog_2_method_5_code
def yX0_joysOf : MethodName := ⟨RX0, "joysOf", "(LStarChart$Sheet;II)I"⟩
abbrev cX0_starsFor : ByteArray := prog_2_method_6_code
def yX0_starsFor : MethodName := ⟨RX0, "starsFor", "(LStarChart$Sheet;II)I"⟩
abbrev cX0_wantOf : ByteArray := prog_2_method_7_code
def yX0_wantOf : MethodName := ⟨RX0, "wantOf", "(LStarChart$Sheet;II)I"⟩
abbrev cX0_choiceOf : ByteArray := prog_2_method_8_code
def yX0_choiceOf : MethodName := ⟨RX0, "choiceOf", "(LStarChart$Sheet;II)I"⟩
abbrev cX0_pass : ByteArray := prog_2_method_9_code
def yX0_pass : MethodName := ⟨RX0, "pass", "(LStarChart$Sheet;[I)I"⟩
abbrev cX0_likingBehind : ByteArray := prog_2_method_10_code
def yX0_likingBehind : MethodName := ⟨RX0, "likingBehind", "(LStarChart$Sheet;[III)I"⟩
abbrev cX0_worthBehind : ByteArray := prog_2_method_11_code
def yX0_worthBehind : MethodName := ⟨RX0, "worthBehind", "(LStarChart$Sheet;[II)I"⟩
def RX1 : String := "StarChart$Image"
def TX1 : u_T := fun k => match k with
  | 0 => ("StarChart$Image", "kept", "Z", false)
  | 1 => ("StarChart$Image", "chance", "I", false)
  | _ => ("StarChart$Image", "course", "LStarChart$Course;", true)
def tyX1 : Nat → FieldType := fun k => match k with
  | 0 => .boolean
  | 1 => .int
  | _ => .object "StarChart$Course"
abbrev wsX10 : List Cond := u_ws RX1 TX1 3
theorem nmX1 : ∀ a, a < 3 → ∀ b, b < 3 → a ≠ b → (TX1 a).2.1 ≠ (TX1 b).2.1 := by decide +kernel
theorem tyX1_ok : ∀ k, k < 3 → parseFieldDescriptor (TX1 k).2.2.1 = some (tyX1 k) := by decide +kernel
abbrev cX1_init : ByteArray := prog_3_method_1_code
def yX1_init : MethodName := ⟨RX1, "<init>", "()V"⟩
def RX2 : String := "StarChart$Jar"
def TX2 : u_T := fun k => match k with
  | 0 => ("StarChart$Jar", "goal", "I", false)
  | 1 => ("StarChart$Jar", "children", "I", false)
  | 2 => ("StarChart$Jar", "pages", "[I", true)
  | 3 => ("StarChart$Jar", "gain", "[I", true)
  | _ => ("StarChart$Jar", "prize", "[I", true)
def tyX2 : Nat → FieldType := fun k => match k with
  | 0 => .int
  | 1 => .int
  | 2 => .array .int
  | 3 => .array .int
  | _ => .array .int
abbrev wsX20 : List Cond := u_ws RX2 TX2 5
theorem nmX2 : ∀ a, a < 5 → ∀ b, b < 5 → a ≠ b → (TX2 a).2.1 ≠ (TX2 b).2.1 := by decide +kernel
theorem tyX2_ok : ∀ k, k < 5 → parseFieldDescriptor (TX2 k).2.2.1 = some (tyX2 k) := by decide +kernel
abbrev cX2_init : ByteArray := prog_4_method_1_code
def yX2_init : MethodName := ⟨RX2, "<init>", "()V"⟩
abbrev cX2_pagesOf : ByteArray := prog_4_method_2_code
def yX2_pagesOf : MethodName := ⟨RX2, "pagesOf", "(I)I"⟩
abbrev cX2_hasBy : ByteArray := prog_4_method_3_code
def yX2_hasBy : MethodName := ⟨RX2, "hasBy", "(II)I"⟩
abbrev cX2_isRest : ByteArray := prog_4_method_4_code
def yX2_isRest : MethodName := ⟨RX2, "isRest", "(I)Z"⟩
abbrev cX2_blamedFor : ByteArray := prog_4_method_5_code
def yX2_blamedFor : MethodName := ⟨RX2, "blamedFor", "(I)I"⟩
def RX3 : String := "StarChart$Reader"
def TX3 : u_T := fun k => match k with
  | 0 => ("StarChart$Reader", "length", "I", false)
  | 1 => ("StarChart$Reader", "text", "[I", true)
  | 2 => ("StarChart$Reader", "draft", "LStarChart$Sheet;", true)
  | 3 => ("StarChart$Reader", "token", "[I", true)
  | 4 => ("StarChart$Reader", "place", "[I", true)
  | 5 => ("StarChart$Reader", "at", "I", false)
  | _ => ("StarChart$Reader", "planned", "Z", false)
def tyX3 : Nat → FieldType := fun k => match k with
  | 0 => .int
  | 1 => .array .int
  | 2 => .object "StarChart$Sheet"
  | 3 => .array .int
  | 4 => .array .int
  | 5 => .int
  | _ => .boolean
abbrev wsX30 : List Cond := u_ws RX3 TX3 7
theorem nmX3 : ∀ a, a < 7 → ∀ b, b < 7 → a ≠ b → (TX3 a).2.1 ≠ (TX3 b).2.1 := by decide +kernel
theorem tyX3_ok : ∀ k, k < 7 → parseFieldDescriptor (TX3 k).2.2.1 = some (tyX3 k) := by decide +kernel
abbrev cX3_init : ByteArray := prog_5_method_1_code
def yX3_init : MethodName := ⟨RX3, "<init>", "()V"⟩
abbrev cX3_hear : ByteArray := prog_5_method_2_code
def yX3_hear : MethodName := ⟨RX3, "hear", "(JI)Z"⟩
abbrev cX3_readItems : ByteArray := prog_5_method_3_code
def yX3_readItems : MethodName := ⟨RX3, "readItems", "()I"⟩
abbrev cX3_fault : ByteArray := prog_5_method_4_code
def yX3_fault : MethodName := ⟨RX3, "fault", "()I"⟩
abbrev cX3_cut : ByteArray := prog_5_method_5_code
def yX3_cut : MethodName := ⟨RX3, "cut", "()V"⟩
abbrev cX3_isLetter : ByteArray := prog_5_method_6_code
def yX3_isLetter : MethodName := ⟨RX3, "isLetter", "(I)Z"⟩
abbrev cX3_isDigit : ByteArray := prog_5_method_7_code
def yX3_isDigit : MethodName := ⟨RX3, "isDigit", "(I)Z"⟩
abbrev cX3_rowEnd : ByteArray := prog_5_method_8_code
def yX3_rowEnd : MethodName := ⟨RX3, "rowEnd", "(I)I"⟩
abbrev cX3_tokenOf : ByteArray := prog_5_method_9_code
def yX3_tokenOf : MethodName := ⟨RX3, "tokenOf", "(II)I"⟩
abbrev cX3_numberOf : ByteArray := prog_5_method_10_code
def yX3_numberOf : MethodName := ⟨RX3, "numberOf", "(II)I"⟩
abbrev cX3_spells : ByteArray := prog_5_method_11_code
def yX3_spells : MethodName := ⟨RX3, "spells", "(IILjava/lang/String;)Z"⟩
abbrev cX3_seen : ByteArray := prog_5_method_12_code
def yX3_seen : MethodName := ⟨RX3, "seen", "()I"⟩
abbrev cX3_readNumber : ByteArray := prog_5_method_13_code
def yX3_readNumber : MethodName := ⟨RX3, "readNumber", "(II)I"⟩
abbrev cX3_readWord : ByteArray := prog_5_method_14_code
def yX3_readWord : MethodName := ⟨RX3, "readWord", "(I)Z"⟩
abbrev cX3_readItem : ByteArray := prog_5_method_15_code
def yX3_readItem : MethodName := ⟨RX3, "readItem", "()Z"⟩
abbrev cX3_readChild : ByteArray := prog_5_method_16_code
def yX3_readChild : MethodName := ⟨RX3, "readChild", "()Z"⟩
abbrev cX3_readBook : ByteArray := prog_5_method_17_code
def yX3_readBook : MethodName := ⟨RX3, "readBook", "()Z"⟩
abbrev cX3_readPlan : ByteArray := prog_5_method_18_code
def yX3_readPlan : MethodName := ⟨RX3, "readPlan", "()Z"⟩
abbrev cX3_readPay : ByteArray := prog_5_method_19_code
def yX3_readPay : MethodName := ⟨RX3, "readPay", "()Z"⟩
def RX4 : String := "StarChart$Sheet"
def TX4 : u_T := fun k => match k with
  | 0 => ("StarChart$Sheet", "children", "I", false)
  | 1 => ("StarChart$Sheet", "sorts", "I", false)
  | 2 => ("StarChart$Sheet", "liking", "[I", true)
  | 3 => ("StarChart$Sheet", "able", "[I", true)
  | 4 => ("StarChart$Sheet", "take", "[I", true)
  | 5 => ("StarChart$Sheet", "hard", "[I", true)
  | 6 => ("StarChart$Sheet", "joy", "[I", true)
  | 7 => ("StarChart$Sheet", "pay", "[I", true)
  | 8 => ("StarChart$Sheet", "from", "I", false)
  | 9 => ("StarChart$Sheet", "until", "I", false)
  | 10 => ("StarChart$Sheet", "thin", "I", false)
  | _ => ("StarChart$Sheet", "told", "Z", false)
def tyX4 : Nat → FieldType := fun k => match k with
  | 0 => .int
  | 1 => .int
  | 2 => .array .int
  | 3 => .array .int
  | 4 => .array .int
  | 5 => .array .int
  | 6 => .array .int
  | 7 => .array .int
  | 8 => .int
  | 9 => .int
  | 10 => .int
  | _ => .boolean
abbrev wsX40 : List Cond := u_ws RX4 TX4 12
theorem nmX4 : ∀ a, a < 12 → ∀ b, b < 12 → a ≠ b → (TX4 a).2.1 ≠ (TX4 b).2.1 := by decide +kernel
theorem tyX4_ok : ∀ k, k < 12 → parseFieldDescriptor (TX4 k).2.2.1 = some (tyX4 k) := by decide +kernel
abbrev cX4_init : ByteArray := prog_6_method_1_code
def yX4_init : MethodName := ⟨RX4, "<init>", "()V"⟩
abbrev cX4_wipe : ByteArray := prog_6_method_2_code
def yX4_wipe : MethodName := ⟨RX4, "wipe", "()V"⟩
abbrev cX4_schedule : ByteArray := prog_6_method_3_code
def yX4_schedule : MethodName := ⟨RX4, "schedule", "(IIZI)V"⟩
abbrev cX4_copyOf : ByteArray := prog_6_method_4_code
def yX4_copyOf : MethodName := ⟨RX4, "copyOf", "(LStarChart$Sheet;)V"⟩
abbrev cX4_payNothing : ByteArray := prog_6_method_5_code
def yX4_payNothing : MethodName := ⟨RX4, "payNothing", "()V"⟩
abbrev cX4_addChild : ByteArray := prog_6_method_6_code
def yX4_addChild : MethodName := ⟨RX4, "addChild", "(III)V"⟩
abbrev cX4_addSort : ByteArray := prog_6_method_7_code
def yX4_addSort : MethodName := ⟨RX4, "addSort", "(II)V"⟩
abbrev cX4_teachOne : ByteArray := prog_6_method_8_code
def yX4_teachOne : MethodName := ⟨RX4, "teachOne", "(III)V"⟩
abbrev cX4_pagesIn : ByteArray := prog_6_method_9_code
def yX4_pagesIn : MethodName := ⟨RX4, "pagesIn", "(II)I"⟩
abbrev cX4_givenOn : ByteArray := prog_6_method_10_code
def yX4_givenOn : MethodName := ⟨RX4, "givenOn", "(II)I"⟩
abbrev cX4_givesNothing : ByteArray := prog_6_method_11_code
def yX4_givesNothing : MethodName := ⟨RX4, "givesNothing", "(I)Z"⟩
def RX5 : String := "StarChart$Trials"
def TX5 : u_T := fun k => match k with
  | 0 => ("StarChart$Trials", "many", "I", false)
  | 1 => ("StarChart$Trials", "sort", "[I", true)
  | _ => ("StarChart$Trials", "came", "[I", true)
def tyX5 : Nat → FieldType := fun k => match k with
  | 0 => .int
  | 1 => .array .int
  | _ => .array .int
abbrev wsX50 : List Cond := u_ws RX5 TX5 3
theorem nmX5 : ∀ a, a < 3 → ∀ b, b < 3 → a ≠ b → (TX5 a).2.1 ≠ (TX5 b).2.1 := by decide +kernel
theorem tyX5_ok : ∀ k, k < 3 → parseFieldDescriptor (TX5 k).2.2.1 = some (tyX5 k) := by decide +kernel
abbrev cX5_init : ByteArray := prog_7_method_1_code
def yX5_init : MethodName := ⟨RX5, "<init>", "()V"⟩
abbrev cX5_note : ByteArray := prog_7_method_2_code
def yX5_note : MethodName := ⟨RX5, "note", "(II)Z"⟩
abbrev cX5_manyOf : ByteArray := prog_7_method_3_code
def yX5_manyOf : MethodName := ⟨RX5, "manyOf", "(I)I"⟩
abbrev cX5_sumOf : ByteArray := prog_7_method_4_code
def yX5_sumOf : MethodName := ⟨RX5, "sumOf", "(I)I"⟩
abbrev cX5_meanOf : ByteArray := prog_7_method_5_code
def yX5_meanOf : MethodName := ⟨RX5, "meanOf", "(II)I"⟩
abbrev cX5_farthestBit : ByteArray := prog_7_method_6_code
def yX5_farthestBit : MethodName := ⟨RX5, "farthestBit", "()I"⟩
def RX6 : String := "StarChart"
def TX6 : u_T := fun k => match k with
  | 0 => ("StarChart", "sheet", "LStarChart$Sheet;", true)
  | 1 => ("StarChart", "reader", "LStarChart$Reader;", true)
  | 2 => ("StarChart", "today", "LStarChart$Course;", true)
  | 3 => ("StarChart", "tunes", "[I", true)
  | 4 => ("StarChart", "first", "LStarChart$Image;", true)
  | 5 => ("StarChart", "second", "LStarChart$Image;", true)
  | 6 => ("StarChart", "trials", "LStarChart$Trials;", true)
  | 7 => ("StarChart", "jar", "LStarChart$Jar;", true)
  | 8 => ("StarChart", "guess", "LStarChart$Sheet;", true)
  | 9 => ("StarChart", "dream", "LStarChart$Course;", true)
  | 10 => ("StarChart", "chance", "I", false)
  | _ => ("StarChart", "asked", "J", false)
def tyX6 : Nat → FieldType := fun k => match k with
  | 0 => .object "StarChart$Sheet"
  | 1 => .object "StarChart$Reader"
  | 2 => .object "StarChart$Course"
  | 3 => .array .int
  | 4 => .object "StarChart$Image"
  | 5 => .object "StarChart$Image"
  | 6 => .object "StarChart$Trials"
  | 7 => .object "StarChart$Jar"
  | 8 => .object "StarChart$Sheet"
  | 9 => .object "StarChart$Course"
  | 10 => .int
  | _ => .long
abbrev wsX60 : List Cond := u_ws RX6 TX6 12
theorem nmX6 : ∀ a, a < 12 → ∀ b, b < 12 → a ≠ b → (TX6 a).2.1 ≠ (TX6 b).2.1 := by decide +kernel
theorem tyX6_ok : ∀ k, k < 12 → parseFieldDescriptor (TX6 k).2.2.1 = some (tyX6 k) := by decide +kernel
abbrev cX6_init : ByteArray := prog_1_method_1_code
def yX6_init : MethodName := ⟨RX6, "<init>", "()V"⟩
abbrev cX6_type : ByteArray := prog_1_method_2_code
def yX6_type : MethodName := ⟨RX6, "type", "(JI)I"⟩
abbrev cX6_clear : ByteArray := prog_1_method_3_code
def yX6_clear : MethodName := ⟨RX6, "clear", "()I"⟩
abbrev cX6_chart : ByteArray := prog_1_method_4_code
def yX6_chart : MethodName := ⟨RX6, "chart", "()I"⟩
abbrev cX6_child : ByteArray := prog_1_method_5_code
def yX6_child : MethodName := ⟨RX6, "child", "(II)I"⟩
abbrev cX6_book : ByteArray := prog_1_method_6_code
def yX6_book : MethodName := ⟨RX6, "book", "(II)I"⟩
abbrev cX6_plan : ByteArray := prog_1_method_7_code
def yX6_plan : MethodName := ⟨RX6, "plan", "(I)I"⟩
abbrev cX6_tune : ByteArray := prog_1_method_8_code
def yX6_tune : MethodName := ⟨RX6, "tune", "(II)I"⟩
abbrev cX6_given : ByteArray := prog_1_method_9_code
def yX6_given : MethodName := ⟨RX6, "given", "(II)I"⟩
abbrev cX6_want : ByteArray := prog_1_method_10_code
def yX6_want : MethodName := ⟨RX6, "want", "(III)I"⟩
abbrev cX6_choice : ByteArray := prog_1_method_11_code
def yX6_choice : MethodName := ⟨RX6, "choice", "(I)I"⟩
abbrev cX6_go : ByteArray := prog_1_method_12_code
def yX6_go : MethodName := ⟨RX6, "go", "(I)I"⟩
abbrev cX6_now : ByteArray := prog_1_method_13_code
def yX6_now : MethodName := ⟨RX6, "now", "(I)I"⟩
abbrev cX6_anew : ByteArray := prog_1_method_14_code
def yX6_anew : MethodName := ⟨RX6, "anew", "()I"⟩
abbrev cX6_term : ByteArray := prog_1_method_15_code
def yX6_term : MethodName := ⟨RX6, "term", "(I)I"⟩
abbrev cX6_end : ByteArray := prog_1_method_16_code
def yX6_end : MethodName := ⟨RX6, "end", "(I)I"⟩
abbrev cX6_best : ByteArray := prog_1_method_17_code
def yX6_best : MethodName := ⟨RX6, "best", "(III)I"⟩
abbrev cX6_line : ByteArray := prog_1_method_18_code
def yX6_line : MethodName := ⟨RX6, "line", "(III)I"⟩
abbrev cX6_ending : ByteArray := prog_1_method_19_code
def yX6_ending : MethodName := ⟨RX6, "ending", "(I)I"⟩
abbrev cX6_easy : ByteArray := prog_1_method_20_code
def yX6_easy : MethodName := ⟨RX6, "easy", "()I"⟩
abbrev cX6_stays : ByteArray := prog_1_method_21_code
def yX6_stays : MethodName := ⟨RX6, "stays", "(II)I"⟩
abbrev cX6_rests : ByteArray := prog_1_method_22_code
def yX6_rests : MethodName := ⟨RX6, "rests", "(III)I"⟩
abbrev cX6_blamed : ByteArray := prog_1_method_23_code
def yX6_blamed : MethodName := ⟨RX6, "blamed", "(II)I"⟩
abbrev cX6_checks : ByteArray := prog_1_method_24_code
def yX6_checks : MethodName := ⟨RX6, "checks", "(I)I"⟩
abbrev cX6_trial : ByteArray := prog_1_method_25_code
def yX6_trial : MethodName := ⟨RX6, "trial", "(II)I"⟩
abbrev cX6_joined : ByteArray := prog_1_method_26_code
def yX6_joined : MethodName := ⟨RX6, "joined", "(II)I"⟩
abbrev cX6_parts : ByteArray := prog_1_method_27_code
def yX6_parts : MethodName := ⟨RX6, "parts", "()I"⟩
abbrev cX6_ahead : ByteArray := prog_1_method_28_code
def yX6_ahead : MethodName := ⟨RX6, "ahead", "(II)I"⟩
abbrev cX6_halves : ByteArray := prog_1_method_29_code
def yX6_halves : MethodName := ⟨RX6, "halves", "(I)I"⟩
abbrev cX6_lot : ByteArray := prog_1_method_30_code
def yX6_lot : MethodName := ⟨RX6, "lot", "(I)I"⟩
abbrev cX6_rate : ByteArray := prog_1_method_31_code
def yX6_rate : MethodName := ⟨RX6, "rate", "(II)I"⟩
abbrev cX6_keep : ByteArray := prog_1_method_32_code
def yX6_keep : MethodName := ⟨RX6, "keep", "(I)I"⟩
abbrev cX6_back : ByteArray := prog_1_method_33_code
def yX6_back : MethodName := ⟨RX6, "back", "(I)I"⟩
abbrev cX6_count : ByteArray := prog_1_method_34_code
def yX6_count : MethodName := ⟨RX6, "count", "(I)I"⟩
abbrev cX6_trace : ByteArray := prog_1_method_35_code
def yX6_trace : MethodName := ⟨RX6, "trace", "()J"⟩
abbrev cX6_within : ByteArray := prog_1_method_36_code
def yX6_within : MethodName := ⟨RX6, "within", "(III)Z"⟩
abbrev cX6_isChild : ByteArray := prog_1_method_37_code
def yX6_isChild : MethodName := ⟨RX6, "isChild", "(I)Z"⟩
abbrev cX6_isSort : ByteArray := prog_1_method_38_code
def yX6_isSort : MethodName := ⟨RX6, "isSort", "(I)Z"⟩
abbrev cX6_isDay : ByteArray := prog_1_method_39_code
def yX6_isDay : MethodName := ⟨RX6, "isDay", "(I)Z"⟩
abbrev cX6_imageOf : ByteArray := prog_1_method_40_code
def yX6_imageOf : MethodName := ⟨RX6, "imageOf", "(I)LStarChart$Image;"⟩
abbrev cX6_pagesBetween : ByteArray := prog_1_method_41_code
def yX6_pagesBetween : MethodName := ⟨RX6, "pagesBetween", "(II)I"⟩
abbrev cX6_likingOn : ByteArray := prog_1_method_42_code
def yX6_likingOn : MethodName := ⟨RX6, "likingOn", "(I)I"⟩
abbrev cX6_fillJar : ByteArray := prog_1_method_43_code
def yX6_fillJar : MethodName := ⟨RX6, "fillJar", "(II)V"⟩
abbrev cX6_rateOfPay : ByteArray := prog_1_method_44_code
def yX6_rateOfPay : MethodName := ⟨RX6, "rateOfPay", "(I)I"⟩
abbrev cX6_rateOfTold : ByteArray := prog_1_method_45_code
def yX6_rateOfTold : MethodName := ⟨RX6, "rateOfTold", "(I)I"⟩
abbrev cX6_rateOfUnforeseen : ByteArray := prog_1_method_46_code
def yX6_rateOfUnforeseen : MethodName := ⟨RX6, "rateOfUnforeseen", "(I)I"⟩
abbrev cX6_rateOfDoing : ByteArray := prog_1_method_47_code
def yX6_rateOfDoing : MethodName := ⟨RX6, "rateOfDoing", "(I)I"⟩
abbrev cX6_rateOfWell : ByteArray := prog_1_method_48_code
def yX6_rateOfWell : MethodName := ⟨RX6, "rateOfWell", "(I)I"⟩
abbrev cX6_rateOfCommon : ByteArray := prog_1_method_49_code
def yX6_rateOfCommon : MethodName := ⟨RX6, "rateOfCommon", "(I)I"⟩
def RX7 : String := "StarChartModel"
def TX7 : u_T := fun k => match k with
  | 0 => ("StarChartModel", "thrown", "I", false)
  | 1 => ("StarChartModel", "trace", "J", false)
  | 2 => ("StarChartModel", "text", "[I", true)
  | 3 => ("StarChartModel", "typed", "I", false)
  | 4 => ("StarChartModel", "next", "I", false)
  | 5 => ("StarChartModel", "token", "I", false)
  | 6 => ("StarChartModel", "place", "I", false)
  | 7 => ("StarChartModel", "value", "I", false)
  | 8 => ("StarChartModel", "fault", "I", false)
  | 9 => ("StarChartModel", "told", "[I", true)
  | 10 => ("StarChartModel", "tunes", "[I", true)
  | 11 => ("StarChartModel", "s", "[I", true)
  | 12 => ("StarChartModel", "kept", "[I", true)
  | 13 => ("StarChartModel", "isKept", "[Z", true)
  | 14 => ("StarChartModel", "f", "[I", true)
  | 15 => ("StarChartModel", "was", "[I", true)
  | 16 => ("StarChartModel", "isBare", "Z", false)
  | 17 => ("StarChartModel", "trialSort", "[I", true)
  | 18 => ("StarChartModel", "trialCame", "[I", true)
  | _ => ("StarChartModel", "trials", "I", false)
def tyX7 : Nat → FieldType := fun k => match k with
  | 0 => .int
  | 1 => .long
  | 2 => .array .int
  | 3 => .int
  | 4 => .int
  | 5 => .int
  | 6 => .int
  | 7 => .int
  | 8 => .int
  | 9 => .array .int
  | 10 => .array .int
  | 11 => .array .int
  | 12 => .array .int
  | 13 => .array .boolean
  | 14 => .array .int
  | 15 => .array .int
  | 16 => .boolean
  | 17 => .array .int
  | 18 => .array .int
  | _ => .int
abbrev wsX70 : List Cond := u_ws RX7 TX7 20
theorem nmX7 : ∀ a, a < 20 → ∀ b, b < 20 → a ≠ b → (TX7 a).2.1 ≠ (TX7 b).2.1 := by decide +kernel
theorem tyX7_ok : ∀ k, k < 20 → parseFieldDescriptor (TX7 k).2.2.1 = some (tyX7 k) := by decide +kernel
abbrev cX7_init : ByteArray := prog_9_method_1_code
def yX7_init : MethodName := ⟨RX7, "<init>", "()V"⟩
abbrev cX7_in : ByteArray := prog_9_method_3_code
def yX7_in : MethodName := ⟨RX7, "in", "(III)Z"⟩
abbrev cX7_type : ByteArray := prog_9_method_4_code
def yX7_type : MethodName := ⟨RX7, "type", "(JI)I"⟩
abbrev cX7_clear : ByteArray := prog_9_method_5_code
def yX7_clear : MethodName := ⟨RX7, "clear", "()I"⟩
abbrev cX7_byteAt : ByteArray := prog_9_method_6_code
def yX7_byteAt : MethodName := ⟨RX7, "byteAt", "(I)I"⟩
abbrev cX7_add : ByteArray := prog_9_method_7_code
def yX7_add : MethodName := ⟨RX7, "add", "(JI)J"⟩
abbrev cX7_named : ByteArray := prog_9_method_8_code
def yX7_named : MethodName := ⟨RX7, "named", "(IIIII)J"⟩
abbrev cX7_wordOf : ByteArray := prog_9_method_9_code
def yX7_wordOf : MethodName := ⟨RX7, "wordOf", "(J)I"⟩
abbrev cX7_advances : ByteArray := prog_9_method_10_code
def yX7_advances : MethodName := ⟨RX7, "advances", "()V"⟩
abbrev cX7_isWell : ByteArray := prog_9_method_11_code
def yX7_isWell : MethodName := ⟨RX7, "isWell", "()Z"⟩
abbrev cX7_takes : ByteArray := prog_9_method_12_code
def yX7_takes : MethodName := ⟨RX7, "takes", "(Z)I"⟩
abbrev cX7_number : ByteArray := prog_9_method_13_code
def yX7_number : MethodName := ⟨RX7, "number", "(II)I"⟩
abbrev cX7_takesWord : ByteArray := prog_9_method_14_code
def yX7_takesWord : MethodName := ⟨RX7, "takesWord", "(I)Z"⟩
abbrev cX7_drafts : ByteArray := prog_9_method_15_code
def yX7_drafts : MethodName := ⟨RX7, "drafts", "()V"⟩
abbrev cX7_readsItem : ByteArray := prog_9_method_16_code
def yX7_readsItem : MethodName := ⟨RX7, "readsItem", "(I)V"⟩
abbrev cX7_chart : ByteArray := prog_9_method_17_code
def yX7_chart : MethodName := ⟨RX7, "chart", "()I"⟩
abbrev cX7_adopts : ByteArray := prog_9_method_18_code
def yX7_adopts : MethodName := ⟨RX7, "adopts", "()V"⟩
abbrev cX7_begins : ByteArray := prog_9_method_19_code
def yX7_begins : MethodName := ⟨RX7, "begins", "([I)V"⟩
abbrev cX7_isChild : ByteArray := prog_9_method_20_code
def yX7_isChild : MethodName := ⟨RX7, "isChild", "(I)Z"⟩
abbrev cX7_isSort : ByteArray := prog_9_method_21_code
def yX7_isSort : MethodName := ⟨RX7, "isSort", "(I)Z"⟩
abbrev cX7_isDay : ByteArray := prog_9_method_22_code
def yX7_isDay : MethodName := ⟨RX7, "isDay", "(I)Z"⟩
abbrev cX7_child : ByteArray := prog_9_method_23_code
def yX7_child : MethodName := ⟨RX7, "child", "(II)I"⟩
abbrev cX7_book : ByteArray := prog_9_method_24_code
def yX7_book : MethodName := ⟨RX7, "book", "(II)I"⟩
abbrev cX7_plan : ByteArray := prog_9_method_25_code
def yX7_plan : MethodName := ⟨RX7, "plan", "(I)I"⟩
abbrev cX7_tune : ByteArray := prog_9_method_26_code
def yX7_tune : MethodName := ⟨RX7, "tune", "(II)I"⟩
abbrev cX7_givenOf : ByteArray := prog_9_method_27_code
def yX7_givenOf : MethodName := ⟨RX7, "givenOf", "(II)I"⟩
abbrev cX7_given : ByteArray := prog_9_method_28_code
def yX7_given : MethodName := ⟨RX7, "given", "(II)I"⟩
abbrev cX7_pagesOf : ByteArray := prog_9_method_29_code
def yX7_pagesOf : MethodName := ⟨RX7, "pagesOf", "(II)I"⟩
abbrev cX7_joysOf : ByteArray := prog_9_method_30_code
def yX7_joysOf : MethodName := ⟨RX7, "joysOf", "([III)I"⟩
abbrev cX7_starsOf : ByteArray := prog_9_method_31_code
def yX7_starsOf : MethodName := ⟨RX7, "starsOf", "([IIII)I"⟩
abbrev cX7_wantOf : ByteArray := prog_9_method_32_code
def yX7_wantOf : MethodName := ⟨RX7, "wantOf", "([IIII)I"⟩
abbrev cX7_choiceOf : ByteArray := prog_9_method_33_code
def yX7_choiceOf : MethodName := ⟨RX7, "choiceOf", "([III)I"⟩
abbrev cX7_want : ByteArray := prog_9_method_34_code
def yX7_want : MethodName := ⟨RX7, "want", "(III)I"⟩
abbrev cX7_choice : ByteArray := prog_9_method_35_code
def yX7_choice : MethodName := ⟨RX7, "choice", "(I)I"⟩
abbrev cX7_within : ByteArray := prog_9_method_36_code
def yX7_within : MethodName := ⟨RX7, "within", "(I)I"⟩
abbrev cX7_goesBy : ByteArray := prog_9_method_37_code
def yX7_goesBy : MethodName := ⟨RX7, "goesBy", "([I)I"⟩
abbrev cX7_go : ByteArray := prog_9_method_38_code
def yX7_go : MethodName := ⟨RX7, "go", "(I)I"⟩
abbrev cX7_allOf : ByteArray := prog_9_method_39_code
def yX7_allOf : MethodName := ⟨RX7, "allOf", "([II)I"⟩
abbrev cX7_now : ByteArray := prog_9_method_40_code
def yX7_now : MethodName := ⟨RX7, "now", "(I)I"⟩
abbrev cX7_anew : ByteArray := prog_9_method_41_code
def yX7_anew : MethodName := ⟨RX7, "anew", "()I"⟩
abbrev cX7_pagesBy : ByteArray := prog_9_method_42_code
def yX7_pagesBy : MethodName := ⟨RX7, "pagesBy", "(II)I"⟩
abbrev cX7_term : ByteArray := prog_9_method_43_code
def yX7_term : MethodName := ⟨RX7, "term", "(I)I"⟩
abbrev cX7_endOn : ByteArray := prog_9_method_44_code
def yX7_endOn : MethodName := ⟨RX7, "endOn", "(I)I"⟩
abbrev cX7_end : ByteArray := prog_9_method_45_code
def yX7_end : MethodName := ⟨RX7, "end", "(I)I"⟩
abbrev cX7_aside : ByteArray := prog_9_method_46_code
def yX7_aside : MethodName := ⟨RX7, "aside", "(Z)V"⟩
abbrev cX7_best : ByteArray := prog_9_method_47_code
def yX7_best : MethodName := ⟨RX7, "best", "(III)I"⟩
abbrev cX7_line : ByteArray := prog_9_method_48_code
def yX7_line : MethodName := ⟨RX7, "line", "(III)I"⟩
abbrev cX7_ending : ByteArray := prog_9_method_49_code
def yX7_ending : MethodName := ⟨RX7, "ending", "(I)I"⟩
abbrev cX7_easy : ByteArray := prog_9_method_50_code
def yX7_easy : MethodName := ⟨RX7, "easy", "()I"⟩
abbrev cX7_stays : ByteArray := prog_9_method_51_code
def yX7_stays : MethodName := ⟨RX7, "stays", "(II)I"⟩
abbrev cX7_jarSort : ByteArray := prog_9_method_52_code
def yX7_jarSort : MethodName := ⟨RX7, "jarSort", "(I)I"⟩
abbrev cX7_jarPages : ByteArray := prog_9_method_53_code
def yX7_jarPages : MethodName := ⟨RX7, "jarPages", "(I)I"⟩
abbrev cX7_jarHas : ByteArray := prog_9_method_54_code
def yX7_jarHas : MethodName := ⟨RX7, "jarHas", "(IIII)I"⟩
abbrev cX7_rests : ByteArray := prog_9_method_55_code
def yX7_rests : MethodName := ⟨RX7, "rests", "(III)I"⟩
abbrev cX7_blamed : ByteArray := prog_9_method_56_code
def yX7_blamed : MethodName := ⟨RX7, "blamed", "(II)I"⟩
abbrev cX7_checks : ByteArray := prog_9_method_57_code
def yX7_checks : MethodName := ⟨RX7, "checks", "(I)I"⟩
abbrev cX7_trial : ByteArray := prog_9_method_58_code
def yX7_trial : MethodName := ⟨RX7, "trial", "(II)I"⟩
abbrev cX7_manyOf : ByteArray := prog_9_method_59_code
def yX7_manyOf : MethodName := ⟨RX7, "manyOf", "(I)I"⟩
abbrev cX7_sumOf : ByteArray := prog_9_method_60_code
def yX7_sumOf : MethodName := ⟨RX7, "sumOf", "(I)I"⟩
abbrev cX7_gcd : ByteArray := prog_9_method_61_code
def yX7_gcd : MethodName := ⟨RX7, "gcd", "(II)I"⟩
abbrev cX7_meanOf : ByteArray := prog_9_method_62_code
def yX7_meanOf : MethodName := ⟨RX7, "meanOf", "(II)I"⟩
abbrev cX7_joined : ByteArray := prog_9_method_63_code
def yX7_joined : MethodName := ⟨RX7, "joined", "(II)I"⟩
abbrev cX7_parts : ByteArray := prog_9_method_64_code
def yX7_parts : MethodName := ⟨RX7, "parts", "()I"⟩
abbrev cX7_ahead : ByteArray := prog_9_method_65_code
def yX7_ahead : MethodName := ⟨RX7, "ahead", "(II)I"⟩
abbrev cX7_halves : ByteArray := prog_9_method_66_code
def yX7_halves : MethodName := ⟨RX7, "halves", "(I)I"⟩
abbrev cX7_lot : ByteArray := prog_9_method_67_code
def yX7_lot : MethodName := ⟨RX7, "lot", "(I)I"⟩
abbrev cX7_rate : ByteArray := prog_9_method_68_code
def yX7_rate : MethodName := ⟨RX7, "rate", "(II)I"⟩
abbrev cX7_keep : ByteArray := prog_9_method_69_code
def yX7_keep : MethodName := ⟨RX7, "keep", "(I)I"⟩
abbrev cX7_back : ByteArray := prog_9_method_70_code
def yX7_back : MethodName := ⟨RX7, "back", "(I)I"⟩
abbrev cX7_count : ByteArray := prog_9_method_71_code
def yX7_count : MethodName := ⟨RX7, "count", "(I)I"⟩
abbrev cX7_trace : ByteArray := prog_9_method_72_code
def yX7_trace : MethodName := ⟨RX7, "trace", "()J"⟩
def RJ9 : String := "java/lang/Math"
def TJ9 : u_T := fun k => match k with
  | _ => ("", "", "", false)
def tyJ9 : Nat → FieldType := fun k => match k with
  | _ => .int
abbrev wsJ90 : List Cond := u_ws RJ9 TJ9 0
theorem nmJ9 : ∀ a, a < 0 → ∀ b, b < 0 → a ≠ b → (TJ9 a).2.1 ≠ (TJ9 b).2.1 := by decide +kernel
theorem tyJ9_ok : ∀ k, k < 0 → parseFieldDescriptor (TJ9 k).2.2.1 = some (tyJ9 k) := by decide +kernel
abbrev cJ9_abs_0f7a4 : ByteArray := prog_10_method_59_code
def yJ9_abs_0f7a4 : MethodName := ⟨RJ9, "abs", "(I)I"⟩
abbrev cJ9_max_7cf53 : ByteArray := prog_10_method_65_code
def yJ9_max_7cf53 : MethodName := ⟨RJ9, "max", "(II)I"⟩
abbrev cJ9_min_7cf53 : ByteArray := prog_10_method_69_code
def yJ9_min_7cf53 : MethodName := ⟨RJ9, "min", "(II)I"⟩
def RJ0 : String := "java/lang/String"
def TJ0 : u_T := fun k => match k with
  | _ => ("", "", "", false)
def tyJ0 : Nat → FieldType := fun k => match k with
  | _ => .int
abbrev wsJ00 : List Cond := u_ws RJ0 TJ0 0
theorem nmJ0 : ∀ a, a < 0 → ∀ b, b < 0 → a ≠ b → (TJ0 a).2.1 ≠ (TJ0 b).2.1 := by decide +kernel
theorem tyJ0_ok : ∀ k, k < 0 → parseFieldDescriptor (TJ0 k).2.2.1 = some (tyJ0 k) := by decide +kernel
abbrev cJ0_length_8abf5 : ByteArray := prog_11_method_54_code
def yJ0_length_8abf5 : MethodName := ⟨RJ0, "length", "()I"⟩
abbrev cJ0_charAt_5068e : ByteArray := prog_11_method_56_code
def yJ0_charAt_5068e : MethodName := ⟨RJ0, "charAt", "(I)C"⟩
abbrev cJ0_coder_7d493 : ByteArray := prog_11_method_152_code
def yJ0_coder_7d493 : MethodName := ⟨RJ0, "coder", "()B"⟩
abbrev cJ0_isLatin1_aae02 : ByteArray := prog_11_method_154_code
def yJ0_isLatin1_aae02 : MethodName := ⟨RJ0, "isLatin1", "()Z"⟩
abbrev cJ0_checkIndex_df160 : ByteArray := prog_11_method_155_code
def yJ0_checkIndex_df160 : MethodName := ⟨RJ0, "checkIndex", "(II)V"⟩
def RJ1 : String := "java/lang/StringLatin1"
def TJ1 : u_T := fun k => match k with
  | _ => ("", "", "", false)
def tyJ1 : Nat → FieldType := fun k => match k with
  | _ => .int
abbrev wsJ10 : List Cond := u_ws RJ1 TJ1 0
theorem nmJ1 : ∀ a, a < 0 → ∀ b, b < 0 → a ≠ b → (TJ1 a).2.1 ≠ (TJ1 b).2.1 := by decide +kernel
theorem tyJ1_ok : ∀ k, k < 0 → parseFieldDescriptor (TJ1 k).2.2.1 = some (tyJ1 k) := by decide +kernel
abbrev cJ1_charAt_3b067 : ByteArray := prog_12_method_2_code
def yJ1_charAt_3b067 : MethodName := ⟨RJ1, "charAt", "([BI)C"⟩
def RJ2 : String := "java/lang/StringUTF16"
def TJ2 : u_T := fun k => match k with
  | _ => ("", "", "", false)
def tyJ2 : Nat → FieldType := fun k => match k with
  | _ => .int
abbrev wsJ20 : List Cond := u_ws RJ2 TJ2 0
theorem nmJ2 : ∀ a, a < 0 → ∀ b, b < 0 → a ≠ b → (TJ2 a).2.1 ≠ (TJ2 b).2.1 := by decide +kernel
theorem tyJ2_ok : ∀ k, k < 0 → parseFieldDescriptor (TJ2 k).2.2.1 = some (tyJ2 k) := by decide +kernel
abbrev cJ2_getChar_3b067 : ByteArray := prog_13_method_5_code
def yJ2_getChar_3b067 : MethodName := ⟨RJ2, "getChar", "([BI)C"⟩
abbrev cJ2_length_9d52b : ByteArray := prog_13_method_6_code
def yJ2_length_9d52b : MethodName := ⟨RJ2, "length", "([B)I"⟩
abbrev cJ2_charAt_3b067 : ByteArray := prog_13_method_83_code
def yJ2_charAt_3b067 : MethodName := ⟨RJ2, "charAt", "([BI)C"⟩
abbrev cJ2_checkIndex_2214a : ByteArray := prog_13_method_91_code
def yJ2_checkIndex_2214a : MethodName := ⟨RJ2, "checkIndex", "(I[B)V"⟩
def RJ10 : String := "java/lang/System"
def TJ10 : u_T := fun k => match k with
  | _ => ("", "", "", false)
def tyJ10 : Nat → FieldType := fun k => match k with
  | _ => .int
abbrev wsJ100 : List Cond := u_ws RJ10 TJ10 0
theorem nmJ10 : ∀ a, a < 0 → ∀ b, b < 0 → a ≠ b → (TJ10 a).2.1 ≠ (TJ10 b).2.1 := by decide +kernel
theorem tyJ10_ok : ∀ k, k < 0 → parseFieldDescriptor (TJ10 k).2.2.1 = some (tyJ10 k) := by decide +kernel
def RJ3 : String := "jdk/internal/util/Preconditions"
def TJ3 : u_T := fun k => match k with
  | _ => ("", "", "", false)
def tyJ3 : Nat → FieldType := fun k => match k with
  | _ => .int
abbrev wsJ30 : List Cond := u_ws RJ3 TJ3 0
theorem nmJ3 : ∀ a, a < 0 → ∀ b, b < 0 → a ≠ b → (TJ3 a).2.1 ≠ (TJ3 b).2.1 := by decide +kernel
theorem tyJ3_ok : ∀ k, k < 0 → parseFieldDescriptor (TJ3 k).2.2.1 = some (tyJ3 k) := by decide +kernel
abbrev cJ3_checkIndex_8e157 : ByteArray := prog_15_method_11_code
def yJ3_checkIndex_8e157 : MethodName := ⟨RJ3, "checkIndex", "(IILjava/util/function/BiFunction;)I"⟩
def RL : String := "StarChartLaw"
abbrev cL_law : ByteArray := code
def yL_law : MethodName := ⟨RL, "law", "([I)Z"⟩
abbrev vwCl : List vw_C := [(RX0, TX0, 5), (RX1, TX1, 3), (RX2, TX2, 5), (RX3, TX3, 7), (RX4, TX4, 12), (RX5, TX5, 3), (RX6, TX6, 12), (RX7, TX7, 20)]
