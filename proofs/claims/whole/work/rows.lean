section
-- ===== PART A: goes FIRST, ahead of the names: the tables' words, and 'selects' of the private methods out of them =====
/-- a private method of a class that the tables say can be made, by its rows of tables_1 -/
def lw_okq (q : MethodName × Nat) : Prop := (q.1.cls ≠ "java/lang/invoke/MethodHandle" ∧ q.1.cls ≠ "java/lang/invoke/VarHandle") ∧ Cond.instantiable q.1.cls q.2 ∈ tables_1 ∧ Cond.privateMethod q.1 ∈ tables_1 ∧ Cond.instanceMethod q.1 ∈ tables_1
theorem lw_p0 : lw_okq (⟨"StarChart$Reader", "cut", "()V"⟩, 7) := ⟨⟨by decide +kernel, by decide +kernel⟩, List.mem_of_getElem? (i := 89) (by decide +kernel), List.mem_of_getElem? (i := 294) (by decide +kernel), List.mem_of_getElem? (i := 295) (by decide +kernel)⟩
theorem lw_p1 : lw_okq (⟨"StarChart$Reader", "rowEnd", "(I)I"⟩, 7) := ⟨⟨by decide +kernel, by decide +kernel⟩, List.mem_of_getElem? (i := 89) (by decide +kernel), List.mem_of_getElem? (i := 298) (by decide +kernel), List.mem_of_getElem? (i := 299) (by decide +kernel)⟩
theorem lw_p2 : lw_okq (⟨"StarChart$Reader", "tokenOf", "(II)I"⟩, 7) := ⟨⟨by decide +kernel, by decide +kernel⟩, List.mem_of_getElem? (i := 89) (by decide +kernel), List.mem_of_getElem? (i := 308) (by decide +kernel), List.mem_of_getElem? (i := 309) (by decide +kernel)⟩
theorem lw_p3 : lw_okq (⟨"StarChart$Reader", "numberOf", "(II)I"⟩, 7) := ⟨⟨by decide +kernel, by decide +kernel⟩, List.mem_of_getElem? (i := 89) (by decide +kernel), List.mem_of_getElem? (i := 312) (by decide +kernel), List.mem_of_getElem? (i := 313) (by decide +kernel)⟩
theorem lw_p4 : lw_okq (⟨"StarChart$Reader", "spells", "(IILjava/lang/String;)Z"⟩, 7) := ⟨⟨by decide +kernel, by decide +kernel⟩, List.mem_of_getElem? (i := 89) (by decide +kernel), List.mem_of_getElem? (i := 317) (by decide +kernel), List.mem_of_getElem? (i := 318) (by decide +kernel)⟩
theorem lw_p5 : lw_okq (⟨"StarChart$Reader", "seen", "()I"⟩, 7) := ⟨⟨by decide +kernel, by decide +kernel⟩, List.mem_of_getElem? (i := 89) (by decide +kernel), List.mem_of_getElem? (i := 375) (by decide +kernel), List.mem_of_getElem? (i := 376) (by decide +kernel)⟩
theorem lw_p6 : lw_okq (⟨"StarChart$Reader", "readItem", "()Z"⟩, 7) := ⟨⟨by decide +kernel, by decide +kernel⟩, List.mem_of_getElem? (i := 89) (by decide +kernel), List.mem_of_getElem? (i := 379) (by decide +kernel), List.mem_of_getElem? (i := 380) (by decide +kernel)⟩
theorem lw_p7 : lw_okq (⟨"StarChart$Reader", "readChild", "()Z"⟩, 7) := ⟨⟨by decide +kernel, by decide +kernel⟩, List.mem_of_getElem? (i := 89) (by decide +kernel), List.mem_of_getElem? (i := 383) (by decide +kernel), List.mem_of_getElem? (i := 384) (by decide +kernel)⟩
theorem lw_p8 : lw_okq (⟨"StarChart$Reader", "readNumber", "(II)I"⟩, 7) := ⟨⟨by decide +kernel, by decide +kernel⟩, List.mem_of_getElem? (i := 89) (by decide +kernel), List.mem_of_getElem? (i := 387) (by decide +kernel), List.mem_of_getElem? (i := 388) (by decide +kernel)⟩
theorem lw_p9 : lw_okq (⟨"StarChart$Reader", "readBook", "()Z"⟩, 7) := ⟨⟨by decide +kernel, by decide +kernel⟩, List.mem_of_getElem? (i := 89) (by decide +kernel), List.mem_of_getElem? (i := 396) (by decide +kernel), List.mem_of_getElem? (i := 397) (by decide +kernel)⟩
theorem lw_p10 : lw_okq (⟨"StarChart$Reader", "readPlan", "()Z"⟩, 7) := ⟨⟨by decide +kernel, by decide +kernel⟩, List.mem_of_getElem? (i := 89) (by decide +kernel), List.mem_of_getElem? (i := 404) (by decide +kernel), List.mem_of_getElem? (i := 405) (by decide +kernel)⟩
theorem lw_p11 : lw_okq (⟨"StarChart$Reader", "readWord", "(I)Z"⟩, 7) := ⟨⟨by decide +kernel, by decide +kernel⟩, List.mem_of_getElem? (i := 89) (by decide +kernel), List.mem_of_getElem? (i := 408) (by decide +kernel), List.mem_of_getElem? (i := 409) (by decide +kernel)⟩
theorem lw_p12 : lw_okq (⟨"StarChart$Reader", "readPay", "()Z"⟩, 7) := ⟨⟨by decide +kernel, by decide +kernel⟩, List.mem_of_getElem? (i := 89) (by decide +kernel), List.mem_of_getElem? (i := 413) (by decide +kernel), List.mem_of_getElem? (i := 414) (by decide +kernel)⟩
theorem lw_p13 : lw_okq (⟨"StarChart", "isChild", "(I)Z"⟩, 12) := ⟨⟨by decide +kernel, by decide +kernel⟩, List.mem_of_getElem? (i := 16) (by decide +kernel), List.mem_of_getElem? (i := 431) (by decide +kernel), List.mem_of_getElem? (i := 432) (by decide +kernel)⟩
theorem lw_p14 : lw_okq (⟨"StarChart", "isSort", "(I)Z"⟩, 12) := ⟨⟨by decide +kernel, by decide +kernel⟩, List.mem_of_getElem? (i := 16) (by decide +kernel), List.mem_of_getElem? (i := 439) (by decide +kernel), List.mem_of_getElem? (i := 440) (by decide +kernel)⟩
theorem lw_p15 : lw_okq (⟨"StarChart$Course", "likingBehind", "(LStarChart$Sheet;[III)I"⟩, 5) := ⟨⟨by decide +kernel, by decide +kernel⟩, List.mem_of_getElem? (i := 121) (by decide +kernel), List.mem_of_getElem? (i := 509) (by decide +kernel), List.mem_of_getElem? (i := 510) (by decide +kernel)⟩
def lw_privs_1 : List (MethodName × Nat) := [(⟨"StarChart$Reader", "cut", "()V"⟩, 7), (⟨"StarChart$Reader", "rowEnd", "(I)I"⟩, 7), (⟨"StarChart$Reader", "tokenOf", "(II)I"⟩, 7), (⟨"StarChart$Reader", "numberOf", "(II)I"⟩, 7), (⟨"StarChart$Reader", "spells", "(IILjava/lang/String;)Z"⟩, 7), (⟨"StarChart$Reader", "seen", "()I"⟩, 7), (⟨"StarChart$Reader", "readItem", "()Z"⟩, 7), (⟨"StarChart$Reader", "readChild", "()Z"⟩, 7), (⟨"StarChart$Reader", "readNumber", "(II)I"⟩, 7), (⟨"StarChart$Reader", "readBook", "()Z"⟩, 7), (⟨"StarChart$Reader", "readPlan", "()Z"⟩, 7), (⟨"StarChart$Reader", "readWord", "(I)Z"⟩, 7), (⟨"StarChart$Reader", "readPay", "()Z"⟩, 7), (⟨"StarChart", "isChild", "(I)Z"⟩, 12), (⟨"StarChart", "isSort", "(I)Z"⟩, 12), (⟨"StarChart$Course", "likingBehind", "(LStarChart$Sheet;[III)I"⟩, 5)]
theorem lw_r1 : ∀ q ∈ lw_privs_1, lw_okq q := List.forall_mem_cons.mpr ⟨lw_p0, List.forall_mem_cons.mpr ⟨lw_p1, List.forall_mem_cons.mpr ⟨lw_p2, List.forall_mem_cons.mpr ⟨lw_p3, List.forall_mem_cons.mpr ⟨lw_p4, List.forall_mem_cons.mpr ⟨lw_p5, List.forall_mem_cons.mpr ⟨lw_p6, List.forall_mem_cons.mpr ⟨lw_p7, List.forall_mem_cons.mpr ⟨lw_p8, List.forall_mem_cons.mpr ⟨lw_p9, List.forall_mem_cons.mpr ⟨lw_p10, List.forall_mem_cons.mpr ⟨lw_p11, List.forall_mem_cons.mpr ⟨lw_p12, List.forall_mem_cons.mpr ⟨lw_p13, List.forall_mem_cons.mpr ⟨lw_p14, List.forall_mem_cons.mpr ⟨lw_p15, fun _ h => absurd h List.not_mem_nil⟩⟩⟩⟩⟩⟩⟩⟩⟩⟩⟩⟩⟩⟩⟩⟩
theorem lw_p16 : lw_okq (⟨"StarChart$Course", "worthBehind", "(LStarChart$Sheet;[II)I"⟩, 5) := ⟨⟨by decide +kernel, by decide +kernel⟩, List.mem_of_getElem? (i := 121) (by decide +kernel), List.mem_of_getElem? (i := 517) (by decide +kernel), List.mem_of_getElem? (i := 518) (by decide +kernel)⟩
theorem lw_p17 : lw_okq (⟨"StarChart", "pagesBetween", "(II)I"⟩, 12) := ⟨⟨by decide +kernel, by decide +kernel⟩, List.mem_of_getElem? (i := 16) (by decide +kernel), List.mem_of_getElem? (i := 541) (by decide +kernel), List.mem_of_getElem? (i := 542) (by decide +kernel)⟩
theorem lw_p18 : lw_okq (⟨"StarChart", "likingOn", "(I)I"⟩, 12) := ⟨⟨by decide +kernel, by decide +kernel⟩, List.mem_of_getElem? (i := 16) (by decide +kernel), List.mem_of_getElem? (i := 550) (by decide +kernel), List.mem_of_getElem? (i := 551) (by decide +kernel)⟩
theorem lw_p19 : lw_okq (⟨"StarChart", "fillJar", "(II)V"⟩, 12) := ⟨⟨by decide +kernel, by decide +kernel⟩, List.mem_of_getElem? (i := 16) (by decide +kernel), List.mem_of_getElem? (i := 583) (by decide +kernel), List.mem_of_getElem? (i := 584) (by decide +kernel)⟩
theorem lw_p20 : lw_okq (⟨"StarChart$Jar", "hasBy", "(II)I"⟩, 5) := ⟨⟨by decide +kernel, by decide +kernel⟩, List.mem_of_getElem? (i := 186) (by decide +kernel), List.mem_of_getElem? (i := 592) (by decide +kernel), List.mem_of_getElem? (i := 593) (by decide +kernel)⟩
theorem lw_p21 : lw_okq (⟨"StarChart$Jar", "pagesOf", "(I)I"⟩, 5) := ⟨⟨by decide +kernel, by decide +kernel⟩, List.mem_of_getElem? (i := 186) (by decide +kernel), List.mem_of_getElem? (i := 596) (by decide +kernel), List.mem_of_getElem? (i := 597) (by decide +kernel)⟩
theorem lw_p22 : lw_okq (⟨"StarChart$Trials", "sumOf", "(I)I"⟩, 3) := ⟨⟨by decide +kernel, by decide +kernel⟩, List.mem_of_getElem? (i := 169) (by decide +kernel), List.mem_of_getElem? (i := 629) (by decide +kernel), List.mem_of_getElem? (i := 630) (by decide +kernel)⟩
theorem lw_p23 : lw_okq (⟨"StarChart", "rateOfPay", "(I)I"⟩, 12) := ⟨⟨by decide +kernel, by decide +kernel⟩, List.mem_of_getElem? (i := 16) (by decide +kernel), List.mem_of_getElem? (i := 669) (by decide +kernel), List.mem_of_getElem? (i := 670) (by decide +kernel)⟩
theorem lw_p24 : lw_okq (⟨"StarChart", "rateOfTold", "(I)I"⟩, 12) := ⟨⟨by decide +kernel, by decide +kernel⟩, List.mem_of_getElem? (i := 16) (by decide +kernel), List.mem_of_getElem? (i := 673) (by decide +kernel), List.mem_of_getElem? (i := 674) (by decide +kernel)⟩
theorem lw_p25 : lw_okq (⟨"StarChart", "rateOfUnforeseen", "(I)I"⟩, 12) := ⟨⟨by decide +kernel, by decide +kernel⟩, List.mem_of_getElem? (i := 16) (by decide +kernel), List.mem_of_getElem? (i := 678) (by decide +kernel), List.mem_of_getElem? (i := 679) (by decide +kernel)⟩
theorem lw_p26 : lw_okq (⟨"StarChart", "rateOfDoing", "(I)I"⟩, 12) := ⟨⟨by decide +kernel, by decide +kernel⟩, List.mem_of_getElem? (i := 16) (by decide +kernel), List.mem_of_getElem? (i := 683) (by decide +kernel), List.mem_of_getElem? (i := 684) (by decide +kernel)⟩
theorem lw_p27 : lw_okq (⟨"StarChart", "rateOfWell", "(I)I"⟩, 12) := ⟨⟨by decide +kernel, by decide +kernel⟩, List.mem_of_getElem? (i := 16) (by decide +kernel), List.mem_of_getElem? (i := 688) (by decide +kernel), List.mem_of_getElem? (i := 689) (by decide +kernel)⟩
theorem lw_p28 : lw_okq (⟨"StarChart", "rateOfCommon", "(I)I"⟩, 12) := ⟨⟨by decide +kernel, by decide +kernel⟩, List.mem_of_getElem? (i := 16) (by decide +kernel), List.mem_of_getElem? (i := 693) (by decide +kernel), List.mem_of_getElem? (i := 694) (by decide +kernel)⟩
theorem lw_p29 : lw_okq (⟨"StarChart", "imageOf", "(I)LStarChart$Image;"⟩, 12) := ⟨⟨by decide +kernel, by decide +kernel⟩, List.mem_of_getElem? (i := 16) (by decide +kernel), List.mem_of_getElem? (i := 702) (by decide +kernel), List.mem_of_getElem? (i := 703) (by decide +kernel)⟩
theorem lw_p30 : lw_okq (⟨"StarChartModel", "drafts", "()V"⟩, 20) := ⟨⟨by decide +kernel, by decide +kernel⟩, List.mem_of_getElem? (i := 723) (by decide +kernel), List.mem_of_getElem? (i := 729) (by decide +kernel), List.mem_of_getElem? (i := 730) (by decide +kernel)⟩
theorem lw_p31 : lw_okq (⟨"StarChartModel", "adopts", "()V"⟩, 20) := ⟨⟨by decide +kernel, by decide +kernel⟩, List.mem_of_getElem? (i := 723) (by decide +kernel), List.mem_of_getElem? (i := 733) (by decide +kernel), List.mem_of_getElem? (i := 734) (by decide +kernel)⟩
def lw_privs_2 : List (MethodName × Nat) := [(⟨"StarChart$Course", "worthBehind", "(LStarChart$Sheet;[II)I"⟩, 5), (⟨"StarChart", "pagesBetween", "(II)I"⟩, 12), (⟨"StarChart", "likingOn", "(I)I"⟩, 12), (⟨"StarChart", "fillJar", "(II)V"⟩, 12), (⟨"StarChart$Jar", "hasBy", "(II)I"⟩, 5), (⟨"StarChart$Jar", "pagesOf", "(I)I"⟩, 5), (⟨"StarChart$Trials", "sumOf", "(I)I"⟩, 3), (⟨"StarChart", "rateOfPay", "(I)I"⟩, 12), (⟨"StarChart", "rateOfTold", "(I)I"⟩, 12), (⟨"StarChart", "rateOfUnforeseen", "(I)I"⟩, 12), (⟨"StarChart", "rateOfDoing", "(I)I"⟩, 12), (⟨"StarChart", "rateOfWell", "(I)I"⟩, 12), (⟨"StarChart", "rateOfCommon", "(I)I"⟩, 12), (⟨"StarChart", "imageOf", "(I)LStarChart$Image;"⟩, 12), (⟨"StarChartModel", "drafts", "()V"⟩, 20), (⟨"StarChartModel", "adopts", "()V"⟩, 20)]
theorem lw_r2 : ∀ q ∈ lw_privs_2, lw_okq q := List.forall_mem_cons.mpr ⟨lw_p16, List.forall_mem_cons.mpr ⟨lw_p17, List.forall_mem_cons.mpr ⟨lw_p18, List.forall_mem_cons.mpr ⟨lw_p19, List.forall_mem_cons.mpr ⟨lw_p20, List.forall_mem_cons.mpr ⟨lw_p21, List.forall_mem_cons.mpr ⟨lw_p22, List.forall_mem_cons.mpr ⟨lw_p23, List.forall_mem_cons.mpr ⟨lw_p24, List.forall_mem_cons.mpr ⟨lw_p25, List.forall_mem_cons.mpr ⟨lw_p26, List.forall_mem_cons.mpr ⟨lw_p27, List.forall_mem_cons.mpr ⟨lw_p28, List.forall_mem_cons.mpr ⟨lw_p29, List.forall_mem_cons.mpr ⟨lw_p30, List.forall_mem_cons.mpr ⟨lw_p31, fun _ h => absurd h List.not_mem_nil⟩⟩⟩⟩⟩⟩⟩⟩⟩⟩⟩⟩⟩⟩⟩⟩
theorem lw_p32 : lw_okq (⟨"StarChartModel", "begins", "([I)V"⟩, 20) := ⟨⟨by decide +kernel, by decide +kernel⟩, List.mem_of_getElem? (i := 723) (by decide +kernel), List.mem_of_getElem? (i := 737) (by decide +kernel), List.mem_of_getElem? (i := 738) (by decide +kernel)⟩
theorem lw_p33 : lw_okq (⟨"StarChartModel", "advances", "()V"⟩, 20) := ⟨⟨by decide +kernel, by decide +kernel⟩, List.mem_of_getElem? (i := 723) (by decide +kernel), List.mem_of_getElem? (i := 819) (by decide +kernel), List.mem_of_getElem? (i := 820) (by decide +kernel)⟩
theorem lw_p34 : lw_okq (⟨"StarChartModel", "byteAt", "(I)I"⟩, 20) := ⟨⟨by decide +kernel, by decide +kernel⟩, List.mem_of_getElem? (i := 723) (by decide +kernel), List.mem_of_getElem? (i := 823) (by decide +kernel), List.mem_of_getElem? (i := 824) (by decide +kernel)⟩
theorem lw_p35 : lw_okq (⟨"StarChartModel", "isWell", "()Z"⟩, 20) := ⟨⟨by decide +kernel, by decide +kernel⟩, List.mem_of_getElem? (i := 723) (by decide +kernel), List.mem_of_getElem? (i := 837) (by decide +kernel), List.mem_of_getElem? (i := 838) (by decide +kernel)⟩
theorem lw_p36 : lw_okq (⟨"StarChartModel", "takes", "(Z)I"⟩, 20) := ⟨⟨by decide +kernel, by decide +kernel⟩, List.mem_of_getElem? (i := 723) (by decide +kernel), List.mem_of_getElem? (i := 841) (by decide +kernel), List.mem_of_getElem? (i := 842) (by decide +kernel)⟩
theorem lw_p37 : lw_okq (⟨"StarChartModel", "readsItem", "(I)V"⟩, 20) := ⟨⟨by decide +kernel, by decide +kernel⟩, List.mem_of_getElem? (i := 723) (by decide +kernel), List.mem_of_getElem? (i := 845) (by decide +kernel), List.mem_of_getElem? (i := 846) (by decide +kernel)⟩
theorem lw_p38 : lw_okq (⟨"StarChartModel", "number", "(II)I"⟩, 20) := ⟨⟨by decide +kernel, by decide +kernel⟩, List.mem_of_getElem? (i := 723) (by decide +kernel), List.mem_of_getElem? (i := 849) (by decide +kernel), List.mem_of_getElem? (i := 850) (by decide +kernel)⟩
theorem lw_p39 : lw_okq (⟨"StarChartModel", "takesWord", "(I)Z"⟩, 20) := ⟨⟨by decide +kernel, by decide +kernel⟩, List.mem_of_getElem? (i := 723) (by decide +kernel), List.mem_of_getElem? (i := 853) (by decide +kernel), List.mem_of_getElem? (i := 854) (by decide +kernel)⟩
theorem lw_p40 : lw_okq (⟨"StarChartModel", "isChild", "(I)Z"⟩, 20) := ⟨⟨by decide +kernel, by decide +kernel⟩, List.mem_of_getElem? (i := 723) (by decide +kernel), List.mem_of_getElem? (i := 861) (by decide +kernel), List.mem_of_getElem? (i := 862) (by decide +kernel)⟩
theorem lw_p41 : lw_okq (⟨"StarChartModel", "isSort", "(I)Z"⟩, 20) := ⟨⟨by decide +kernel, by decide +kernel⟩, List.mem_of_getElem? (i := 723) (by decide +kernel), List.mem_of_getElem? (i := 869) (by decide +kernel), List.mem_of_getElem? (i := 870) (by decide +kernel)⟩
theorem lw_p42 : lw_okq (⟨"StarChartModel", "givenOf", "(II)I"⟩, 20) := ⟨⟨by decide +kernel, by decide +kernel⟩, List.mem_of_getElem? (i := 723) (by decide +kernel), List.mem_of_getElem? (i := 888) (by decide +kernel), List.mem_of_getElem? (i := 889) (by decide +kernel)⟩
theorem lw_p43 : lw_okq (⟨"StarChartModel", "pagesOf", "(II)I"⟩, 20) := ⟨⟨by decide +kernel, by decide +kernel⟩, List.mem_of_getElem? (i := 723) (by decide +kernel), List.mem_of_getElem? (i := 896) (by decide +kernel), List.mem_of_getElem? (i := 897) (by decide +kernel)⟩
theorem lw_p44 : lw_okq (⟨"StarChartModel", "joysOf", "([III)I"⟩, 20) := ⟨⟨by decide +kernel, by decide +kernel⟩, List.mem_of_getElem? (i := 723) (by decide +kernel), List.mem_of_getElem? (i := 900) (by decide +kernel), List.mem_of_getElem? (i := 901) (by decide +kernel)⟩
theorem lw_p45 : lw_okq (⟨"StarChartModel", "starsOf", "([IIII)I"⟩, 20) := ⟨⟨by decide +kernel, by decide +kernel⟩, List.mem_of_getElem? (i := 723) (by decide +kernel), List.mem_of_getElem? (i := 904) (by decide +kernel), List.mem_of_getElem? (i := 905) (by decide +kernel)⟩
theorem lw_p46 : lw_okq (⟨"StarChartModel", "wantOf", "([IIII)I"⟩, 20) := ⟨⟨by decide +kernel, by decide +kernel⟩, List.mem_of_getElem? (i := 723) (by decide +kernel), List.mem_of_getElem? (i := 908) (by decide +kernel), List.mem_of_getElem? (i := 909) (by decide +kernel)⟩
theorem lw_p47 : lw_okq (⟨"StarChartModel", "choiceOf", "([III)I"⟩, 20) := ⟨⟨by decide +kernel, by decide +kernel⟩, List.mem_of_getElem? (i := 723) (by decide +kernel), List.mem_of_getElem? (i := 916) (by decide +kernel), List.mem_of_getElem? (i := 917) (by decide +kernel)⟩
def lw_privs_3 : List (MethodName × Nat) := [(⟨"StarChartModel", "begins", "([I)V"⟩, 20), (⟨"StarChartModel", "advances", "()V"⟩, 20), (⟨"StarChartModel", "byteAt", "(I)I"⟩, 20), (⟨"StarChartModel", "isWell", "()Z"⟩, 20), (⟨"StarChartModel", "takes", "(Z)I"⟩, 20), (⟨"StarChartModel", "readsItem", "(I)V"⟩, 20), (⟨"StarChartModel", "number", "(II)I"⟩, 20), (⟨"StarChartModel", "takesWord", "(I)Z"⟩, 20), (⟨"StarChartModel", "isChild", "(I)Z"⟩, 20), (⟨"StarChartModel", "isSort", "(I)Z"⟩, 20), (⟨"StarChartModel", "givenOf", "(II)I"⟩, 20), (⟨"StarChartModel", "pagesOf", "(II)I"⟩, 20), (⟨"StarChartModel", "joysOf", "([III)I"⟩, 20), (⟨"StarChartModel", "starsOf", "([IIII)I"⟩, 20), (⟨"StarChartModel", "wantOf", "([IIII)I"⟩, 20), (⟨"StarChartModel", "choiceOf", "([III)I"⟩, 20)]
theorem lw_r3 : ∀ q ∈ lw_privs_3, lw_okq q := List.forall_mem_cons.mpr ⟨lw_p32, List.forall_mem_cons.mpr ⟨lw_p33, List.forall_mem_cons.mpr ⟨lw_p34, List.forall_mem_cons.mpr ⟨lw_p35, List.forall_mem_cons.mpr ⟨lw_p36, List.forall_mem_cons.mpr ⟨lw_p37, List.forall_mem_cons.mpr ⟨lw_p38, List.forall_mem_cons.mpr ⟨lw_p39, List.forall_mem_cons.mpr ⟨lw_p40, List.forall_mem_cons.mpr ⟨lw_p41, List.forall_mem_cons.mpr ⟨lw_p42, List.forall_mem_cons.mpr ⟨lw_p43, List.forall_mem_cons.mpr ⟨lw_p44, List.forall_mem_cons.mpr ⟨lw_p45, List.forall_mem_cons.mpr ⟨lw_p46, List.forall_mem_cons.mpr ⟨lw_p47, fun _ h => absurd h List.not_mem_nil⟩⟩⟩⟩⟩⟩⟩⟩⟩⟩⟩⟩⟩⟩⟩⟩
theorem lw_p48 : lw_okq (⟨"StarChartModel", "goesBy", "([I)I"⟩, 20) := ⟨⟨by decide +kernel, by decide +kernel⟩, List.mem_of_getElem? (i := 723) (by decide +kernel), List.mem_of_getElem? (i := 924) (by decide +kernel), List.mem_of_getElem? (i := 925) (by decide +kernel)⟩
theorem lw_p49 : lw_okq (⟨"StarChartModel", "allOf", "([II)I"⟩, 20) := ⟨⟨by decide +kernel, by decide +kernel⟩, List.mem_of_getElem? (i := 723) (by decide +kernel), List.mem_of_getElem? (i := 935) (by decide +kernel), List.mem_of_getElem? (i := 936) (by decide +kernel)⟩
theorem lw_p50 : lw_okq (⟨"StarChartModel", "pagesBy", "(II)I"⟩, 20) := ⟨⟨by decide +kernel, by decide +kernel⟩, List.mem_of_getElem? (i := 723) (by decide +kernel), List.mem_of_getElem? (i := 947) (by decide +kernel), List.mem_of_getElem? (i := 948) (by decide +kernel)⟩
theorem lw_p51 : lw_okq (⟨"StarChartModel", "endOn", "(I)I"⟩, 20) := ⟨⟨by decide +kernel, by decide +kernel⟩, List.mem_of_getElem? (i := 723) (by decide +kernel), List.mem_of_getElem? (i := 955) (by decide +kernel), List.mem_of_getElem? (i := 956) (by decide +kernel)⟩
theorem lw_p52 : lw_okq (⟨"StarChartModel", "aside", "(Z)V"⟩, 20) := ⟨⟨by decide +kernel, by decide +kernel⟩, List.mem_of_getElem? (i := 723) (by decide +kernel), List.mem_of_getElem? (i := 963) (by decide +kernel), List.mem_of_getElem? (i := 964) (by decide +kernel)⟩
theorem lw_p53 : lw_okq (⟨"StarChartModel", "jarHas", "(IIII)I"⟩, 20) := ⟨⟨by decide +kernel, by decide +kernel⟩, List.mem_of_getElem? (i := 723) (by decide +kernel), List.mem_of_getElem? (i := 987) (by decide +kernel), List.mem_of_getElem? (i := 988) (by decide +kernel)⟩
theorem lw_p54 : lw_okq (⟨"StarChartModel", "jarSort", "(I)I"⟩, 20) := ⟨⟨by decide +kernel, by decide +kernel⟩, List.mem_of_getElem? (i := 723) (by decide +kernel), List.mem_of_getElem? (i := 991) (by decide +kernel), List.mem_of_getElem? (i := 992) (by decide +kernel)⟩
theorem lw_p55 : lw_okq (⟨"StarChartModel", "jarPages", "(I)I"⟩, 20) := ⟨⟨by decide +kernel, by decide +kernel⟩, List.mem_of_getElem? (i := 723) (by decide +kernel), List.mem_of_getElem? (i := 995) (by decide +kernel), List.mem_of_getElem? (i := 996) (by decide +kernel)⟩
theorem lw_p56 : lw_okq (⟨"StarChartModel", "meanOf", "(II)I"⟩, 20) := ⟨⟨by decide +kernel, by decide +kernel⟩, List.mem_of_getElem? (i := 723) (by decide +kernel), List.mem_of_getElem? (i := 1015) (by decide +kernel), List.mem_of_getElem? (i := 1016) (by decide +kernel)⟩
theorem lw_p57 : lw_okq (⟨"StarChartModel", "sumOf", "(I)I"⟩, 20) := ⟨⟨by decide +kernel, by decide +kernel⟩, List.mem_of_getElem? (i := 723) (by decide +kernel), List.mem_of_getElem? (i := 1019) (by decide +kernel), List.mem_of_getElem? (i := 1020) (by decide +kernel)⟩
theorem lw_p58 : lw_okq (⟨"StarChartModel", "manyOf", "(I)I"⟩, 20) := ⟨⟨by decide +kernel, by decide +kernel⟩, List.mem_of_getElem? (i := 723) (by decide +kernel), List.mem_of_getElem? (i := 1023) (by decide +kernel), List.mem_of_getElem? (i := 1024) (by decide +kernel)⟩
def lw_privs_4 : List (MethodName × Nat) := [(⟨"StarChartModel", "goesBy", "([I)I"⟩, 20), (⟨"StarChartModel", "allOf", "([II)I"⟩, 20), (⟨"StarChartModel", "pagesBy", "(II)I"⟩, 20), (⟨"StarChartModel", "endOn", "(I)I"⟩, 20), (⟨"StarChartModel", "aside", "(Z)V"⟩, 20), (⟨"StarChartModel", "jarHas", "(IIII)I"⟩, 20), (⟨"StarChartModel", "jarSort", "(I)I"⟩, 20), (⟨"StarChartModel", "jarPages", "(I)I"⟩, 20), (⟨"StarChartModel", "meanOf", "(II)I"⟩, 20), (⟨"StarChartModel", "sumOf", "(I)I"⟩, 20), (⟨"StarChartModel", "manyOf", "(I)I"⟩, 20)]
theorem lw_r4 : ∀ q ∈ lw_privs_4, lw_okq q := List.forall_mem_cons.mpr ⟨lw_p48, List.forall_mem_cons.mpr ⟨lw_p49, List.forall_mem_cons.mpr ⟨lw_p50, List.forall_mem_cons.mpr ⟨lw_p51, List.forall_mem_cons.mpr ⟨lw_p52, List.forall_mem_cons.mpr ⟨lw_p53, List.forall_mem_cons.mpr ⟨lw_p54, List.forall_mem_cons.mpr ⟨lw_p55, List.forall_mem_cons.mpr ⟨lw_p56, List.forall_mem_cons.mpr ⟨lw_p57, List.forall_mem_cons.mpr ⟨lw_p58, fun _ h => absurd h List.not_mem_nil⟩⟩⟩⟩⟩⟩⟩⟩⟩⟩⟩
def lw_privs : List (MethodName × Nat) := lw_privs_1 ++ (lw_privs_2 ++ (lw_privs_3 ++ (lw_privs_4)))
def lw_tbl : List Cond := k2_sels lw_privs ++ tables_1
theorem lw_privs_ok : ∀ q ∈ lw_privs, lw_okq q := by
  show ∀ q ∈ lw_privs_1 ++ (lw_privs_2 ++ (lw_privs_3 ++ (lw_privs_4))), lw_okq q
  exact List.forall_mem_append.mpr ⟨lw_r1, List.forall_mem_append.mpr ⟨lw_r2, List.forall_mem_append.mpr ⟨lw_r3, lw_r4⟩⟩⟩
def RX0 : String := "StarChart$Course"
def TX0 : u_T := fun k => match k with
  | 0 => ("StarChart$Course", "day", "I", false)
  | 1 => ("StarChart$Course", "worth", "I", false)
  | 2 => ("StarChart$Course", "liking", "[I", true)
  | 3 => ("StarChart$Course", "pages", "[I", true)
  | _ => ("StarChart$Course", "stars", "[I", true)
def tyX0 : Nat → FieldType := fun k => match k with
  | 0 => .int
  | 1 => .int
  | 2 => .array .int
  | 3 => .array .int
  | _ => .array .int
abbrev wsX00 : List Cond := u_ws RX0 TX0 5
theorem nmX0 : ∀ a, a < 5 → ∀ b, b < 5 → a ≠ b → (TX0 a).2.1 ≠ (TX0 b).2.1 := by decide +kernel
theorem tyX0_ok : ∀ k, k < 5 → parseFieldDescriptor (TX0 k).2.2.1 = some (tyX0 k) := by decide +kernel
abbrev cX0_init : ByteArray := prog_2_method_1_code
def yX0_init : MethodName := ⟨RX0, "<init>", "()V"⟩
abbrev cX0_begin : ByteArray := prog_2_method_2_code
def yX0_begin : MethodName := ⟨RX0, "begin", "(LStarChart$Sheet;I)V"⟩
abbrev cX0_copyOf : ByteArray := prog_2_method_3_code
def yX0_copyOf : MethodName := ⟨RX0, "copyOf", "(LStarChart$Course;)V"⟩
abbrev cX0_sumOf : ByteArray := prog_2_method_4_code
def yX0_sumOf : MethodName := ⟨RX0, "sumOf", "([II)I"⟩
abbrev cX0_joysOf : ByteArray := prog_2_method_5_code
def yX0_joysOf : MethodName := ⟨RX0, "joysOf", "(LStarChart$Sheet;II)I"⟩
abbrev cX0_starsFor : ByteArray := prog_2_method_6_code
def yX0_starsFor : MethodName := ⟨RX0, "starsFor", "(LStarChart$Sheet;II)I"⟩
abbrev cX0_wantOf : ByteArray := prog_2_method_7_code
def yX0_wantOf : MethodName := ⟨RX0, "wantOf", "(LStarChart$Sheet;II)I"⟩
abbrev cX0_choiceOf : ByteArray := prog_2_method_8_code
def yX0_choiceOf : MethodName := ⟨RX0, "choiceOf", "(LStarChart$Sheet;II)I"⟩
abbrev cX0_pass : ByteArray := prog_2_method_9_code
def yX0_pass : MethodName := ⟨RX0, "pass", "(LStarChart$Sheet;[I)I"⟩
abbrev cX0_likingBehind : ByteArray := prog_2_method_10_code
def yX0_likingBehind : MethodName := ⟨RX0, "likingBehind", "(LStarChart$Sheet;[III)I"⟩
abbrev cX0_worthBehind : ByteArray := prog_2_method_11_code
def yX0_worthBehind : MethodName := ⟨RX0, "worthBehind", "(LStarChart$Sheet;[II)I"⟩
def RX1 : String := "StarChart$Image"
def TX1 : u_T := fun k => match k with
  | 0 => ("StarChart$Image", "kept", "Z", false)
  | 1 => ("StarChart$Image", "chance", "I", false)
  | _ => ("StarChart$Image", "course", "LStarChart$Course;", true)
def tyX1 : Nat → FieldType := fun k => match k with
  | 0 => .boolean
  | 1 => .int
  | _ => .object "StarChart$Course"
abbrev wsX10 : List Cond := u_ws RX1 TX1 3
theorem nmX1 : ∀ a, a < 3 → ∀ b, b < 3 → a ≠ b → (TX1 a).2.1 ≠ (TX1 b).2.1 := by decide +kernel
theorem tyX1_ok : ∀ k, k < 3 → parseFieldDescriptor (TX1 k).2.2.1 = some (tyX1 k) := by decide +kernel
abbrev cX1_init : ByteArray := prog_3_method_1_code
def yX1_init : MethodName := ⟨RX1, "<init>", "()V"⟩
def RX2 : String := "StarChart$Jar"
def TX2 : u_T := fun k => match k with
  | 0 => ("StarChart$Jar", "goal", "I", false)
  | 1 => ("StarChart$Jar", "children", "I", false)
  | 2 => ("StarChart$Jar", "pages", "[I", true)
  | 3 => ("StarChart$Jar", "gain", "[I", true)
  | _ => ("StarChart$Jar", "prize", "[I", true)
def tyX2 : Nat → FieldType := fun k => match k with
  | 0 => .int
  | 1 => .int
  | 2 => .array .int
  | 3 => .array .int
  | _ => .array .int
abbrev wsX20 : List Cond := u_ws RX2 TX2 5
theorem nmX2 : ∀ a, a < 5 → ∀ b, b < 5 → a ≠ b → (TX2 a).2.1 ≠ (TX2 b).2.1 := by decide +kernel
theorem tyX2_ok : ∀ k, k < 5 → parseFieldDescriptor (TX2 k).2.2.1 = some (tyX2 k) := by decide +kernel
abbrev cX2_init : ByteArray := prog_4_method_1_code
def yX2_init : MethodName := ⟨RX2, "<init>", "()V"⟩
abbrev cX2_pagesOf : ByteArray := prog_4_method_2_code
def yX2_pagesOf : MethodName := ⟨RX2, "pagesOf", "(I)I"⟩
abbrev cX2_hasBy : ByteArray := prog_4_method_3_code
def yX2_hasBy : MethodName := ⟨RX2, "hasBy", "(II)I"⟩
abbrev cX2_isRest : ByteArray := prog_4_method_4_code
def yX2_isRest : MethodName := ⟨RX2, "isRest", "(I)Z"⟩
abbrev cX2_blamedFor : ByteArray := prog_4_method_5_code
def yX2_blamedFor : MethodName := ⟨RX2, "blamedFor", "(I)I"⟩
def RX3 : String := "StarChart$Reader"
def TX3 : u_T := fun k => match k with
  | 0 => ("StarChart$Reader", "length", "I", false)
  | 1 => ("StarChart$Reader", "text", "[I", true)
  | 2 => ("StarChart$Reader", "draft", "LStarChart$Sheet;", true)
  | 3 => ("StarChart$Reader", "token", "[I", true)
  | 4 => ("StarChart$Reader", "place", "[I", true)
  | 5 => ("StarChart$Reader", "at", "I", false)
  | _ => ("StarChart$Reader", "planned", "Z", false)
def tyX3 : Nat → FieldType := fun k => match k with
  | 0 => .int
  | 1 => .array .int
  | 2 => .object "StarChart$Sheet"
  | 3 => .array .int
  | 4 => .array .int
  | 5 => .int
  | _ => .boolean
abbrev wsX30 : List Cond := u_ws RX3 TX3 7
theorem nmX3 : ∀ a, a < 7 → ∀ b, b < 7 → a ≠ b → (TX3 a).2.1 ≠ (TX3 b).2.1 := by decide +kernel
theorem tyX3_ok : ∀ k, k < 7 → parseFieldDescriptor (TX3 k).2.2.1 = some (tyX3 k) := by decide +kernel
abbrev cX3_init : ByteArray := prog_5_method_1_code
def yX3_init : MethodName := ⟨RX3, "<init>", "()V"⟩
abbrev cX3_hear : ByteArray := prog_5_method_2_code
def yX3_hear : MethodName := ⟨RX3, "hear", "(JI)Z"⟩
abbrev cX3_readItems : ByteArray := prog_5_method_3_code
def yX3_readItems : MethodName := ⟨RX3, "readItems", "()I"⟩
abbrev cX3_fault : ByteArray := prog_5_method_4_code
def yX3_fault : MethodName := ⟨RX3, "fault", "()I"⟩
abbrev cX3_cut : ByteArray := prog_5_method_5_code
def yX3_cut : MethodName := ⟨RX3, "cut", "()V"⟩
abbrev cX3_isLetter : ByteArray := prog_5_method_6_code
def yX3_isLetter : MethodName := ⟨RX3, "isLetter", "(I)Z"⟩
abbrev cX3_isDigit : ByteArray := prog_5_method_7_code
def yX3_isDigit : MethodName := ⟨RX3, "isDigit", "(I)Z"⟩
abbrev cX3_rowEnd : ByteArray := prog_5_method_8_code
def yX3_rowEnd : MethodName := ⟨RX3, "rowEnd", "(I)I"⟩
abbrev cX3_tokenOf : ByteArray := prog_5_method_9_code
def yX3_tokenOf : MethodName := ⟨RX3, "tokenOf", "(II)I"⟩
abbrev cX3_numberOf : ByteArray := prog_5_method_10_code
def yX3_numberOf : MethodName := ⟨RX3, "numberOf", "(II)I"⟩
abbrev cX3_spells : ByteArray := prog_5_method_11_code
def yX3_spells : MethodName := ⟨RX3, "spells", "(IILjava/lang/String;)Z"⟩
abbrev cX3_seen : ByteArray := prog_5_method_12_code
def yX3_seen : MethodName := ⟨RX3, "seen", "()I"⟩
abbrev cX3_readNumber : ByteArray := prog_5_method_13_code
def yX3_readNumber : MethodName := ⟨RX3, "readNumber", "(II)I"⟩
abbrev cX3_readWord : ByteArray := prog_5_method_14_code
def yX3_readWord : MethodName := ⟨RX3, "readWord", "(I)Z"⟩
abbrev cX3_readItem : ByteArray := prog_5_method_15_code
def yX3_readItem : MethodName := ⟨RX3, "readItem", "()Z"⟩
abbrev cX3_readChild : ByteArray := prog_5_method_16_code
def yX3_readChild : MethodName := ⟨RX3, "readChild", "()Z"⟩
abbrev cX3_readBook : ByteArray := prog_5_method_17_code
def yX3_readBook : MethodName := ⟨RX3, "readBook", "()Z"⟩
abbrev cX3_readPlan : ByteArray := prog_5_method_18_code
def yX3_readPlan : MethodName := ⟨RX3, "readPlan", "()Z"⟩
abbrev cX3_readPay : ByteArray := prog_5_method_19_code
def yX3_readPay : MethodName := ⟨RX3, "readPay", "()Z"⟩
def RX4 : String := "StarChart$Sheet"
def TX4 : u_T := fun k => match k with
  | 0 => ("StarChart$Sheet", "children", "I", false)
  | 1 => ("StarChart$Sheet", "sorts", "I", false)
  | 2 => ("StarChart$Sheet", "liking", "[I", true)
  | 3 => ("StarChart$Sheet", "able", "[I", true)
  | 4 => ("StarChart$Sheet", "take", "[I", true)
  | 5 => ("StarChart$Sheet", "hard", "[I", true)
  | 6 => ("StarChart$Sheet", "joy", "[I", true)
  | 7 => ("StarChart$Sheet", "pay", "[I", true)
  | 8 => ("StarChart$Sheet", "from", "I", false)
  | 9 => ("StarChart$Sheet", "until", "I", false)
  | 10 => ("StarChart$Sheet", "thin", "I", false)
  | _ => ("StarChart$Sheet", "told", "Z", false)
def tyX4 : Nat → FieldType := fun k => match k with
  | 0 => .int
  | 1 => .int
  | 2 => .array .int
  | 3 => .array .int
  | 4 => .array .int
  | 5 => .array .int
  | 6 => .array .int
  | 7 => .array .int
  | 8 => .int
  | 9 => .int
  | 10 => .int
  | _ => .boolean
abbrev wsX40 : List Cond := u_ws RX4 TX4 12
theorem nmX4 : ∀ a, a < 12 → ∀ b, b < 12 → a ≠ b → (TX4 a).2.1 ≠ (TX4 b).2.1 := by decide +kernel
theorem tyX4_ok : ∀ k, k < 12 → parseFieldDescriptor (TX4 k).2.2.1 = some (tyX4 k) := by decide +kernel
abbrev cX4_init : ByteArray := prog_6_method_1_code
def yX4_init : MethodName := ⟨RX4, "<init>", "()V"⟩
abbrev cX4_wipe : ByteArray := prog_6_method_2_code
def yX4_wipe : MethodName := ⟨RX4, "wipe", "()V"⟩
abbrev cX4_schedule : ByteArray := prog_6_method_3_code
def yX4_schedule : MethodName := ⟨RX4, "schedule", "(IIZI)V"⟩
abbrev cX4_copyOf : ByteArray := prog_6_method_4_code
def yX4_copyOf : MethodName := ⟨RX4, "copyOf", "(LStarChart$Sheet;)V"⟩
abbrev cX4_payNothing : ByteArray := prog_6_method_5_code
def yX4_payNothing : MethodName := ⟨RX4, "payNothing", "()V"⟩
abbrev cX4_addChild : ByteArray := prog_6_method_6_code
def yX4_addChild : MethodName := ⟨RX4, "addChild", "(III)V"⟩
abbrev cX4_addSort : ByteArray := prog_6_method_7_code
def yX4_addSort : MethodName := ⟨RX4, "addSort", "(II)V"⟩
abbrev cX4_teachOne : ByteArray := prog_6_method_8_code
def yX4_teachOne : MethodName := ⟨RX4, "teachOne", "(III)V"⟩
abbrev cX4_pagesIn : ByteArray := prog_6_method_9_code
def yX4_pagesIn : MethodName := ⟨RX4, "pagesIn", "(II)I"⟩
abbrev cX4_givenOn : ByteArray := prog_6_method_10_code
def yX4_givenOn : MethodName := ⟨RX4, "givenOn", "(II)I"⟩
abbrev cX4_givesNothing : ByteArray := prog_6_method_11_code
def yX4_givesNothing : MethodName := ⟨RX4, "givesNothing", "(I)Z"⟩
def RX5 : String := "StarChart$Trials"
def TX5 : u_T := fun k => match k with
  | 0 => ("StarChart$Trials", "many", "I", false)
  | 1 => ("StarChart$Trials", "sort", "[I", true)
  | _ => ("StarChart$Trials", "came", "[I", true)
def tyX5 : Nat → FieldType := fun k => match k with
  | 0 => .int
  | 1 => .array .int
  | _ => .array .int
abbrev wsX50 : List Cond := u_ws RX5 TX5 3
theorem nmX5 : ∀ a, a < 3 → ∀ b, b < 3 → a ≠ b → (TX5 a).2.1 ≠ (TX5 b).2.1 := by decide +kernel
theorem tyX5_ok : ∀ k, k < 3 → parseFieldDescriptor (TX5 k).2.2.1 = some (tyX5 k) := by decide +kernel
abbrev cX5_init : ByteArray := prog_7_method_1_code
def yX5_init : MethodName := ⟨RX5, "<init>", "()V"⟩
abbrev cX5_note : ByteArray := prog_7_method_2_code
def yX5_note : MethodName := ⟨RX5, "note", "(II)Z"⟩
abbrev cX5_manyOf : ByteArray := prog_7_method_3_code
def yX5_manyOf : MethodName := ⟨RX5, "manyOf", "(I)I"⟩
abbrev cX5_sumOf : ByteArray := prog_7_method_4_code
def yX5_sumOf : MethodName := ⟨RX5, "sumOf", "(I)I"⟩
abbrev cX5_meanOf : ByteArray := prog_7_method_5_code
def yX5_meanOf : MethodName := ⟨RX5, "meanOf", "(II)I"⟩
abbrev cX5_farthestBit : ByteArray := prog_7_method_6_code
def yX5_farthestBit : MethodName := ⟨RX5, "farthestBit", "()I"⟩
def RX6 : String := "StarChart"
def TX6 : u_T := fun k => match k with
  | 0 => ("StarChart", "sheet", "LStarChart$Sheet;", true)
  | 1 => ("StarChart", "reader", "LStarChart$Reader;", true)
  | 2 => ("StarChart", "today", "LStarChart$Course;", true)
  | 3 => ("StarChart", "tunes", "[I", true)
  | 4 => ("StarChart", "first", "LStarChart$Image;", true)
  | 5 => ("StarChart", "second", "LStarChart$Image;", true)
  | 6 => ("StarChart", "trials", "LStarChart$Trials;", true)
  | 7 => ("StarChart", "jar", "LStarChart$Jar;", true)
  | 8 => ("StarChart", "guess", "LStarChart$Sheet;", true)
  | 9 => ("StarChart", "dream", "LStarChart$Course;", true)
  | 10 => ("StarChart", "chance", "I", false)
  | _ => ("StarChart", "asked", "J", false)
def tyX6 : Nat → FieldType := fun k => match k with
  | 0 => .object "StarChart$Sheet"
  | 1 => .object "StarChart$Reader"
  | 2 => .object "StarChart$Course"
  | 3 => .array .int
  | 4 => .object "StarChart$Image"
  | 5 => .object "StarChart$Image"
  | 6 => .object "StarChart$Trials"
  | 7 => .object "StarChart$Jar"
  | 8 => .object "StarChart$Sheet"
  | 9 => .object "StarChart$Course"
  | 10 => .int
  | _ => .long
abbrev wsX60 : List Cond := u_ws RX6 TX6 12
theorem nmX6 : ∀ a, a < 12 → ∀ b, b < 12 → a ≠ b → (TX6 a).2.1 ≠ (TX6 b).2.1 := by decide +kernel
theorem tyX6_ok : ∀ k, k < 12 → parseFieldDescriptor (TX6 k).2.2.1 = some (tyX6 k) := by decide +kernel
abbrev cX6_init : ByteArray := prog_1_method_1_code
def yX6_init : MethodName := ⟨RX6, "<init>", "()V"⟩
abbrev cX6_type : ByteArray := prog_1_method_2_code
def yX6_type : MethodName := ⟨RX6, "type", "(JI)I"⟩
abbrev cX6_clear : ByteArray := prog_1_method_3_code
def yX6_clear : MethodName := ⟨RX6, "clear", "()I"⟩
abbrev cX6_chart : ByteArray := prog_1_method_4_code
def yX6_chart : MethodName := ⟨RX6, "chart", "()I"⟩
abbrev cX6_child : ByteArray := prog_1_method_5_code
def yX6_child : MethodName := ⟨RX6, "child", "(II)I"⟩
abbrev cX6_book : ByteArray := prog_1_method_6_code
def yX6_book : MethodName := ⟨RX6, "book", "(II)I"⟩
abbrev cX6_plan : ByteArray := prog_1_method_7_code
def yX6_plan : MethodName := ⟨RX6, "plan", "(I)I"⟩
abbrev cX6_tune : ByteArray := prog_1_method_8_code
def yX6_tune : MethodName := ⟨RX6, "tune", "(II)I"⟩
abbrev cX6_given : ByteArray := prog_1_method_9_code
def yX6_given : MethodName := ⟨RX6, "given", "(II)I"⟩
abbrev cX6_want : ByteArray := prog_1_method_10_code
def yX6_want : MethodName := ⟨RX6, "want", "(III)I"⟩
abbrev cX6_choice : ByteArray := prog_1_method_11_code
def yX6_choice : MethodName := ⟨RX6, "choice", "(I)I"⟩
abbrev cX6_go : ByteArray := prog_1_method_12_code
def yX6_go : MethodName := ⟨RX6, "go", "(I)I"⟩
abbrev cX6_now : ByteArray := prog_1_method_13_code
def yX6_now : MethodName := ⟨RX6, "now", "(I)I"⟩
abbrev cX6_anew : ByteArray := prog_1_method_14_code
def yX6_anew : MethodName := ⟨RX6, "anew", "()I"⟩
abbrev cX6_term : ByteArray := prog_1_method_15_code
def yX6_term : MethodName := ⟨RX6, "term", "(I)I"⟩
abbrev cX6_end : ByteArray := prog_1_method_16_code
def yX6_end : MethodName := ⟨RX6, "end", "(I)I"⟩
abbrev cX6_best : ByteArray := prog_1_method_17_code
def yX6_best : MethodName := ⟨RX6, "best", "(III)I"⟩
abbrev cX6_line : ByteArray := prog_1_method_18_code
def yX6_line : MethodName := ⟨RX6, "line", "(III)I"⟩
abbrev cX6_ending : ByteArray := prog_1_method_19_code
def yX6_ending : MethodName := ⟨RX6, "ending", "(I)I"⟩
abbrev cX6_easy : ByteArray := prog_1_method_20_code
def yX6_easy : MethodName := ⟨RX6, "easy", "()I"⟩
abbrev cX6_stays : ByteArray := prog_1_method_21_code
def yX6_stays : MethodName := ⟨RX6, "stays", "(II)I"⟩
abbrev cX6_rests : ByteArray := prog_1_method_22_code
def yX6_rests : MethodName := ⟨RX6, "rests", "(III)I"⟩
abbrev cX6_blamed : ByteArray := prog_1_method_23_code
def yX6_blamed : MethodName := ⟨RX6, "blamed", "(II)I"⟩
abbrev cX6_checks : ByteArray := prog_1_method_24_code
def yX6_checks : MethodName := ⟨RX6, "checks", "(I)I"⟩
abbrev cX6_trial : ByteArray := prog_1_method_25_code
def yX6_trial : MethodName := ⟨RX6, "trial", "(II)I"⟩
abbrev cX6_joined : ByteArray := prog_1_method_26_code
def yX6_joined : MethodName := ⟨RX6, "joined", "(II)I"⟩
abbrev cX6_parts : ByteArray := prog_1_method_27_code
def yX6_parts : MethodName := ⟨RX6, "parts", "()I"⟩
abbrev cX6_ahead : ByteArray := prog_1_method_28_code
def yX6_ahead : MethodName := ⟨RX6, "ahead", "(II)I"⟩
abbrev cX6_halves : ByteArray := prog_1_method_29_code
def yX6_halves : MethodName := ⟨RX6, "halves", "(I)I"⟩
abbrev cX6_lot : ByteArray := prog_1_method_30_code
def yX6_lot : MethodName := ⟨RX6, "lot", "(I)I"⟩
abbrev cX6_rate : ByteArray := prog_1_method_31_code
def yX6_rate : MethodName := ⟨RX6, "rate", "(II)I"⟩
abbrev cX6_keep : ByteArray := prog_1_method_32_code
def yX6_keep : MethodName := ⟨RX6, "keep", "(I)I"⟩
abbrev cX6_back : ByteArray := prog_1_method_33_code
def yX6_back : MethodName := ⟨RX6, "back", "(I)I"⟩
abbrev cX6_count : ByteArray := prog_1_method_34_code
def yX6_count : MethodName := ⟨RX6, "count", "(I)I"⟩
abbrev cX6_trace : ByteArray := prog_1_method_35_code
def yX6_trace : MethodName := ⟨RX6, "trace", "()J"⟩
abbrev cX6_within : ByteArray := prog_1_method_36_code
def yX6_within : MethodName := ⟨RX6, "within", "(III)Z"⟩
abbrev cX6_isChild : ByteArray := prog_1_method_37_code
def yX6_isChild : MethodName := ⟨RX6, "isChild", "(I)Z"⟩
abbrev cX6_isSort : ByteArray := prog_1_method_38_code
def yX6_isSort : MethodName := ⟨RX6, "isSort", "(I)Z"⟩
abbrev cX6_isDay : ByteArray := prog_1_method_39_code
def yX6_isDay : MethodName := ⟨RX6, "isDay", "(I)Z"⟩
abbrev cX6_imageOf : ByteArray := prog_1_method_40_code
def yX6_imageOf : MethodName := ⟨RX6, "imageOf", "(I)LStarChart$Image;"⟩
abbrev cX6_pagesBetween : ByteArray := prog_1_method_41_code
def yX6_pagesBetween : MethodName := ⟨RX6, "pagesBetween", "(II)I"⟩
abbrev cX6_likingOn : ByteArray := prog_1_method_42_code
def yX6_likingOn : MethodName := ⟨RX6, "likingOn", "(I)I"⟩
abbrev cX6_fillJar : ByteArray := prog_1_method_43_code
def yX6_fillJar : MethodName := ⟨RX6, "fillJar", "(II)V"⟩
abbrev cX6_rateOfPay : ByteArray := prog_1_method_44_code
def yX6_rateOfPay : MethodName := ⟨RX6, "rateOfPay", "(I)I"⟩
abbrev cX6_rateOfTold : ByteArray := prog_1_method_45_code
def yX6_rateOfTold : MethodName := ⟨RX6, "rateOfTold", "(I)I"⟩
abbrev cX6_rateOfUnforeseen : ByteArray := prog_1_method_46_code
def yX6_rateOfUnforeseen : MethodName := ⟨RX6, "rateOfUnforeseen", "(I)I"⟩
abbrev cX6_rateOfDoing : ByteArray := prog_1_method_47_code
def yX6_rateOfDoing : MethodName := ⟨RX6, "rateOfDoing", "(I)I"⟩
abbrev cX6_rateOfWell : ByteArray := prog_1_method_48_code
def yX6_rateOfWell : MethodName := ⟨RX6, "rateOfWell", "(I)I"⟩
abbrev cX6_rateOfCommon : ByteArray := prog_1_method_49_code
def yX6_rateOfCommon : MethodName := ⟨RX6, "rateOfCommon", "(I)I"⟩
def RX7 : String := "StarChartModel"
def TX7 : u_T := fun k => match k with
  | 0 => ("StarChartModel", "thrown", "I", false)
  | 1 => ("StarChartModel", "trace", "J", false)
  | 2 => ("StarChartModel", "text", "[I", true)
  | 3 => ("StarChartModel", "typed", "I", false)
  | 4 => ("StarChartModel", "next", "I", false)
  | 5 => ("StarChartModel", "token", "I", false)
  | 6 => ("StarChartModel", "place", "I", false)
  | 7 => ("StarChartModel", "value", "I", false)
  | 8 => ("StarChartModel", "fault", "I", false)
  | 9 => ("StarChartModel", "told", "[I", true)
  | 10 => ("StarChartModel", "tunes", "[I", true)
  | 11 => ("StarChartModel", "s", "[I", true)
  | 12 => ("StarChartModel", "kept", "[I", true)
  | 13 => ("StarChartModel", "isKept", "[Z", true)
  | 14 => ("StarChartModel", "f", "[I", true)
  | 15 => ("StarChartModel", "was", "[I", true)
  | 16 => ("StarChartModel", "isBare", "Z", false)
  | 17 => ("StarChartModel", "trialSort", "[I", true)
  | 18 => ("StarChartModel", "trialCame", "[I", true)
  | _ => ("StarChartModel", "trials", "I", false)
def tyX7 : Nat → FieldType := fun k => match k with
  | 0 => .int
  | 1 => .long
  | 2 => .array .int
  | 3 => .int
  | 4 => .int
  | 5 => .int
  | 6 => .int
  | 7 => .int
  | 8 => .int
  | 9 => .array .int
  | 10 => .array .int
  | 11 => .array .int
  | 12 => .array .int
  | 13 => .array .boolean
  | 14 => .array .int
  | 15 => .array .int
  | 16 => .boolean
  | 17 => .array .int
  | 18 => .array .int
  | _ => .int
abbrev wsX70 : List Cond := u_ws RX7 TX7 20
theorem nmX7 : ∀ a, a < 20 → ∀ b, b < 20 → a ≠ b → (TX7 a).2.1 ≠ (TX7 b).2.1 := by decide +kernel
theorem tyX7_ok : ∀ k, k < 20 → parseFieldDescriptor (TX7 k).2.2.1 = some (tyX7 k) := by decide +kernel
abbrev cX7_init : ByteArray := prog_9_method_1_code
def yX7_init : MethodName := ⟨RX7, "<init>", "()V"⟩
abbrev cX7_in : ByteArray := prog_9_method_3_code
def yX7_in : MethodName := ⟨RX7, "in", "(III)Z"⟩
abbrev cX7_type : ByteArray := prog_9_method_4_code
def yX7_type : MethodName := ⟨RX7, "type", "(JI)I"⟩
abbrev cX7_clear : ByteArray := prog_9_method_5_code
def yX7_clear : MethodName := ⟨RX7, "clear", "()I"⟩
abbrev cX7_byteAt : ByteArray := prog_9_method_6_code
def yX7_byteAt : MethodName := ⟨RX7, "byteAt", "(I)I"⟩
abbrev cX7_add : ByteArray := prog_9_method_7_code
def yX7_add : MethodName := ⟨RX7, "add", "(JI)J"⟩
abbrev cX7_named : ByteArray := prog_9_method_8_code
def yX7_named : MethodName := ⟨RX7, "named", "(IIIII)J"⟩
abbrev cX7_wordOf : ByteArray := prog_9_method_9_code
def yX7_wordOf : MethodName := ⟨RX7, "wordOf", "(J)I"⟩
abbrev cX7_advances : ByteArray := prog_9_method_10_code
def yX7_advances : MethodName := ⟨RX7, "advances", "()V"⟩
abbrev cX7_isWell : ByteArray := prog_9_method_11_code
def yX7_isWell : MethodName := ⟨RX7, "isWell", "()Z"⟩
abbrev cX7_takes : ByteArray := prog_9_method_12_code
def yX7_takes : MethodName := ⟨RX7, "takes", "(Z)I"⟩
abbrev cX7_number : ByteArray := prog_9_method_13_code
def yX7_number : MethodName := ⟨RX7, "number", "(II)I"⟩
abbrev cX7_takesWord : ByteArray := prog_9_method_14_code
def yX7_takesWord : MethodName := ⟨RX7, "takesWord", "(I)Z"⟩
abbrev cX7_drafts : ByteArray := prog_9_method_15_code
def yX7_drafts : MethodName := ⟨RX7, "drafts", "()V"⟩
abbrev cX7_readsItem : ByteArray := prog_9_method_16_code
def yX7_readsItem : MethodName := ⟨RX7, "readsItem", "(I)V"⟩
abbrev cX7_chart : ByteArray := prog_9_method_17_code
def yX7_chart : MethodName := ⟨RX7, "chart", "()I"⟩
abbrev cX7_adopts : ByteArray := prog_9_method_18_code
def yX7_adopts : MethodName := ⟨RX7, "adopts", "()V"⟩
abbrev cX7_begins : ByteArray := prog_9_method_19_code
def yX7_begins : MethodName := ⟨RX7, "begins", "([I)V"⟩
abbrev cX7_isChild : ByteArray := prog_9_method_20_code
def yX7_isChild : MethodName := ⟨RX7, "isChild", "(I)Z"⟩
abbrev cX7_isSort : ByteArray := prog_9_method_21_code
def yX7_isSort : MethodName := ⟨RX7, "isSort", "(I)Z"⟩
abbrev cX7_isDay : ByteArray := prog_9_method_22_code
def yX7_isDay : MethodName := ⟨RX7, "isDay", "(I)Z"⟩
abbrev cX7_child : ByteArray := prog_9_method_23_code
def yX7_child : MethodName := ⟨RX7, "child", "(II)I"⟩
abbrev cX7_book : ByteArray := prog_9_method_24_code
def yX7_book : MethodName := ⟨RX7, "book", "(II)I"⟩
abbrev cX7_plan : ByteArray := prog_9_method_25_code
def yX7_plan : MethodName := ⟨RX7, "plan", "(I)I"⟩
abbrev cX7_tune : ByteArray := prog_9_method_26_code
def yX7_tune : MethodName := ⟨RX7, "tune", "(II)I"⟩
abbrev cX7_givenOf : ByteArray := prog_9_method_27_code
def yX7_givenOf : MethodName := ⟨RX7, "givenOf", "(II)I"⟩
abbrev cX7_given : ByteArray := prog_9_method_28_code
def yX7_given : MethodName := ⟨RX7, "given", "(II)I"⟩
abbrev cX7_pagesOf : ByteArray := prog_9_method_29_code
def yX7_pagesOf : MethodName := ⟨RX7, "pagesOf", "(II)I"⟩
abbrev cX7_joysOf : ByteArray := prog_9_method_30_code
def yX7_joysOf : MethodName := ⟨RX7, "joysOf", "([III)I"⟩
abbrev cX7_starsOf : ByteArray := prog_9_method_31_code
def yX7_starsOf : MethodName := ⟨RX7, "starsOf", "([IIII)I"⟩
abbrev cX7_wantOf : ByteArray := prog_9_method_32_code
def yX7_wantOf : MethodName := ⟨RX7, "wantOf", "([IIII)I"⟩
abbrev cX7_choiceOf : ByteArray := prog_9_method_33_code
def yX7_choiceOf : MethodName := ⟨RX7, "choiceOf", "([III)I"⟩
abbrev cX7_want : ByteArray := prog_9_method_34_code
def yX7_want : MethodName := ⟨RX7, "want", "(III)I"⟩
abbrev cX7_choice : ByteArray := prog_9_method_35_code
def yX7_choice : MethodName := ⟨RX7, "choice", "(I)I"⟩
abbrev cX7_within : ByteArray := prog_9_method_36_code
def yX7_within : MethodName := ⟨RX7, "within", "(I)I"⟩
abbrev cX7_goesBy : ByteArray := prog_9_method_37_code
def yX7_goesBy : MethodName := ⟨RX7, "goesBy", "([I)I"⟩
abbrev cX7_go : ByteArray := prog_9_method_38_code
def yX7_go : MethodName := ⟨RX7, "go", "(I)I"⟩
abbrev cX7_allOf : ByteArray := prog_9_method_39_code
def yX7_allOf : MethodName := ⟨RX7, "allOf", "([II)I"⟩
abbrev cX7_now : ByteArray := prog_9_method_40_code
def yX7_now : MethodName := ⟨RX7, "now", "(I)I"⟩
abbrev cX7_anew : ByteArray := prog_9_method_41_code
def yX7_anew : MethodName := ⟨RX7, "anew", "()I"⟩
abbrev cX7_pagesBy : ByteArray := prog_9_method_42_code
def yX7_pagesBy : MethodName := ⟨RX7, "pagesBy", "(II)I"⟩
abbrev cX7_term : ByteArray := prog_9_method_43_code
def yX7_term : MethodName := ⟨RX7, "term", "(I)I"⟩
abbrev cX7_endOn : ByteArray := prog_9_method_44_code
def yX7_endOn : MethodName := ⟨RX7, "endOn", "(I)I"⟩
abbrev cX7_end : ByteArray := prog_9_method_45_code
def yX7_end : MethodName := ⟨RX7, "end", "(I)I"⟩
abbrev cX7_aside : ByteArray := prog_9_method_46_code
def yX7_aside : MethodName := ⟨RX7, "aside", "(Z)V"⟩
abbrev cX7_best : ByteArray := prog_9_method_47_code
def yX7_best : MethodName := ⟨RX7, "best", "(III)I"⟩
abbrev cX7_line : ByteArray := prog_9_method_48_code
def yX7_line : MethodName := ⟨RX7, "line", "(III)I"⟩
abbrev cX7_ending : ByteArray := prog_9_method_49_code
def yX7_ending : MethodName := ⟨RX7, "ending", "(I)I"⟩
abbrev cX7_easy : ByteArray := prog_9_method_50_code
def yX7_easy : MethodName := ⟨RX7, "easy", "()I"⟩
abbrev cX7_stays : ByteArray := prog_9_method_51_code
def yX7_stays : MethodName := ⟨RX7, "stays", "(II)I"⟩
abbrev cX7_jarSort : ByteArray := prog_9_method_52_code
def yX7_jarSort : MethodName := ⟨RX7, "jarSort", "(I)I"⟩
abbrev cX7_jarPages : ByteArray := prog_9_method_53_code
def yX7_jarPages : MethodName := ⟨RX7, "jarPages", "(I)I"⟩
abbrev cX7_jarHas : ByteArray := prog_9_method_54_code
def yX7_jarHas : MethodName := ⟨RX7, "jarHas", "(IIII)I"⟩
abbrev cX7_rests : ByteArray := prog_9_method_55_code
def yX7_rests : MethodName := ⟨RX7, "rests", "(III)I"⟩
abbrev cX7_blamed : ByteArray := prog_9_method_56_code
def yX7_blamed : MethodName := ⟨RX7, "blamed", "(II)I"⟩
abbrev cX7_checks : ByteArray := prog_9_method_57_code
def yX7_checks : MethodName := ⟨RX7, "checks", "(I)I"⟩
abbrev cX7_trial : ByteArray := prog_9_method_58_code
def yX7_trial : MethodName := ⟨RX7, "trial", "(II)I"⟩
abbrev cX7_manyOf : ByteArray := prog_9_method_59_code
def yX7_manyOf : MethodName := ⟨RX7, "manyOf", "(I)I"⟩
abbrev cX7_sumOf : ByteArray := prog_9_method_60_code
def yX7_sumOf : MethodName := ⟨RX7, "sumOf", "(I)I"⟩
abbrev cX7_gcd : ByteArray := prog_9_method_61_code
def yX7_gcd : MethodName := ⟨RX7, "gcd", "(II)I"⟩
abbrev cX7_meanOf : ByteArray := prog_9_method_62_code
def yX7_meanOf : MethodName := ⟨RX7, "meanOf", "(II)I"⟩
abbrev cX7_joined : ByteArray := prog_9_method_63_code
def yX7_joined : MethodName := ⟨RX7, "joined", "(II)I"⟩
abbrev cX7_parts : ByteArray := prog_9_method_64_code
def yX7_parts : MethodName := ⟨RX7, "parts", "()I"⟩
abbrev cX7_ahead : ByteArray := prog_9_method_65_code
def yX7_ahead : MethodName := ⟨RX7, "ahead", "(II)I"⟩
abbrev cX7_halves : ByteArray := prog_9_method_66_code
def yX7_halves : MethodName := ⟨RX7, "halves", "(I)I"⟩
abbrev cX7_lot : ByteArray := prog_9_method_67_code
def yX7_lot : MethodName := ⟨RX7, "lot", "(I)I"⟩
abbrev cX7_rate : ByteArray := prog_9_method_68_code
def yX7_rate : MethodName := ⟨RX7, "rate", "(II)I"⟩
abbrev cX7_keep : ByteArray := prog_9_method_69_code
def yX7_keep : MethodName := ⟨RX7, "keep", "(I)I"⟩
abbrev cX7_back : ByteArray := prog_9_method_70_code
def yX7_back : MethodName := ⟨RX7, "back", "(I)I"⟩
abbrev cX7_count : ByteArray := prog_9_method_71_code
def yX7_count : MethodName := ⟨RX7, "count", "(I)I"⟩
abbrev cX7_trace : ByteArray := prog_9_method_72_code
def yX7_trace : MethodName := ⟨RX7, "trace", "()J"⟩
def RJ9 : String := "java/lang/Math"
def TJ9 : u_T := fun k => match k with
  | _ => ("", "", "", false)
def tyJ9 : Nat → FieldType := fun k => match k with
  | _ => .int
abbrev wsJ90 : List Cond := u_ws RJ9 TJ9 0
theorem nmJ9 : ∀ a, a < 0 → ∀ b, b < 0 → a ≠ b → (TJ9 a).2.1 ≠ (TJ9 b).2.1 := by decide +kernel
theorem tyJ9_ok : ∀ k, k < 0 → parseFieldDescriptor (TJ9 k).2.2.1 = some (tyJ9 k) := by decide +kernel
abbrev cJ9_abs_0f7a4 : ByteArray := prog_10_method_59_code
def yJ9_abs_0f7a4 : MethodName := ⟨RJ9, "abs", "(I)I"⟩
abbrev cJ9_max_7cf53 : ByteArray := prog_10_method_65_code
def yJ9_max_7cf53 : MethodName := ⟨RJ9, "max", "(II)I"⟩
abbrev cJ9_min_7cf53 : ByteArray := prog_10_method_69_code
def yJ9_min_7cf53 : MethodName := ⟨RJ9, "min", "(II)I"⟩
def RJ0 : String := "java/lang/String"
def TJ0 : u_T := fun k => match k with
  | _ => ("", "", "", false)
def tyJ0 : Nat → FieldType := fun k => match k with
  | _ => .int
abbrev wsJ00 : List Cond := u_ws RJ0 TJ0 0
theorem nmJ0 : ∀ a, a < 0 → ∀ b, b < 0 → a ≠ b → (TJ0 a).2.1 ≠ (TJ0 b).2.1 := by decide +kernel
theorem tyJ0_ok : ∀ k, k < 0 → parseFieldDescriptor (TJ0 k).2.2.1 = some (tyJ0 k) := by decide +kernel
abbrev cJ0_length_8abf5 : ByteArray := prog_11_method_54_code
def yJ0_length_8abf5 : MethodName := ⟨RJ0, "length", "()I"⟩
abbrev cJ0_charAt_5068e : ByteArray := prog_11_method_56_code
def yJ0_charAt_5068e : MethodName := ⟨RJ0, "charAt", "(I)C"⟩
abbrev cJ0_coder_7d493 : ByteArray := prog_11_method_152_code
def yJ0_coder_7d493 : MethodName := ⟨RJ0, "coder", "()B"⟩
abbrev cJ0_isLatin1_aae02 : ByteArray := prog_11_method_154_code
def yJ0_isLatin1_aae02 : MethodName := ⟨RJ0, "isLatin1", "()Z"⟩
abbrev cJ0_checkIndex_df160 : ByteArray := prog_11_method_155_code
def yJ0_checkIndex_df160 : MethodName := ⟨RJ0, "checkIndex", "(II)V"⟩
def RJ1 : String := "java/lang/StringLatin1"
def TJ1 : u_T := fun k => match k with
  | _ => ("", "", "", false)
def tyJ1 : Nat → FieldType := fun k => match k with
  | _ => .int
abbrev wsJ10 : List Cond := u_ws RJ1 TJ1 0
theorem nmJ1 : ∀ a, a < 0 → ∀ b, b < 0 → a ≠ b → (TJ1 a).2.1 ≠ (TJ1 b).2.1 := by decide +kernel
theorem tyJ1_ok : ∀ k, k < 0 → parseFieldDescriptor (TJ1 k).2.2.1 = some (tyJ1 k) := by decide +kernel
abbrev cJ1_charAt_3b067 : ByteArray := prog_12_method_2_code
def yJ1_charAt_3b067 : MethodName := ⟨RJ1, "charAt", "([BI)C"⟩
def RJ2 : String := "java/lang/StringUTF16"
def TJ2 : u_T := fun k => match k with
  | _ => ("", "", "", false)
def tyJ2 : Nat → FieldType := fun k => match k with
  | _ => .int
abbrev wsJ20 : List Cond := u_ws RJ2 TJ2 0
theorem nmJ2 : ∀ a, a < 0 → ∀ b, b < 0 → a ≠ b → (TJ2 a).2.1 ≠ (TJ2 b).2.1 := by decide +kernel
theorem tyJ2_ok : ∀ k, k < 0 → parseFieldDescriptor (TJ2 k).2.2.1 = some (tyJ2 k) := by decide +kernel
abbrev cJ2_getChar_3b067 : ByteArray := prog_13_method_5_code
def yJ2_getChar_3b067 : MethodName := ⟨RJ2, "getChar", "([BI)C"⟩
abbrev cJ2_length_9d52b : ByteArray := prog_13_method_6_code
def yJ2_length_9d52b : MethodName := ⟨RJ2, "length", "([B)I"⟩
abbrev cJ2_charAt_3b067 : ByteArray := prog_13_method_83_code
def yJ2_charAt_3b067 : MethodName := ⟨RJ2, "charAt", "([BI)C"⟩
abbrev cJ2_checkIndex_2214a : ByteArray := prog_13_method_91_code
def yJ2_checkIndex_2214a : MethodName := ⟨RJ2, "checkIndex", "(I[B)V"⟩
def RJ10 : String := "java/lang/System"
def TJ10 : u_T := fun k => match k with
  | _ => ("", "", "", false)
def tyJ10 : Nat → FieldType := fun k => match k with
  | _ => .int
abbrev wsJ100 : List Cond := u_ws RJ10 TJ10 0
theorem nmJ10 : ∀ a, a < 0 → ∀ b, b < 0 → a ≠ b → (TJ10 a).2.1 ≠ (TJ10 b).2.1 := by decide +kernel
theorem tyJ10_ok : ∀ k, k < 0 → parseFieldDescriptor (TJ10 k).2.2.1 = some (tyJ10 k) := by decide +kernel
def RJ3 : String := "jdk/internal/util/Preconditions"
def TJ3 : u_T := fun k => match k with
  | _ => ("", "", "", false)
def tyJ3 : Nat → FieldType := fun k => match k with
  | _ => .int
abbrev wsJ30 : List Cond := u_ws RJ3 TJ3 0
theorem nmJ3 : ∀ a, a < 0 → ∀ b, b < 0 → a ≠ b → (TJ3 a).2.1 ≠ (TJ3 b).2.1 := by decide +kernel
theorem tyJ3_ok : ∀ k, k < 0 → parseFieldDescriptor (TJ3 k).2.2.1 = some (tyJ3 k) := by decide +kernel
abbrev cJ3_checkIndex_8e157 : ByteArray := prog_15_method_11_code
def yJ3_checkIndex_8e157 : MethodName := ⟨RJ3, "checkIndex", "(IILjava/util/function/BiFunction;)I"⟩
def RL : String := "StarChartLaw"
abbrev cL_law : ByteArray := code
def yL_law : MethodName := ⟨RL, "law", "([I)Z"⟩
abbrev vwCl : List vw_C := [(RX0, TX0, 5), (RX1, TX1, 3), (RX2, TX2, 5), (RX3, TX3, 7), (RX4, TX4, 12), (RX5, TX5, 3), (RX6, TX6, 12), (RX7, TX7, 20)]
end
section
theorem dX0_init_0 : decode cX0_init 0 = .ok (.aload_n 0, 1) := by decide +kernel
theorem dX0_init_1 : decode cX0_init 1 = .ok (.invokespecial 3, 3) := by decide +kernel
theorem dX0_init_4 : decode cX0_init 4 = .ok (.aload_n 0, 1) := by decide +kernel
theorem dX0_init_5 : decode cX0_init 5 = .ok (.bipush 8, 2) := by decide +kernel
theorem dX0_init_7 : decode cX0_init 7 = .ok (.newarray .int, 2) := by decide +kernel
theorem dX0_init_9 : decode cX0_init 9 = .ok (.putfield 9, 3) := by decide +kernel
theorem dX0_init_12 : decode cX0_init 12 = .ok (.aload_n 0, 1) := by decide +kernel
theorem dX0_init_13 : decode cX0_init 13 = .ok (.bipush 8, 2) := by decide +kernel
theorem dX0_init_15 : decode cX0_init 15 = .ok (.newarray .int, 2) := by decide +kernel
theorem dX0_init_17 : decode cX0_init 17 = .ok (.putfield 15, 3) := by decide +kernel
theorem dX0_init_20 : decode cX0_init 20 = .ok (.aload_n 0, 1) := by decide +kernel
theorem dX0_init_21 : decode cX0_init 21 = .ok (.bipush 8, 2) := by decide +kernel
theorem dX0_init_23 : decode cX0_init 23 = .ok (.newarray .int, 2) := by decide +kernel
theorem dX0_init_25 : decode cX0_init 25 = .ok (.putfield 18, 3) := by decide +kernel
theorem dX0_init_28 : decode cX0_init 28 = .ok (.return_, 1) := by decide +kernel
theorem dX0_begin_0 : decode cX0_begin 0 = .ok (.aload_n 0, 1) := by decide +kernel
theorem dX0_begin_1 : decode cX0_begin 1 = .ok (.iload_n 2, 1) := by decide +kernel
theorem dX0_begin_2 : decode cX0_begin 2 = .ok (.putfield 21, 3) := by decide +kernel
theorem dX0_begin_5 : decode cX0_begin 5 = .ok (.aload_n 0, 1) := by decide +kernel
theorem dX0_begin_6 : decode cX0_begin 6 = .ok (.bipush 100, 2) := by decide +kernel
theorem dX0_begin_8 : decode cX0_begin 8 = .ok (.putfield 25, 3) := by decide +kernel
theorem dX0_begin_11 : decode cX0_begin 11 = .ok (.iconst 0, 1) := by decide +kernel
theorem dX0_begin_12 : decode cX0_begin 12 = .ok (.istore_n 3, 1) := by decide +kernel
theorem dX0_begin_13 : decode cX0_begin 13 = .ok (.iload_n 3, 1) := by decide +kernel
theorem dX0_begin_14 : decode cX0_begin 14 = .ok (.bipush 8, 2) := by decide +kernel
theorem dX0_begin_16 : decode cX0_begin 16 = .ok (.if_icmp .ge 35, 3) := by decide +kernel
theorem dX0_begin_19 : decode cX0_begin 19 = .ok (.aload_n 0, 1) := by decide +kernel
theorem dX0_begin_20 : decode cX0_begin 20 = .ok (.getfield 9, 3) := by decide +kernel
theorem dX0_begin_23 : decode cX0_begin 23 = .ok (.iload_n 3, 1) := by decide +kernel
theorem dX0_begin_24 : decode cX0_begin 24 = .ok (.aload_n 1, 1) := by decide +kernel
theorem dX0_begin_25 : decode cX0_begin 25 = .ok (.getfield 28, 3) := by decide +kernel
theorem dX0_begin_28 : decode cX0_begin 28 = .ok (.iload_n 3, 1) := by decide +kernel
theorem dX0_begin_29 : decode cX0_begin 29 = .ok (.iaload, 1) := by decide +kernel
theorem dX0_begin_30 : decode cX0_begin 30 = .ok (.iastore, 1) := by decide +kernel
theorem dX0_begin_31 : decode cX0_begin 31 = .ok (.aload_n 0, 1) := by decide +kernel
theorem dX0_begin_32 : decode cX0_begin 32 = .ok (.getfield 15, 3) := by decide +kernel
theorem dX0_begin_35 : decode cX0_begin 35 = .ok (.iload_n 3, 1) := by decide +kernel
theorem dX0_begin_36 : decode cX0_begin 36 = .ok (.iconst 0, 1) := by decide +kernel
theorem dX0_begin_37 : decode cX0_begin 37 = .ok (.iastore, 1) := by decide +kernel
theorem dX0_begin_38 : decode cX0_begin 38 = .ok (.aload_n 0, 1) := by decide +kernel
theorem dX0_begin_39 : decode cX0_begin 39 = .ok (.getfield 18, 3) := by decide +kernel
theorem dX0_begin_42 : decode cX0_begin 42 = .ok (.iload_n 3, 1) := by decide +kernel
theorem dX0_begin_43 : decode cX0_begin 43 = .ok (.iconst 0, 1) := by decide +kernel
theorem dX0_begin_44 : decode cX0_begin 44 = .ok (.iastore, 1) := by decide +kernel
theorem dX0_begin_45 : decode cX0_begin 45 = .ok (.iinc 3 1, 3) := by decide +kernel
theorem dX0_begin_48 : decode cX0_begin 48 = .ok (.goto (-35), 3) := by decide +kernel
theorem dX0_begin_51 : decode cX0_begin 51 = .ok (.return_, 1) := by decide +kernel
theorem dX0_copyOf_0 : decode cX0_copyOf 0 = .ok (.aload_n 0, 1) := by decide +kernel
theorem dX0_copyOf_1 : decode cX0_copyOf 1 = .ok (.aload_n 1, 1) := by decide +kernel
theorem dX0_copyOf_2 : decode cX0_copyOf 2 = .ok (.getfield 21, 3) := by decide +kernel
theorem dX0_copyOf_5 : decode cX0_copyOf 5 = .ok (.putfield 21, 3) := by decide +kernel
theorem dX0_copyOf_8 : decode cX0_copyOf 8 = .ok (.aload_n 0, 1) := by decide +kernel
theorem dX0_copyOf_9 : decode cX0_copyOf 9 = .ok (.aload_n 1, 1) := by decide +kernel
theorem dX0_copyOf_10 : decode cX0_copyOf 10 = .ok (.getfield 25, 3) := by decide +kernel
theorem dX0_copyOf_13 : decode cX0_copyOf 13 = .ok (.putfield 25, 3) := by decide +kernel
theorem dX0_copyOf_16 : decode cX0_copyOf 16 = .ok (.aload_n 1, 1) := by decide +kernel
theorem dX0_copyOf_17 : decode cX0_copyOf 17 = .ok (.getfield 9, 3) := by decide +kernel
theorem dX0_copyOf_20 : decode cX0_copyOf 20 = .ok (.iconst 0, 1) := by decide +kernel
theorem dX0_copyOf_21 : decode cX0_copyOf 21 = .ok (.aload_n 0, 1) := by decide +kernel
theorem dX0_copyOf_22 : decode cX0_copyOf 22 = .ok (.getfield 9, 3) := by decide +kernel
theorem dX0_copyOf_25 : decode cX0_copyOf 25 = .ok (.iconst 0, 1) := by decide +kernel
theorem dX0_copyOf_26 : decode cX0_copyOf 26 = .ok (.bipush 8, 2) := by decide +kernel
theorem dX0_copyOf_28 : decode cX0_copyOf 28 = .ok (.invokestatic 31, 3) := by decide +kernel
theorem dX0_copyOf_31 : decode cX0_copyOf 31 = .ok (.aload_n 1, 1) := by decide +kernel
theorem dX0_copyOf_32 : decode cX0_copyOf 32 = .ok (.getfield 15, 3) := by decide +kernel
theorem dX0_copyOf_35 : decode cX0_copyOf 35 = .ok (.iconst 0, 1) := by decide +kernel
theorem dX0_copyOf_36 : decode cX0_copyOf 36 = .ok (.aload_n 0, 1) := by decide +kernel
theorem dX0_copyOf_37 : decode cX0_copyOf 37 = .ok (.getfield 15, 3) := by decide +kernel
theorem dX0_copyOf_40 : decode cX0_copyOf 40 = .ok (.iconst 0, 1) := by decide +kernel
theorem dX0_copyOf_41 : decode cX0_copyOf 41 = .ok (.bipush 8, 2) := by decide +kernel
theorem dX0_copyOf_43 : decode cX0_copyOf 43 = .ok (.invokestatic 31, 3) := by decide +kernel
theorem dX0_copyOf_46 : decode cX0_copyOf 46 = .ok (.aload_n 1, 1) := by decide +kernel
theorem dX0_copyOf_47 : decode cX0_copyOf 47 = .ok (.getfield 18, 3) := by decide +kernel
theorem dX0_copyOf_50 : decode cX0_copyOf 50 = .ok (.iconst 0, 1) := by decide +kernel
theorem dX0_copyOf_51 : decode cX0_copyOf 51 = .ok (.aload_n 0, 1) := by decide +kernel
theorem dX0_copyOf_52 : decode cX0_copyOf 52 = .ok (.getfield 18, 3) := by decide +kernel
theorem dX0_copyOf_55 : decode cX0_copyOf 55 = .ok (.iconst 0, 1) := by decide +kernel
theorem dX0_copyOf_56 : decode cX0_copyOf 56 = .ok (.bipush 8, 2) := by decide +kernel
theorem dX0_copyOf_58 : decode cX0_copyOf 58 = .ok (.invokestatic 31, 3) := by decide +kernel
theorem dX0_copyOf_61 : decode cX0_copyOf 61 = .ok (.return_, 1) := by decide +kernel
theorem dX0_sumOf_0 : decode cX0_sumOf 0 = .ok (.iconst 0, 1) := by decide +kernel
theorem dX0_sumOf_1 : decode cX0_sumOf 1 = .ok (.istore_n 2, 1) := by decide +kernel
theorem dX0_sumOf_2 : decode cX0_sumOf 2 = .ok (.iconst 0, 1) := by decide +kernel
theorem dX0_sumOf_3 : decode cX0_sumOf 3 = .ok (.istore_n 3, 1) := by decide +kernel
theorem dX0_sumOf_4 : decode cX0_sumOf 4 = .ok (.iload_n 3, 1) := by decide +kernel
theorem dX0_sumOf_5 : decode cX0_sumOf 5 = .ok (.iload_n 1, 1) := by decide +kernel
theorem dX0_sumOf_6 : decode cX0_sumOf 6 = .ok (.if_icmp .ge 21, 3) := by decide +kernel
theorem dX0_sumOf_9 : decode cX0_sumOf 9 = .ok (.iload_n 3, 1) := by decide +kernel
theorem dX0_sumOf_10 : decode cX0_sumOf 10 = .ok (.aload_n 0, 1) := by decide +kernel
theorem dX0_sumOf_11 : decode cX0_sumOf 11 = .ok (.arraylength, 1) := by decide +kernel
theorem dX0_sumOf_12 : decode cX0_sumOf 12 = .ok (.if_icmp .ge 15, 3) := by decide +kernel
theorem dX0_sumOf_15 : decode cX0_sumOf 15 = .ok (.iload_n 2, 1) := by decide +kernel
theorem dX0_sumOf_16 : decode cX0_sumOf 16 = .ok (.aload_n 0, 1) := by decide +kernel
theorem dX0_sumOf_17 : decode cX0_sumOf 17 = .ok (.iload_n 3, 1) := by decide +kernel
theorem dX0_sumOf_18 : decode cX0_sumOf 18 = .ok (.iaload, 1) := by decide +kernel
theorem dX0_sumOf_19 : decode cX0_sumOf 19 = .ok (.iadd, 1) := by decide +kernel
theorem dX0_sumOf_20 : decode cX0_sumOf 20 = .ok (.istore_n 2, 1) := by decide +kernel
theorem dX0_sumOf_21 : decode cX0_sumOf 21 = .ok (.iinc 3 1, 3) := by decide +kernel
theorem dX0_sumOf_24 : decode cX0_sumOf 24 = .ok (.goto (-20), 3) := by decide +kernel
theorem dX0_sumOf_27 : decode cX0_sumOf 27 = .ok (.iload_n 2, 1) := by decide +kernel
theorem dX0_sumOf_28 : decode cX0_sumOf 28 = .ok (.ireturn, 1) := by decide +kernel
theorem dX0_joysOf_0 : decode cX0_joysOf 0 = .ok (.aload_n 1, 1) := by decide +kernel
theorem dX0_joysOf_1 : decode cX0_joysOf 1 = .ok (.getfield 37, 3) := by decide +kernel
theorem dX0_joysOf_4 : decode cX0_joysOf 4 = .ok (.iload_n 3, 1) := by decide +kernel
theorem dX0_joysOf_5 : decode cX0_joysOf 5 = .ok (.iaload, 1) := by decide +kernel
theorem dX0_joysOf_6 : decode cX0_joysOf 6 = .ok (.aload_n 0, 1) := by decide +kernel
theorem dX0_joysOf_7 : decode cX0_joysOf 7 = .ok (.getfield 9, 3) := by decide +kernel
theorem dX0_joysOf_10 : decode cX0_joysOf 10 = .ok (.iload_n 2, 1) := by decide +kernel
theorem dX0_joysOf_11 : decode cX0_joysOf 11 = .ok (.iaload, 1) := by decide +kernel
theorem dX0_joysOf_12 : decode cX0_joysOf 12 = .ok (.imul, 1) := by decide +kernel
theorem dX0_joysOf_13 : decode cX0_joysOf 13 = .ok (.bipush 10, 2) := by decide +kernel
theorem dX0_joysOf_15 : decode cX0_joysOf 15 = .ok (.idiv, 1) := by decide +kernel
theorem dX0_joysOf_16 : decode cX0_joysOf 16 = .ok (.ireturn, 1) := by decide +kernel
theorem dX0_starsFor_0 : decode cX0_starsFor 0 = .ok (.aload_n 1, 1) := by decide +kernel
theorem dX0_starsFor_1 : decode cX0_starsFor 1 = .ok (.iload_n 2, 1) := by decide +kernel
theorem dX0_starsFor_2 : decode cX0_starsFor 2 = .ok (.iload_n 3, 1) := by decide +kernel
theorem dX0_starsFor_3 : decode cX0_starsFor 3 = .ok (.invokevirtual 40, 3) := by decide +kernel
theorem dX0_starsFor_6 : decode cX0_starsFor 6 = .ok (.aload_n 1, 1) := by decide +kernel
theorem dX0_starsFor_7 : decode cX0_starsFor 7 = .ok (.iload_n 3, 1) := by decide +kernel
theorem dX0_starsFor_8 : decode cX0_starsFor 8 = .ok (.aload_n 0, 1) := by decide +kernel
theorem dX0_starsFor_9 : decode cX0_starsFor 9 = .ok (.getfield 21, 3) := by decide +kernel
theorem dX0_starsFor_12 : decode cX0_starsFor 12 = .ok (.invokevirtual 44, 3) := by decide +kernel
theorem dX0_starsFor_15 : decode cX0_starsFor 15 = .ok (.imul, 1) := by decide +kernel
theorem dX0_starsFor_16 : decode cX0_starsFor 16 = .ok (.aload_n 1, 1) := by decide +kernel
theorem dX0_starsFor_17 : decode cX0_starsFor 17 = .ok (.getfield 47, 3) := by decide +kernel
theorem dX0_starsFor_20 : decode cX0_starsFor 20 = .ok (.iload_n 2, 1) := by decide +kernel
theorem dX0_starsFor_21 : decode cX0_starsFor 21 = .ok (.iaload, 1) := by decide +kernel
theorem dX0_starsFor_22 : decode cX0_starsFor 22 = .ok (.imul, 1) := by decide +kernel
theorem dX0_starsFor_23 : decode cX0_starsFor 23 = .ok (.aload_n 0, 1) := by decide +kernel
theorem dX0_starsFor_24 : decode cX0_starsFor 24 = .ok (.getfield 25, 3) := by decide +kernel
theorem dX0_starsFor_27 : decode cX0_starsFor 27 = .ok (.imul, 1) := by decide +kernel
theorem dX0_starsFor_28 : decode cX0_starsFor 28 = .ok (.bipush 100, 2) := by decide +kernel
theorem dX0_starsFor_30 : decode cX0_starsFor 30 = .ok (.idiv, 1) := by decide +kernel
theorem dX0_starsFor_31 : decode cX0_starsFor 31 = .ok (.ireturn, 1) := by decide +kernel
theorem dX0_wantOf_0 : decode cX0_wantOf 0 = .ok (.aload_n 0, 1) := by decide +kernel
theorem dX0_wantOf_1 : decode cX0_wantOf 1 = .ok (.aload_n 1, 1) := by decide +kernel
theorem dX0_wantOf_2 : decode cX0_wantOf 2 = .ok (.iload_n 2, 1) := by decide +kernel
theorem dX0_wantOf_3 : decode cX0_wantOf 3 = .ok (.iload_n 3, 1) := by decide +kernel
theorem dX0_wantOf_4 : decode cX0_wantOf 4 = .ok (.invokevirtual 50, 3) := by decide +kernel
theorem dX0_wantOf_7 : decode cX0_wantOf 7 = .ok (.istore 4, 2) := by decide +kernel
theorem dX0_wantOf_9 : decode cX0_wantOf 9 = .ok (.aload_n 1, 1) := by decide +kernel
theorem dX0_wantOf_10 : decode cX0_wantOf 10 = .ok (.getfield 54, 3) := by decide +kernel
theorem dX0_wantOf_13 : decode cX0_wantOf 13 = .ok (.ifCond .eq 16, 3) := by decide +kernel
theorem dX0_wantOf_16 : decode cX0_wantOf 16 = .ok (.iload 4, 2) := by decide +kernel
theorem dX0_wantOf_18 : decode cX0_wantOf 18 = .ok (.aload_n 0, 1) := by decide +kernel
theorem dX0_wantOf_19 : decode cX0_wantOf 19 = .ok (.aload_n 1, 1) := by decide +kernel
theorem dX0_wantOf_20 : decode cX0_wantOf 20 = .ok (.iload_n 2, 1) := by decide +kernel
theorem dX0_wantOf_21 : decode cX0_wantOf 21 = .ok (.iload_n 3, 1) := by decide +kernel
theorem dX0_wantOf_22 : decode cX0_wantOf 22 = .ok (.invokevirtual 58, 3) := by decide +kernel
theorem dX0_wantOf_25 : decode cX0_wantOf 25 = .ok (.iadd, 1) := by decide +kernel
theorem dX0_wantOf_26 : decode cX0_wantOf 26 = .ok (.goto 5, 3) := by decide +kernel
theorem dX0_wantOf_29 : decode cX0_wantOf 29 = .ok (.iload 4, 2) := by decide +kernel
theorem dX0_wantOf_31 : decode cX0_wantOf 31 = .ok (.ireturn, 1) := by decide +kernel
theorem dX0_choiceOf_0 : decode cX0_choiceOf 0 = .ok (.bipush (-9), 2) := by decide +kernel
theorem dX0_choiceOf_2 : decode cX0_choiceOf 2 = .ok (.istore 4, 2) := by decide +kernel
theorem dX0_choiceOf_4 : decode cX0_choiceOf 4 = .ok (.iload_n 3, 1) := by decide +kernel
theorem dX0_choiceOf_5 : decode cX0_choiceOf 5 = .ok (.iconst 1, 1) := by decide +kernel
theorem dX0_choiceOf_6 : decode cX0_choiceOf 6 = .ok (.isub, 1) := by decide +kernel
theorem dX0_choiceOf_7 : decode cX0_choiceOf 7 = .ok (.istore 5, 2) := by decide +kernel
theorem dX0_choiceOf_9 : decode cX0_choiceOf 9 = .ok (.iconst 0, 1) := by decide +kernel
theorem dX0_choiceOf_10 : decode cX0_choiceOf 10 = .ok (.istore 6, 2) := by decide +kernel
theorem dX0_choiceOf_12 : decode cX0_choiceOf 12 = .ok (.iload 6, 2) := by decide +kernel
theorem dX0_choiceOf_14 : decode cX0_choiceOf 14 = .ok (.aload_n 1, 1) := by decide +kernel
theorem dX0_choiceOf_15 : decode cX0_choiceOf 15 = .ok (.getfield 61, 3) := by decide +kernel
theorem dX0_choiceOf_18 : decode cX0_choiceOf 18 = .ok (.if_icmp .ge 34, 3) := by decide +kernel
theorem dX0_choiceOf_21 : decode cX0_choiceOf 21 = .ok (.aload_n 0, 1) := by decide +kernel
theorem dX0_choiceOf_22 : decode cX0_choiceOf 22 = .ok (.aload_n 1, 1) := by decide +kernel
theorem dX0_choiceOf_23 : decode cX0_choiceOf 23 = .ok (.iload_n 2, 1) := by decide +kernel
theorem dX0_choiceOf_24 : decode cX0_choiceOf 24 = .ok (.iload 6, 2) := by decide +kernel
theorem dX0_choiceOf_26 : decode cX0_choiceOf 26 = .ok (.invokevirtual 64, 3) := by decide +kernel
theorem dX0_choiceOf_29 : decode cX0_choiceOf 29 = .ok (.istore 7, 2) := by decide +kernel
theorem dX0_choiceOf_31 : decode cX0_choiceOf 31 = .ok (.iload 7, 2) := by decide +kernel
theorem dX0_choiceOf_33 : decode cX0_choiceOf 33 = .ok (.iload 5, 2) := by decide +kernel
theorem dX0_choiceOf_35 : decode cX0_choiceOf 35 = .ok (.if_icmp .le 11, 3) := by decide +kernel
theorem dX0_choiceOf_38 : decode cX0_choiceOf 38 = .ok (.iload 6, 2) := by decide +kernel
theorem dX0_choiceOf_40 : decode cX0_choiceOf 40 = .ok (.istore 4, 2) := by decide +kernel
theorem dX0_choiceOf_42 : decode cX0_choiceOf 42 = .ok (.iload 7, 2) := by decide +kernel
theorem dX0_choiceOf_44 : decode cX0_choiceOf 44 = .ok (.istore 5, 2) := by decide +kernel
theorem dX0_choiceOf_46 : decode cX0_choiceOf 46 = .ok (.iinc 6 1, 3) := by decide +kernel
theorem dX0_choiceOf_49 : decode cX0_choiceOf 49 = .ok (.goto (-37), 3) := by decide +kernel
theorem dX0_choiceOf_52 : decode cX0_choiceOf 52 = .ok (.iload 4, 2) := by decide +kernel
theorem dX0_choiceOf_54 : decode cX0_choiceOf 54 = .ok (.ireturn, 1) := by decide +kernel
theorem dX0_pass_0 : decode cX0_pass 0 = .ok (.iconst 0, 1) := by decide +kernel
theorem dX0_pass_1 : decode cX0_pass 1 = .ok (.istore_n 3, 1) := by decide +kernel
theorem dX0_pass_2 : decode cX0_pass 2 = .ok (.iconst 0, 1) := by decide +kernel
theorem dX0_pass_3 : decode cX0_pass 3 = .ok (.istore 4, 2) := by decide +kernel
theorem dX0_pass_5 : decode cX0_pass 5 = .ok (.iconst 0, 1) := by decide +kernel
theorem dX0_pass_6 : decode cX0_pass 6 = .ok (.istore 5, 2) := by decide +kernel
theorem dX0_pass_8 : decode cX0_pass 8 = .ok (.iload 5, 2) := by decide +kernel
theorem dX0_pass_10 : decode cX0_pass 10 = .ok (.aload_n 1, 1) := by decide +kernel
theorem dX0_pass_11 : decode cX0_pass 11 = .ok (.getfield 67, 3) := by decide +kernel
theorem dX0_pass_14 : decode cX0_pass 14 = .ok (.if_icmp .ge 104, 3) := by decide +kernel
theorem dX0_pass_17 : decode cX0_pass 17 = .ok (.aload_n 0, 1) := by decide +kernel
theorem dX0_pass_18 : decode cX0_pass 18 = .ok (.aload_n 1, 1) := by decide +kernel
theorem dX0_pass_19 : decode cX0_pass 19 = .ok (.iload 5, 2) := by decide +kernel
theorem dX0_pass_21 : decode cX0_pass 21 = .ok (.aload_n 2, 1) := by decide +kernel
theorem dX0_pass_22 : decode cX0_pass 22 = .ok (.iconst 0, 1) := by decide +kernel
theorem dX0_pass_23 : decode cX0_pass 23 = .ok (.iaload, 1) := by decide +kernel
theorem dX0_pass_24 : decode cX0_pass 24 = .ok (.invokevirtual 70, 3) := by decide +kernel
theorem dX0_pass_27 : decode cX0_pass 27 = .ok (.istore 6, 2) := by decide +kernel
theorem dX0_pass_29 : decode cX0_pass 29 = .ok (.iload 6, 2) := by decide +kernel
theorem dX0_pass_31 : decode cX0_pass 31 = .ok (.ifCond .lt 81, 3) := by decide +kernel
theorem dX0_pass_34 : decode cX0_pass 34 = .ok (.aload_n 1, 1) := by decide +kernel
theorem dX0_pass_35 : decode cX0_pass 35 = .ok (.iload 5, 2) := by decide +kernel
theorem dX0_pass_37 : decode cX0_pass 37 = .ok (.iload 6, 2) := by decide +kernel
theorem dX0_pass_39 : decode cX0_pass 39 = .ok (.invokevirtual 40, 3) := by decide +kernel
theorem dX0_pass_42 : decode cX0_pass 42 = .ok (.istore 7, 2) := by decide +kernel
theorem dX0_pass_44 : decode cX0_pass 44 = .ok (.iload 7, 2) := by decide +kernel
theorem dX0_pass_46 : decode cX0_pass 46 = .ok (.aload_n 1, 1) := by decide +kernel
theorem dX0_pass_47 : decode cX0_pass 47 = .ok (.iload 6, 2) := by decide +kernel
theorem dX0_pass_49 : decode cX0_pass 49 = .ok (.aload_n 0, 1) := by decide +kernel
theorem dX0_pass_50 : decode cX0_pass 50 = .ok (.getfield 21, 3) := by decide +kernel
theorem dX0_pass_53 : decode cX0_pass 53 = .ok (.invokevirtual 44, 3) := by decide +kernel
theorem dX0_pass_56 : decode cX0_pass 56 = .ok (.imul, 1) := by decide +kernel
theorem dX0_pass_57 : decode cX0_pass 57 = .ok (.istore 8, 2) := by decide +kernel
theorem dX0_pass_59 : decode cX0_pass 59 = .ok (.aload_n 0, 1) := by decide +kernel
theorem dX0_pass_60 : decode cX0_pass 60 = .ok (.getfield 9, 3) := by decide +kernel
theorem dX0_pass_63 : decode cX0_pass 63 = .ok (.iload 5, 2) := by decide +kernel
theorem dX0_pass_65 : decode cX0_pass 65 = .ok (.aload_n 0, 1) := by decide +kernel
theorem dX0_pass_66 : decode cX0_pass 66 = .ok (.aload_n 1, 1) := by decide +kernel
theorem dX0_pass_67 : decode cX0_pass 67 = .ok (.aload_n 2, 1) := by decide +kernel
theorem dX0_pass_68 : decode cX0_pass 68 = .ok (.iload 5, 2) := by decide +kernel
theorem dX0_pass_70 : decode cX0_pass 70 = .ok (.iload 6, 2) := by decide +kernel
theorem dX0_pass_72 : decode cX0_pass 72 = .ok (.invokevirtual 73, 3) := by decide +kernel
theorem dX0_pass_75 : decode cX0_pass 75 = .ok (.iastore, 1) := by decide +kernel
theorem dX0_pass_76 : decode cX0_pass 76 = .ok (.aload_n 0, 1) := by decide +kernel
theorem dX0_pass_77 : decode cX0_pass 77 = .ok (.getfield 15, 3) := by decide +kernel
theorem dX0_pass_80 : decode cX0_pass 80 = .ok (.iload 5, 2) := by decide +kernel
theorem dX0_pass_82 : decode cX0_pass 82 = .ok (.dup2, 1) := by decide +kernel
theorem dX0_pass_83 : decode cX0_pass 83 = .ok (.iaload, 1) := by decide +kernel
theorem dX0_pass_84 : decode cX0_pass 84 = .ok (.iload 7, 2) := by decide +kernel
theorem dX0_pass_86 : decode cX0_pass 86 = .ok (.iadd, 1) := by decide +kernel
theorem dX0_pass_87 : decode cX0_pass 87 = .ok (.iastore, 1) := by decide +kernel
theorem dX0_pass_88 : decode cX0_pass 88 = .ok (.aload_n 0, 1) := by decide +kernel
theorem dX0_pass_89 : decode cX0_pass 89 = .ok (.getfield 18, 3) := by decide +kernel
theorem dX0_pass_92 : decode cX0_pass 92 = .ok (.iload 5, 2) := by decide +kernel
theorem dX0_pass_94 : decode cX0_pass 94 = .ok (.dup2, 1) := by decide +kernel
theorem dX0_pass_95 : decode cX0_pass 95 = .ok (.iaload, 1) := by decide +kernel
theorem dX0_pass_96 : decode cX0_pass 96 = .ok (.iload 8, 2) := by decide +kernel
theorem dX0_pass_98 : decode cX0_pass 98 = .ok (.iadd, 1) := by decide +kernel
theorem dX0_pass_99 : decode cX0_pass 99 = .ok (.iastore, 1) := by decide +kernel
theorem dX0_pass_100 : decode cX0_pass 100 = .ok (.iload_n 3, 1) := by decide +kernel
theorem dX0_pass_101 : decode cX0_pass 101 = .ok (.iload 7, 2) := by decide +kernel
theorem dX0_pass_103 : decode cX0_pass 103 = .ok (.iadd, 1) := by decide +kernel
theorem dX0_pass_104 : decode cX0_pass 104 = .ok (.istore_n 3, 1) := by decide +kernel
theorem dX0_pass_105 : decode cX0_pass 105 = .ok (.iload 4, 2) := by decide +kernel
theorem dX0_pass_107 : decode cX0_pass 107 = .ok (.iload 8, 2) := by decide +kernel
theorem dX0_pass_109 : decode cX0_pass 109 = .ok (.iadd, 1) := by decide +kernel
theorem dX0_pass_110 : decode cX0_pass 110 = .ok (.istore 4, 2) := by decide +kernel
theorem dX0_pass_112 : decode cX0_pass 112 = .ok (.iinc 5 1, 3) := by decide +kernel
theorem dX0_pass_115 : decode cX0_pass 115 = .ok (.goto (-107), 3) := by decide +kernel
theorem dX0_pass_118 : decode cX0_pass 118 = .ok (.aload_n 0, 1) := by decide +kernel
theorem dX0_pass_119 : decode cX0_pass 119 = .ok (.aload_n 0, 1) := by decide +kernel
theorem dX0_pass_120 : decode cX0_pass 120 = .ok (.aload_n 1, 1) := by decide +kernel
theorem dX0_pass_121 : decode cX0_pass 121 = .ok (.aload_n 2, 1) := by decide +kernel
theorem dX0_pass_122 : decode cX0_pass 122 = .ok (.iload 4, 2) := by decide +kernel
theorem dX0_pass_124 : decode cX0_pass 124 = .ok (.invokevirtual 77, 3) := by decide +kernel
theorem dX0_pass_127 : decode cX0_pass 127 = .ok (.putfield 25, 3) := by decide +kernel
theorem dX0_pass_130 : decode cX0_pass 130 = .ok (.aload_n 0, 1) := by decide +kernel
theorem dX0_pass_131 : decode cX0_pass 131 = .ok (.dup, 1) := by decide +kernel
theorem dX0_pass_132 : decode cX0_pass 132 = .ok (.getfield 21, 3) := by decide +kernel
theorem dX0_pass_135 : decode cX0_pass 135 = .ok (.iconst 1, 1) := by decide +kernel
theorem dX0_pass_136 : decode cX0_pass 136 = .ok (.iadd, 1) := by decide +kernel
theorem dX0_pass_137 : decode cX0_pass 137 = .ok (.putfield 21, 3) := by decide +kernel
theorem dX0_pass_140 : decode cX0_pass 140 = .ok (.iload_n 3, 1) := by decide +kernel
theorem dX0_pass_141 : decode cX0_pass 141 = .ok (.ireturn, 1) := by decide +kernel
theorem dX0_likingBehind_0 : decode cX0_likingBehind 0 = .ok (.aload_n 1, 1) := by decide +kernel
theorem dX0_likingBehind_1 : decode cX0_likingBehind 1 = .ok (.iload_n 3, 1) := by decide +kernel
theorem dX0_likingBehind_2 : decode cX0_likingBehind 2 = .ok (.iload 4, 2) := by decide +kernel
theorem dX0_likingBehind_4 : decode cX0_likingBehind 4 = .ok (.invokevirtual 40, 3) := by decide +kernel
theorem dX0_likingBehind_7 : decode cX0_likingBehind 7 = .ok (.istore 5, 2) := by decide +kernel
theorem dX0_likingBehind_9 : decode cX0_likingBehind 9 = .ok (.aload_n 0, 1) := by decide +kernel
theorem dX0_likingBehind_10 : decode cX0_likingBehind 10 = .ok (.getfield 9, 3) := by decide +kernel
theorem dX0_likingBehind_13 : decode cX0_likingBehind 13 = .ok (.iload_n 3, 1) := by decide +kernel
theorem dX0_likingBehind_14 : decode cX0_likingBehind 14 = .ok (.iaload, 1) := by decide +kernel
theorem dX0_likingBehind_15 : decode cX0_likingBehind 15 = .ok (.istore 6, 2) := by decide +kernel
theorem dX0_likingBehind_17 : decode cX0_likingBehind 17 = .ok (.iload 5, 2) := by decide +kernel
theorem dX0_likingBehind_19 : decode cX0_likingBehind 19 = .ok (.ifCond .le 11, 3) := by decide +kernel
theorem dX0_likingBehind_22 : decode cX0_likingBehind 22 = .ok (.iload 6, 2) := by decide +kernel
theorem dX0_likingBehind_24 : decode cX0_likingBehind 24 = .ok (.aload_n 2, 1) := by decide +kernel
theorem dX0_likingBehind_25 : decode cX0_likingBehind 25 = .ok (.iconst 1, 1) := by decide +kernel
theorem dX0_likingBehind_26 : decode cX0_likingBehind 26 = .ok (.iaload, 1) := by decide +kernel
theorem dX0_likingBehind_27 : decode cX0_likingBehind 27 = .ok (.iadd, 1) := by decide +kernel
theorem dX0_likingBehind_28 : decode cX0_likingBehind 28 = .ok (.istore 6, 2) := by decide +kernel
theorem dX0_likingBehind_30 : decode cX0_likingBehind 30 = .ok (.aload_n 1, 1) := by decide +kernel
theorem dX0_likingBehind_31 : decode cX0_likingBehind 31 = .ok (.getfield 54, 3) := by decide +kernel
theorem dX0_likingBehind_34 : decode cX0_likingBehind 34 = .ok (.ifCond .eq 50, 3) := by decide +kernel
theorem dX0_likingBehind_37 : decode cX0_likingBehind 37 = .ok (.aload_n 0, 1) := by decide +kernel
theorem dX0_likingBehind_38 : decode cX0_likingBehind 38 = .ok (.aload_n 1, 1) := by decide +kernel
theorem dX0_likingBehind_39 : decode cX0_likingBehind 39 = .ok (.iload_n 3, 1) := by decide +kernel
theorem dX0_likingBehind_40 : decode cX0_likingBehind 40 = .ok (.iload 4, 2) := by decide +kernel
theorem dX0_likingBehind_42 : decode cX0_likingBehind 42 = .ok (.invokevirtual 58, 3) := by decide +kernel
theorem dX0_likingBehind_45 : decode cX0_likingBehind 45 = .ok (.istore 7, 2) := by decide +kernel
theorem dX0_likingBehind_47 : decode cX0_likingBehind 47 = .ok (.aload_n 0, 1) := by decide +kernel
theorem dX0_likingBehind_48 : decode cX0_likingBehind 48 = .ok (.aload_n 1, 1) := by decide +kernel
theorem dX0_likingBehind_49 : decode cX0_likingBehind 49 = .ok (.iload_n 3, 1) := by decide +kernel
theorem dX0_likingBehind_50 : decode cX0_likingBehind 50 = .ok (.iload 4, 2) := by decide +kernel
theorem dX0_likingBehind_52 : decode cX0_likingBehind 52 = .ok (.invokevirtual 64, 3) := by decide +kernel
theorem dX0_likingBehind_55 : decode cX0_likingBehind 55 = .ok (.istore 8, 2) := by decide +kernel
theorem dX0_likingBehind_57 : decode cX0_likingBehind 57 = .ok (.iload 7, 2) := by decide +kernel
theorem dX0_likingBehind_59 : decode cX0_likingBehind 59 = .ok (.ifCond .le 22, 3) := by decide +kernel
theorem dX0_likingBehind_62 : decode cX0_likingBehind 62 = .ok (.iload 8, 2) := by decide +kernel
theorem dX0_likingBehind_64 : decode cX0_likingBehind 64 = .ok (.ifCond .le 17, 3) := by decide +kernel
theorem dX0_likingBehind_67 : decode cX0_likingBehind 67 = .ok (.iload 6, 2) := by decide +kernel
theorem dX0_likingBehind_69 : decode cX0_likingBehind 69 = .ok (.aload_n 2, 1) := by decide +kernel
theorem dX0_likingBehind_70 : decode cX0_likingBehind 70 = .ok (.iconst 2, 1) := by decide +kernel
theorem dX0_likingBehind_71 : decode cX0_likingBehind 71 = .ok (.iaload, 1) := by decide +kernel
theorem dX0_likingBehind_72 : decode cX0_likingBehind 72 = .ok (.iload 7, 2) := by decide +kernel
theorem dX0_likingBehind_74 : decode cX0_likingBehind 74 = .ok (.imul, 1) := by decide +kernel
theorem dX0_likingBehind_75 : decode cX0_likingBehind 75 = .ok (.iload 8, 2) := by decide +kernel
theorem dX0_likingBehind_77 : decode cX0_likingBehind 77 = .ok (.idiv, 1) := by decide +kernel
theorem dX0_likingBehind_78 : decode cX0_likingBehind 78 = .ok (.isub, 1) := by decide +kernel
theorem dX0_likingBehind_79 : decode cX0_likingBehind 79 = .ok (.istore 6, 2) := by decide +kernel
theorem dX0_likingBehind_81 : decode cX0_likingBehind 81 = .ok (.goto 27, 3) := by decide +kernel
theorem dX0_likingBehind_84 : decode cX0_likingBehind 84 = .ok (.iload 5, 2) := by decide +kernel
theorem dX0_likingBehind_86 : decode cX0_likingBehind 86 = .ok (.aload_n 1, 1) := by decide +kernel
theorem dX0_likingBehind_87 : decode cX0_likingBehind 87 = .ok (.iload 4, 2) := by decide +kernel
theorem dX0_likingBehind_89 : decode cX0_likingBehind 89 = .ok (.aload_n 0, 1) := by decide +kernel
theorem dX0_likingBehind_90 : decode cX0_likingBehind 90 = .ok (.getfield 21, 3) := by decide +kernel
theorem dX0_likingBehind_93 : decode cX0_likingBehind 93 = .ok (.invokevirtual 44, 3) := by decide +kernel
theorem dX0_likingBehind_96 : decode cX0_likingBehind 96 = .ok (.imul, 1) := by decide +kernel
theorem dX0_likingBehind_97 : decode cX0_likingBehind 97 = .ok (.ifCond .le 11, 3) := by decide +kernel
theorem dX0_likingBehind_100 : decode cX0_likingBehind 100 = .ok (.iload 6, 2) := by decide +kernel
theorem dX0_likingBehind_102 : decode cX0_likingBehind 102 = .ok (.aload_n 2, 1) := by decide +kernel
theorem dX0_likingBehind_103 : decode cX0_likingBehind 103 = .ok (.iconst 3, 1) := by decide +kernel
theorem dX0_likingBehind_104 : decode cX0_likingBehind 104 = .ok (.iaload, 1) := by decide +kernel
theorem dX0_likingBehind_105 : decode cX0_likingBehind 105 = .ok (.iadd, 1) := by decide +kernel
theorem dX0_likingBehind_106 : decode cX0_likingBehind 106 = .ok (.istore 6, 2) := by decide +kernel
theorem dX0_likingBehind_108 : decode cX0_likingBehind 108 = .ok (.iconst 0, 1) := by decide +kernel
theorem dX0_likingBehind_109 : decode cX0_likingBehind 109 = .ok (.bipush 100, 2) := by decide +kernel
theorem dX0_likingBehind_111 : decode cX0_likingBehind 111 = .ok (.iload 6, 2) := by decide +kernel
theorem dX0_likingBehind_113 : decode cX0_likingBehind 113 = .ok (.invokestatic 81, 3) := by decide +kernel
theorem dX0_likingBehind_116 : decode cX0_likingBehind 116 = .ok (.invokestatic 86, 3) := by decide +kernel
theorem dX0_likingBehind_119 : decode cX0_likingBehind 119 = .ok (.ireturn, 1) := by decide +kernel
theorem dX0_worthBehind_0 : decode cX0_worthBehind 0 = .ok (.aload_n 0, 1) := by decide +kernel
theorem dX0_worthBehind_1 : decode cX0_worthBehind 1 = .ok (.getfield 25, 3) := by decide +kernel
theorem dX0_worthBehind_4 : decode cX0_worthBehind 4 = .ok (.istore 4, 2) := by decide +kernel
theorem dX0_worthBehind_6 : decode cX0_worthBehind 6 = .ok (.aload_n 1, 1) := by decide +kernel
theorem dX0_worthBehind_7 : decode cX0_worthBehind 7 = .ok (.getfield 67, 3) := by decide +kernel
theorem dX0_worthBehind_10 : decode cX0_worthBehind 10 = .ok (.ifCond .le 21, 3) := by decide +kernel
theorem dX0_worthBehind_13 : decode cX0_worthBehind 13 = .ok (.iload 4, 2) := by decide +kernel
theorem dX0_worthBehind_15 : decode cX0_worthBehind 15 = .ok (.aload_n 2, 1) := by decide +kernel
theorem dX0_worthBehind_16 : decode cX0_worthBehind 16 = .ok (.iconst 4, 1) := by decide +kernel
theorem dX0_worthBehind_17 : decode cX0_worthBehind 17 = .ok (.iaload, 1) := by decide +kernel
theorem dX0_worthBehind_18 : decode cX0_worthBehind 18 = .ok (.iload_n 3, 1) := by decide +kernel
theorem dX0_worthBehind_19 : decode cX0_worthBehind 19 = .ok (.imul, 1) := by decide +kernel
theorem dX0_worthBehind_20 : decode cX0_worthBehind 20 = .ok (.bipush 10, 2) := by decide +kernel
theorem dX0_worthBehind_22 : decode cX0_worthBehind 22 = .ok (.aload_n 1, 1) := by decide +kernel
theorem dX0_worthBehind_23 : decode cX0_worthBehind 23 = .ok (.getfield 67, 3) := by decide +kernel
theorem dX0_worthBehind_26 : decode cX0_worthBehind 26 = .ok (.imul, 1) := by decide +kernel
theorem dX0_worthBehind_27 : decode cX0_worthBehind 27 = .ok (.idiv, 1) := by decide +kernel
theorem dX0_worthBehind_28 : decode cX0_worthBehind 28 = .ok (.isub, 1) := by decide +kernel
theorem dX0_worthBehind_29 : decode cX0_worthBehind 29 = .ok (.istore 4, 2) := by decide +kernel
theorem dX0_worthBehind_31 : decode cX0_worthBehind 31 = .ok (.aload_n 1, 1) := by decide +kernel
theorem dX0_worthBehind_32 : decode cX0_worthBehind 32 = .ok (.aload_n 0, 1) := by decide +kernel
theorem dX0_worthBehind_33 : decode cX0_worthBehind 33 = .ok (.getfield 21, 3) := by decide +kernel
theorem dX0_worthBehind_36 : decode cX0_worthBehind 36 = .ok (.invokevirtual 89, 3) := by decide +kernel
theorem dX0_worthBehind_39 : decode cX0_worthBehind 39 = .ok (.ifCond .eq 11, 3) := by decide +kernel
theorem dX0_worthBehind_42 : decode cX0_worthBehind 42 = .ok (.iload 4, 2) := by decide +kernel
theorem dX0_worthBehind_44 : decode cX0_worthBehind 44 = .ok (.aload_n 2, 1) := by decide +kernel
theorem dX0_worthBehind_45 : decode cX0_worthBehind 45 = .ok (.iconst 5, 1) := by decide +kernel
theorem dX0_worthBehind_46 : decode cX0_worthBehind 46 = .ok (.iaload, 1) := by decide +kernel
theorem dX0_worthBehind_47 : decode cX0_worthBehind 47 = .ok (.iadd, 1) := by decide +kernel
theorem dX0_worthBehind_48 : decode cX0_worthBehind 48 = .ok (.istore 4, 2) := by decide +kernel
theorem dX0_worthBehind_50 : decode cX0_worthBehind 50 = .ok (.iconst 0, 1) := by decide +kernel
theorem dX0_worthBehind_51 : decode cX0_worthBehind 51 = .ok (.bipush 100, 2) := by decide +kernel
theorem dX0_worthBehind_53 : decode cX0_worthBehind 53 = .ok (.iload 4, 2) := by decide +kernel
theorem dX0_worthBehind_55 : decode cX0_worthBehind 55 = .ok (.invokestatic 81, 3) := by decide +kernel
theorem dX0_worthBehind_58 : decode cX0_worthBehind 58 = .ok (.invokestatic 86, 3) := by decide +kernel
theorem dX0_worthBehind_61 : decode cX0_worthBehind 61 = .ok (.ireturn, 1) := by decide +kernel
theorem dX1_init_0 : decode cX1_init 0 = .ok (.aload_n 0, 1) := by decide +kernel
theorem dX1_init_1 : decode cX1_init 1 = .ok (.invokespecial 1, 3) := by decide +kernel
theorem dX1_init_4 : decode cX1_init 4 = .ok (.aload_n 0, 1) := by decide +kernel
theorem dX1_init_5 : decode cX1_init 5 = .ok (.iconst 0, 1) := by decide +kernel
theorem dX1_init_6 : decode cX1_init 6 = .ok (.putfield 7, 3) := by decide +kernel
theorem dX1_init_9 : decode cX1_init 9 = .ok (.aload_n 0, 1) := by decide +kernel
theorem dX1_init_10 : decode cX1_init 10 = .ok (.iconst 0, 1) := by decide +kernel
theorem dX1_init_11 : decode cX1_init 11 = .ok (.putfield 13, 3) := by decide +kernel
theorem dX1_init_14 : decode cX1_init 14 = .ok (.aload_n 0, 1) := by decide +kernel
theorem dX1_init_15 : decode cX1_init 15 = .ok (.new 17, 3) := by decide +kernel
theorem dX1_init_18 : decode cX1_init 18 = .ok (.dup, 1) := by decide +kernel
theorem dX1_init_19 : decode cX1_init 19 = .ok (.invokespecial 19, 3) := by decide +kernel
theorem dX1_init_22 : decode cX1_init 22 = .ok (.putfield 20, 3) := by decide +kernel
theorem dX1_init_25 : decode cX1_init 25 = .ok (.return_, 1) := by decide +kernel
theorem dX2_init_0 : decode cX2_init 0 = .ok (.aload_n 0, 1) := by decide +kernel
theorem dX2_init_1 : decode cX2_init 1 = .ok (.invokespecial 3, 3) := by decide +kernel
theorem dX2_init_4 : decode cX2_init 4 = .ok (.aload_n 0, 1) := by decide +kernel
theorem dX2_init_5 : decode cX2_init 5 = .ok (.bipush 8, 2) := by decide +kernel
theorem dX2_init_7 : decode cX2_init 7 = .ok (.newarray .int, 2) := by decide +kernel
theorem dX2_init_9 : decode cX2_init 9 = .ok (.putfield 9, 3) := by decide +kernel
theorem dX2_init_12 : decode cX2_init 12 = .ok (.aload_n 0, 1) := by decide +kernel
theorem dX2_init_13 : decode cX2_init 13 = .ok (.bipush 8, 2) := by decide +kernel
theorem dX2_init_15 : decode cX2_init 15 = .ok (.newarray .int, 2) := by decide +kernel
theorem dX2_init_17 : decode cX2_init 17 = .ok (.putfield 15, 3) := by decide +kernel
theorem dX2_init_20 : decode cX2_init 20 = .ok (.aload_n 0, 1) := by decide +kernel
theorem dX2_init_21 : decode cX2_init 21 = .ok (.bipush 8, 2) := by decide +kernel
theorem dX2_init_23 : decode cX2_init 23 = .ok (.newarray .int, 2) := by decide +kernel
theorem dX2_init_25 : decode cX2_init 25 = .ok (.putfield 18, 3) := by decide +kernel
theorem dX2_init_28 : decode cX2_init 28 = .ok (.return_, 1) := by decide +kernel
theorem dX2_pagesOf_0 : decode cX2_pagesOf 0 = .ok (.iconst 0, 1) := by decide +kernel
theorem dX2_pagesOf_1 : decode cX2_pagesOf 1 = .ok (.istore_n 2, 1) := by decide +kernel
theorem dX2_pagesOf_2 : decode cX2_pagesOf 2 = .ok (.iconst 0, 1) := by decide +kernel
theorem dX2_pagesOf_3 : decode cX2_pagesOf 3 = .ok (.istore_n 3, 1) := by decide +kernel
theorem dX2_pagesOf_4 : decode cX2_pagesOf 4 = .ok (.iload_n 3, 1) := by decide +kernel
theorem dX2_pagesOf_5 : decode cX2_pagesOf 5 = .ok (.aload_n 0, 1) := by decide +kernel
theorem dX2_pagesOf_6 : decode cX2_pagesOf 6 = .ok (.getfield 21, 3) := by decide +kernel
theorem dX2_pagesOf_9 : decode cX2_pagesOf 9 = .ok (.if_icmp .ge 27, 3) := by decide +kernel
theorem dX2_pagesOf_12 : decode cX2_pagesOf 12 = .ok (.iload_n 1, 1) := by decide +kernel
theorem dX2_pagesOf_13 : decode cX2_pagesOf 13 = .ok (.iload_n 3, 1) := by decide +kernel
theorem dX2_pagesOf_14 : decode cX2_pagesOf 14 = .ok (.ishr, 1) := by decide +kernel
theorem dX2_pagesOf_15 : decode cX2_pagesOf 15 = .ok (.iconst 1, 1) := by decide +kernel
theorem dX2_pagesOf_16 : decode cX2_pagesOf 16 = .ok (.iand, 1) := by decide +kernel
theorem dX2_pagesOf_17 : decode cX2_pagesOf 17 = .ok (.iconst 1, 1) := by decide +kernel
theorem dX2_pagesOf_18 : decode cX2_pagesOf 18 = .ok (.if_icmp .ne 12, 3) := by decide +kernel
theorem dX2_pagesOf_21 : decode cX2_pagesOf 21 = .ok (.iload_n 2, 1) := by decide +kernel
theorem dX2_pagesOf_22 : decode cX2_pagesOf 22 = .ok (.aload_n 0, 1) := by decide +kernel
theorem dX2_pagesOf_23 : decode cX2_pagesOf 23 = .ok (.getfield 9, 3) := by decide +kernel
theorem dX2_pagesOf_26 : decode cX2_pagesOf 26 = .ok (.iload_n 3, 1) := by decide +kernel
theorem dX2_pagesOf_27 : decode cX2_pagesOf 27 = .ok (.iaload, 1) := by decide +kernel
theorem dX2_pagesOf_28 : decode cX2_pagesOf 28 = .ok (.iadd, 1) := by decide +kernel
theorem dX2_pagesOf_29 : decode cX2_pagesOf 29 = .ok (.istore_n 2, 1) := by decide +kernel
theorem dX2_pagesOf_30 : decode cX2_pagesOf 30 = .ok (.iinc 3 1, 3) := by decide +kernel
theorem dX2_pagesOf_33 : decode cX2_pagesOf 33 = .ok (.goto (-29), 3) := by decide +kernel
theorem dX2_pagesOf_36 : decode cX2_pagesOf 36 = .ok (.iload_n 2, 1) := by decide +kernel
theorem dX2_pagesOf_37 : decode cX2_pagesOf 37 = .ok (.ireturn, 1) := by decide +kernel
theorem dX2_hasBy_0 : decode cX2_hasBy 0 = .ok (.iload_n 1, 1) := by decide +kernel
theorem dX2_hasBy_1 : decode cX2_hasBy 1 = .ok (.iload_n 2, 1) := by decide +kernel
theorem dX2_hasBy_2 : decode cX2_hasBy 2 = .ok (.ishr, 1) := by decide +kernel
theorem dX2_hasBy_3 : decode cX2_hasBy 3 = .ok (.iconst 1, 1) := by decide +kernel
theorem dX2_hasBy_4 : decode cX2_hasBy 4 = .ok (.iand, 1) := by decide +kernel
theorem dX2_hasBy_5 : decode cX2_hasBy 5 = .ok (.iconst 1, 1) := by decide +kernel
theorem dX2_hasBy_6 : decode cX2_hasBy 6 = .ok (.if_icmp .ne 12, 3) := by decide +kernel
theorem dX2_hasBy_9 : decode cX2_hasBy 9 = .ok (.aload_n 0, 1) := by decide +kernel
theorem dX2_hasBy_10 : decode cX2_hasBy 10 = .ok (.getfield 15, 3) := by decide +kernel
theorem dX2_hasBy_13 : decode cX2_hasBy 13 = .ok (.iload_n 2, 1) := by decide +kernel
theorem dX2_hasBy_14 : decode cX2_hasBy 14 = .ok (.iaload, 1) := by decide +kernel
theorem dX2_hasBy_15 : decode cX2_hasBy 15 = .ok (.goto 4, 3) := by decide +kernel
theorem dX2_hasBy_18 : decode cX2_hasBy 18 = .ok (.iconst 0, 1) := by decide +kernel
theorem dX2_hasBy_19 : decode cX2_hasBy 19 = .ok (.istore_n 3, 1) := by decide +kernel
theorem dX2_hasBy_20 : decode cX2_hasBy 20 = .ok (.aload_n 0, 1) := by decide +kernel
theorem dX2_hasBy_21 : decode cX2_hasBy 21 = .ok (.iload_n 1, 1) := by decide +kernel
theorem dX2_hasBy_22 : decode cX2_hasBy 22 = .ok (.invokevirtual 25, 3) := by decide +kernel
theorem dX2_hasBy_25 : decode cX2_hasBy 25 = .ok (.aload_n 0, 1) := by decide +kernel
theorem dX2_hasBy_26 : decode cX2_hasBy 26 = .ok (.getfield 29, 3) := by decide +kernel
theorem dX2_hasBy_29 : decode cX2_hasBy 29 = .ok (.if_icmp .lt 14, 3) := by decide +kernel
theorem dX2_hasBy_32 : decode cX2_hasBy 32 = .ok (.iload_n 3, 1) := by decide +kernel
theorem dX2_hasBy_33 : decode cX2_hasBy 33 = .ok (.aload_n 0, 1) := by decide +kernel
theorem dX2_hasBy_34 : decode cX2_hasBy 34 = .ok (.getfield 18, 3) := by decide +kernel
theorem dX2_hasBy_37 : decode cX2_hasBy 37 = .ok (.iload_n 2, 1) := by decide +kernel
theorem dX2_hasBy_38 : decode cX2_hasBy 38 = .ok (.iaload, 1) := by decide +kernel
theorem dX2_hasBy_39 : decode cX2_hasBy 39 = .ok (.iadd, 1) := by decide +kernel
theorem dX2_hasBy_40 : decode cX2_hasBy 40 = .ok (.goto 4, 3) := by decide +kernel
theorem dX2_hasBy_43 : decode cX2_hasBy 43 = .ok (.iload_n 3, 1) := by decide +kernel
theorem dX2_hasBy_44 : decode cX2_hasBy 44 = .ok (.ireturn, 1) := by decide +kernel
theorem dX2_isRest_0 : decode cX2_isRest 0 = .ok (.iconst 0, 1) := by decide +kernel
theorem dX2_isRest_1 : decode cX2_isRest 1 = .ok (.istore_n 2, 1) := by decide +kernel
theorem dX2_isRest_2 : decode cX2_isRest 2 = .ok (.iload_n 2, 1) := by decide +kernel
theorem dX2_isRest_3 : decode cX2_isRest 3 = .ok (.aload_n 0, 1) := by decide +kernel
theorem dX2_isRest_4 : decode cX2_isRest 4 = .ok (.getfield 21, 3) := by decide +kernel
theorem dX2_isRest_7 : decode cX2_isRest 7 = .ok (.if_icmp .ge 30, 3) := by decide +kernel
theorem dX2_isRest_10 : decode cX2_isRest 10 = .ok (.aload_n 0, 1) := by decide +kernel
theorem dX2_isRest_11 : decode cX2_isRest 11 = .ok (.iload_n 1, 1) := by decide +kernel
theorem dX2_isRest_12 : decode cX2_isRest 12 = .ok (.iconst 1, 1) := by decide +kernel
theorem dX2_isRest_13 : decode cX2_isRest 13 = .ok (.iload_n 2, 1) := by decide +kernel
theorem dX2_isRest_14 : decode cX2_isRest 14 = .ok (.ishl, 1) := by decide +kernel
theorem dX2_isRest_15 : decode cX2_isRest 15 = .ok (.ixor, 1) := by decide +kernel
theorem dX2_isRest_16 : decode cX2_isRest 16 = .ok (.iload_n 2, 1) := by decide +kernel
theorem dX2_isRest_17 : decode cX2_isRest 17 = .ok (.invokevirtual 32, 3) := by decide +kernel
theorem dX2_isRest_20 : decode cX2_isRest 20 = .ok (.aload_n 0, 1) := by decide +kernel
theorem dX2_isRest_21 : decode cX2_isRest 21 = .ok (.iload_n 1, 1) := by decide +kernel
theorem dX2_isRest_22 : decode cX2_isRest 22 = .ok (.iload_n 2, 1) := by decide +kernel
theorem dX2_isRest_23 : decode cX2_isRest 23 = .ok (.invokevirtual 32, 3) := by decide +kernel
theorem dX2_isRest_26 : decode cX2_isRest 26 = .ok (.if_icmp .le 5, 3) := by decide +kernel
theorem dX2_isRest_29 : decode cX2_isRest 29 = .ok (.iconst 0, 1) := by decide +kernel
theorem dX2_isRest_30 : decode cX2_isRest 30 = .ok (.ireturn, 1) := by decide +kernel
theorem dX2_isRest_31 : decode cX2_isRest 31 = .ok (.iinc 2 1, 3) := by decide +kernel
theorem dX2_isRest_34 : decode cX2_isRest 34 = .ok (.goto (-32), 3) := by decide +kernel
theorem dX2_isRest_37 : decode cX2_isRest 37 = .ok (.iconst 1, 1) := by decide +kernel
theorem dX2_isRest_38 : decode cX2_isRest 38 = .ok (.ireturn, 1) := by decide +kernel
theorem dX2_blamedFor_0 : decode cX2_blamedFor 0 = .ok (.aload_n 0, 1) := by decide +kernel
theorem dX2_blamedFor_1 : decode cX2_blamedFor 1 = .ok (.iload_n 1, 1) := by decide +kernel
theorem dX2_blamedFor_2 : decode cX2_blamedFor 2 = .ok (.invokevirtual 25, 3) := by decide +kernel
theorem dX2_blamedFor_5 : decode cX2_blamedFor 5 = .ok (.istore_n 2, 1) := by decide +kernel
theorem dX2_blamedFor_6 : decode cX2_blamedFor 6 = .ok (.iload_n 2, 1) := by decide +kernel
theorem dX2_blamedFor_7 : decode cX2_blamedFor 7 = .ok (.aload_n 0, 1) := by decide +kernel
theorem dX2_blamedFor_8 : decode cX2_blamedFor 8 = .ok (.getfield 29, 3) := by decide +kernel
theorem dX2_blamedFor_11 : decode cX2_blamedFor 11 = .ok (.if_icmp .lt 6, 3) := by decide +kernel
theorem dX2_blamedFor_14 : decode cX2_blamedFor 14 = .ok (.bipush (-9), 2) := by decide +kernel
theorem dX2_blamedFor_16 : decode cX2_blamedFor 16 = .ok (.ireturn, 1) := by decide +kernel
theorem dX2_blamedFor_17 : decode cX2_blamedFor 17 = .ok (.iconst 0, 1) := by decide +kernel
theorem dX2_blamedFor_18 : decode cX2_blamedFor 18 = .ok (.istore_n 3, 1) := by decide +kernel
theorem dX2_blamedFor_19 : decode cX2_blamedFor 19 = .ok (.iload_n 3, 1) := by decide +kernel
theorem dX2_blamedFor_20 : decode cX2_blamedFor 20 = .ok (.aload_n 0, 1) := by decide +kernel
theorem dX2_blamedFor_21 : decode cX2_blamedFor 21 = .ok (.getfield 21, 3) := by decide +kernel
theorem dX2_blamedFor_24 : decode cX2_blamedFor 24 = .ok (.if_icmp .ge 34, 3) := by decide +kernel
theorem dX2_blamedFor_27 : decode cX2_blamedFor 27 = .ok (.iload_n 1, 1) := by decide +kernel
theorem dX2_blamedFor_28 : decode cX2_blamedFor 28 = .ok (.iload_n 3, 1) := by decide +kernel
theorem dX2_blamedFor_29 : decode cX2_blamedFor 29 = .ok (.ishr, 1) := by decide +kernel
theorem dX2_blamedFor_30 : decode cX2_blamedFor 30 = .ok (.iconst 1, 1) := by decide +kernel
theorem dX2_blamedFor_31 : decode cX2_blamedFor 31 = .ok (.iand, 1) := by decide +kernel
theorem dX2_blamedFor_32 : decode cX2_blamedFor 32 = .ok (.ifCond .ne 20, 3) := by decide +kernel
theorem dX2_blamedFor_35 : decode cX2_blamedFor 35 = .ok (.iload_n 2, 1) := by decide +kernel
theorem dX2_blamedFor_36 : decode cX2_blamedFor 36 = .ok (.aload_n 0, 1) := by decide +kernel
theorem dX2_blamedFor_37 : decode cX2_blamedFor 37 = .ok (.getfield 9, 3) := by decide +kernel
theorem dX2_blamedFor_40 : decode cX2_blamedFor 40 = .ok (.iload_n 3, 1) := by decide +kernel
theorem dX2_blamedFor_41 : decode cX2_blamedFor 41 = .ok (.iaload, 1) := by decide +kernel
theorem dX2_blamedFor_42 : decode cX2_blamedFor 42 = .ok (.iadd, 1) := by decide +kernel
theorem dX2_blamedFor_43 : decode cX2_blamedFor 43 = .ok (.aload_n 0, 1) := by decide +kernel
theorem dX2_blamedFor_44 : decode cX2_blamedFor 44 = .ok (.getfield 29, 3) := by decide +kernel
theorem dX2_blamedFor_47 : decode cX2_blamedFor 47 = .ok (.if_icmp .lt 5, 3) := by decide +kernel
theorem dX2_blamedFor_50 : decode cX2_blamedFor 50 = .ok (.iload_n 3, 1) := by decide +kernel
theorem dX2_blamedFor_51 : decode cX2_blamedFor 51 = .ok (.ireturn, 1) := by decide +kernel
theorem dX2_blamedFor_52 : decode cX2_blamedFor 52 = .ok (.iinc 3 1, 3) := by decide +kernel
theorem dX2_blamedFor_55 : decode cX2_blamedFor 55 = .ok (.goto (-36), 3) := by decide +kernel
theorem dX2_blamedFor_58 : decode cX2_blamedFor 58 = .ok (.bipush (-9), 2) := by decide +kernel
theorem dX2_blamedFor_60 : decode cX2_blamedFor 60 = .ok (.ireturn, 1) := by decide +kernel
theorem dX3_init_0 : decode cX3_init 0 = .ok (.aload_n 0, 1) := by decide +kernel
theorem dX3_init_1 : decode cX3_init 1 = .ok (.invokespecial 3, 3) := by decide +kernel
theorem dX3_init_4 : decode cX3_init 4 = .ok (.aload_n 0, 1) := by decide +kernel
theorem dX3_init_5 : decode cX3_init 5 = .ok (.iconst 0, 1) := by decide +kernel
theorem dX3_init_6 : decode cX3_init 6 = .ok (.putfield 9, 3) := by decide +kernel
theorem dX3_init_9 : decode cX3_init 9 = .ok (.aload_n 0, 1) := by decide +kernel
theorem dX3_init_10 : decode cX3_init 10 = .ok (.sipush 400, 3) := by decide +kernel
theorem dX3_init_13 : decode cX3_init 13 = .ok (.newarray .int, 2) := by decide +kernel
theorem dX3_init_15 : decode cX3_init 15 = .ok (.putfield 15, 3) := by decide +kernel
theorem dX3_init_18 : decode cX3_init 18 = .ok (.aload_n 0, 1) := by decide +kernel
theorem dX3_init_19 : decode cX3_init 19 = .ok (.new 19, 3) := by decide +kernel
theorem dX3_init_22 : decode cX3_init 22 = .ok (.dup, 1) := by decide +kernel
theorem dX3_init_23 : decode cX3_init 23 = .ok (.invokespecial 21, 3) := by decide +kernel
theorem dX3_init_26 : decode cX3_init 26 = .ok (.putfield 22, 3) := by decide +kernel
theorem dX3_init_29 : decode cX3_init 29 = .ok (.aload_n 0, 1) := by decide +kernel
theorem dX3_init_30 : decode cX3_init 30 = .ok (.sipush 401, 3) := by decide +kernel
theorem dX3_init_33 : decode cX3_init 33 = .ok (.newarray .int, 2) := by decide +kernel
theorem dX3_init_35 : decode cX3_init 35 = .ok (.putfield 26, 3) := by decide +kernel
theorem dX3_init_38 : decode cX3_init 38 = .ok (.aload_n 0, 1) := by decide +kernel
theorem dX3_init_39 : decode cX3_init 39 = .ok (.sipush 401, 3) := by decide +kernel
theorem dX3_init_42 : decode cX3_init 42 = .ok (.newarray .int, 2) := by decide +kernel
theorem dX3_init_44 : decode cX3_init 44 = .ok (.putfield 29, 3) := by decide +kernel
theorem dX3_init_47 : decode cX3_init 47 = .ok (.return_, 1) := by decide +kernel
theorem dX3_hear_0 : decode cX3_hear 0 = .ok (.aload_n 0, 1) := by decide +kernel
theorem dX3_hear_1 : decode cX3_hear 1 = .ok (.getfield 9, 3) := by decide +kernel
theorem dX3_hear_4 : decode cX3_hear 4 = .ok (.iload_n 3, 1) := by decide +kernel
theorem dX3_hear_5 : decode cX3_hear 5 = .ok (.iadd, 1) := by decide +kernel
theorem dX3_hear_6 : decode cX3_hear 6 = .ok (.sipush 400, 3) := by decide +kernel
theorem dX3_hear_9 : decode cX3_hear 9 = .ok (.if_icmp .le 5, 3) := by decide +kernel
theorem dX3_hear_12 : decode cX3_hear 12 = .ok (.iconst 0, 1) := by decide +kernel
theorem dX3_hear_13 : decode cX3_hear 13 = .ok (.ireturn, 1) := by decide +kernel
theorem dX3_hear_14 : decode cX3_hear 14 = .ok (.iload_n 3, 1) := by decide +kernel
theorem dX3_hear_15 : decode cX3_hear 15 = .ok (.iconst 1, 1) := by decide +kernel
theorem dX3_hear_16 : decode cX3_hear 16 = .ok (.isub, 1) := by decide +kernel
theorem dX3_hear_17 : decode cX3_hear 17 = .ok (.istore 4, 2) := by decide +kernel
theorem dX3_hear_19 : decode cX3_hear 19 = .ok (.iload 4, 2) := by decide +kernel
theorem dX3_hear_21 : decode cX3_hear 21 = .ok (.ifCond .lt 40, 3) := by decide +kernel
theorem dX3_hear_24 : decode cX3_hear 24 = .ok (.aload_n 0, 1) := by decide +kernel
theorem dX3_hear_25 : decode cX3_hear 25 = .ok (.getfield 15, 3) := by decide +kernel
theorem dX3_hear_28 : decode cX3_hear 28 = .ok (.aload_n 0, 1) := by decide +kernel
theorem dX3_hear_29 : decode cX3_hear 29 = .ok (.getfield 9, 3) := by decide +kernel
theorem dX3_hear_32 : decode cX3_hear 32 = .ok (.lload_n 1, 1) := by decide +kernel
theorem dX3_hear_33 : decode cX3_hear 33 = .ok (.bipush 8, 2) := by decide +kernel
theorem dX3_hear_35 : decode cX3_hear 35 = .ok (.iload 4, 2) := by decide +kernel
theorem dX3_hear_37 : decode cX3_hear 37 = .ok (.imul, 1) := by decide +kernel
theorem dX3_hear_38 : decode cX3_hear 38 = .ok (.lushr, 1) := by decide +kernel
theorem dX3_hear_39 : decode cX3_hear 39 = .ok (.l2i, 1) := by decide +kernel
theorem dX3_hear_40 : decode cX3_hear 40 = .ok (.sipush 255, 3) := by decide +kernel
theorem dX3_hear_43 : decode cX3_hear 43 = .ok (.iand, 1) := by decide +kernel
theorem dX3_hear_44 : decode cX3_hear 44 = .ok (.iastore, 1) := by decide +kernel
theorem dX3_hear_45 : decode cX3_hear 45 = .ok (.aload_n 0, 1) := by decide +kernel
theorem dX3_hear_46 : decode cX3_hear 46 = .ok (.dup, 1) := by decide +kernel
theorem dX3_hear_47 : decode cX3_hear 47 = .ok (.getfield 9, 3) := by decide +kernel
theorem dX3_hear_50 : decode cX3_hear 50 = .ok (.iconst 1, 1) := by decide +kernel
theorem dX3_hear_51 : decode cX3_hear 51 = .ok (.iadd, 1) := by decide +kernel
theorem dX3_hear_52 : decode cX3_hear 52 = .ok (.putfield 9, 3) := by decide +kernel
theorem dX3_hear_55 : decode cX3_hear 55 = .ok (.iinc 4 (-1), 3) := by decide +kernel
theorem dX3_hear_58 : decode cX3_hear 58 = .ok (.goto (-39), 3) := by decide +kernel
theorem dX3_hear_61 : decode cX3_hear 61 = .ok (.iconst 1, 1) := by decide +kernel
theorem dX3_hear_62 : decode cX3_hear 62 = .ok (.ireturn, 1) := by decide +kernel
theorem dX3_readItems_0 : decode cX3_readItems 0 = .ok (.aload_n 0, 1) := by decide +kernel
theorem dX3_readItems_1 : decode cX3_readItems 1 = .ok (.invokevirtual 32, 3) := by decide +kernel
theorem dX3_readItems_4 : decode cX3_readItems 4 = .ok (.aload_n 0, 1) := by decide +kernel
theorem dX3_readItems_5 : decode cX3_readItems 5 = .ok (.getfield 22, 3) := by decide +kernel
theorem dX3_readItems_8 : decode cX3_readItems 8 = .ok (.invokevirtual 35, 3) := by decide +kernel
theorem dX3_readItems_11 : decode cX3_readItems 11 = .ok (.aload_n 0, 1) := by decide +kernel
theorem dX3_readItems_12 : decode cX3_readItems 12 = .ok (.iconst 0, 1) := by decide +kernel
theorem dX3_readItems_13 : decode cX3_readItems 13 = .ok (.putfield 38, 3) := by decide +kernel
theorem dX3_readItems_16 : decode cX3_readItems 16 = .ok (.aload_n 0, 1) := by decide +kernel
theorem dX3_readItems_17 : decode cX3_readItems 17 = .ok (.iconst 0, 1) := by decide +kernel
theorem dX3_readItems_18 : decode cX3_readItems 18 = .ok (.putfield 42, 3) := by decide +kernel
theorem dX3_readItems_21 : decode cX3_readItems 21 = .ok (.iconst 0, 1) := by decide +kernel
theorem dX3_readItems_22 : decode cX3_readItems 22 = .ok (.istore_n 1, 1) := by decide +kernel
theorem dX3_readItems_23 : decode cX3_readItems 23 = .ok (.iload_n 1, 1) := by decide +kernel
theorem dX3_readItems_24 : decode cX3_readItems 24 = .ok (.sipush 400, 3) := by decide +kernel
theorem dX3_readItems_27 : decode cX3_readItems 27 = .ok (.if_icmp .gt 38, 3) := by decide +kernel
theorem dX3_readItems_30 : decode cX3_readItems 30 = .ok (.aload_n 0, 1) := by decide +kernel
theorem dX3_readItems_31 : decode cX3_readItems 31 = .ok (.invokevirtual 45, 3) := by decide +kernel
theorem dX3_readItems_34 : decode cX3_readItems 34 = .ok (.bipush (-8), 2) := by decide +kernel
theorem dX3_readItems_36 : decode cX3_readItems 36 = .ok (.if_icmp .ne 5, 3) := by decide +kernel
theorem dX3_readItems_39 : decode cX3_readItems 39 = .ok (.iload_n 1, 1) := by decide +kernel
theorem dX3_readItems_40 : decode cX3_readItems 40 = .ok (.ireturn, 1) := by decide +kernel
theorem dX3_readItems_41 : decode cX3_readItems 41 = .ok (.aload_n 0, 1) := by decide +kernel
theorem dX3_readItems_42 : decode cX3_readItems 42 = .ok (.invokevirtual 49, 3) := by decide +kernel
theorem dX3_readItems_45 : decode cX3_readItems 45 = .ok (.ifCond .eq 12, 3) := by decide +kernel
theorem dX3_readItems_48 : decode cX3_readItems 48 = .ok (.aload_n 0, 1) := by decide +kernel
theorem dX3_readItems_49 : decode cX3_readItems 49 = .ok (.bipush (-7), 2) := by decide +kernel
theorem dX3_readItems_51 : decode cX3_readItems 51 = .ok (.invokevirtual 53, 3) := by decide +kernel
theorem dX3_readItems_54 : decode cX3_readItems 54 = .ok (.ifCond .ne 5, 3) := by decide +kernel
theorem dX3_readItems_57 : decode cX3_readItems 57 = .ok (.iconst (-1), 1) := by decide +kernel
theorem dX3_readItems_58 : decode cX3_readItems 58 = .ok (.ireturn, 1) := by decide +kernel
theorem dX3_readItems_59 : decode cX3_readItems 59 = .ok (.iinc 1 1, 3) := by decide +kernel
theorem dX3_readItems_62 : decode cX3_readItems 62 = .ok (.goto (-39), 3) := by decide +kernel
theorem dX3_readItems_65 : decode cX3_readItems 65 = .ok (.iconst (-1), 1) := by decide +kernel
theorem dX3_readItems_66 : decode cX3_readItems 66 = .ok (.ireturn, 1) := by decide +kernel
theorem dX3_fault_0 : decode cX3_fault 0 = .ok (.aload_n 0, 1) := by decide +kernel
theorem dX3_fault_1 : decode cX3_fault 1 = .ok (.getfield 42, 3) := by decide +kernel
theorem dX3_fault_4 : decode cX3_fault 4 = .ok (.aload_n 0, 1) := by decide +kernel
theorem dX3_fault_5 : decode cX3_fault 5 = .ok (.getfield 29, 3) := by decide +kernel
theorem dX3_fault_8 : decode cX3_fault 8 = .ok (.arraylength, 1) := by decide +kernel
theorem dX3_fault_9 : decode cX3_fault 9 = .ok (.if_icmp .ge 15, 3) := by decide +kernel
theorem dX3_fault_12 : decode cX3_fault 12 = .ok (.aload_n 0, 1) := by decide +kernel
theorem dX3_fault_13 : decode cX3_fault 13 = .ok (.getfield 29, 3) := by decide +kernel
theorem dX3_fault_16 : decode cX3_fault 16 = .ok (.aload_n 0, 1) := by decide +kernel
theorem dX3_fault_17 : decode cX3_fault 17 = .ok (.getfield 42, 3) := by decide +kernel
theorem dX3_fault_20 : decode cX3_fault 20 = .ok (.iaload, 1) := by decide +kernel
theorem dX3_fault_21 : decode cX3_fault 21 = .ok (.goto 7, 3) := by decide +kernel
theorem dX3_fault_24 : decode cX3_fault 24 = .ok (.aload_n 0, 1) := by decide +kernel
theorem dX3_fault_25 : decode cX3_fault 25 = .ok (.getfield 9, 3) := by decide +kernel
theorem dX3_fault_28 : decode cX3_fault 28 = .ok (.ireturn, 1) := by decide +kernel
theorem dX3_cut_0 : decode cX3_cut 0 = .ok (.iconst 0, 1) := by decide +kernel
theorem dX3_cut_1 : decode cX3_cut 1 = .ok (.istore_n 1, 1) := by decide +kernel
theorem dX3_cut_2 : decode cX3_cut 2 = .ok (.iconst 0, 1) := by decide +kernel
theorem dX3_cut_3 : decode cX3_cut 3 = .ok (.istore_n 2, 1) := by decide +kernel
theorem dX3_cut_4 : decode cX3_cut 4 = .ok (.iconst 0, 1) := by decide +kernel
theorem dX3_cut_5 : decode cX3_cut 5 = .ok (.istore_n 3, 1) := by decide +kernel
theorem dX3_cut_6 : decode cX3_cut 6 = .ok (.iload_n 3, 1) := by decide +kernel
theorem dX3_cut_7 : decode cX3_cut 7 = .ok (.aload_n 0, 1) := by decide +kernel
theorem dX3_cut_8 : decode cX3_cut 8 = .ok (.getfield 9, 3) := by decide +kernel
theorem dX3_cut_11 : decode cX3_cut 11 = .ok (.if_icmp .ge 53, 3) := by decide +kernel
theorem dX3_cut_14 : decode cX3_cut 14 = .ok (.iload_n 3, 1) := by decide +kernel
theorem dX3_cut_15 : decode cX3_cut 15 = .ok (.iload_n 2, 1) := by decide +kernel
theorem dX3_cut_16 : decode cX3_cut 16 = .ok (.if_icmp .lt 42, 3) := by decide +kernel
theorem dX3_cut_19 : decode cX3_cut 19 = .ok (.aload_n 0, 1) := by decide +kernel
theorem dX3_cut_20 : decode cX3_cut 20 = .ok (.getfield 15, 3) := by decide +kernel
theorem dX3_cut_23 : decode cX3_cut 23 = .ok (.iload_n 3, 1) := by decide +kernel
theorem dX3_cut_24 : decode cX3_cut 24 = .ok (.iaload, 1) := by decide +kernel
theorem dX3_cut_25 : decode cX3_cut 25 = .ok (.bipush 32, 2) := by decide +kernel
theorem dX3_cut_27 : decode cX3_cut 27 = .ok (.if_icmp .eq 31, 3) := by decide +kernel
theorem dX3_cut_30 : decode cX3_cut 30 = .ok (.aload_n 0, 1) := by decide +kernel
theorem dX3_cut_31 : decode cX3_cut 31 = .ok (.iload_n 3, 1) := by decide +kernel
theorem dX3_cut_32 : decode cX3_cut 32 = .ok (.invokevirtual 57, 3) := by decide +kernel
theorem dX3_cut_35 : decode cX3_cut 35 = .ok (.istore_n 2, 1) := by decide +kernel
theorem dX3_cut_36 : decode cX3_cut 36 = .ok (.aload_n 0, 1) := by decide +kernel
theorem dX3_cut_37 : decode cX3_cut 37 = .ok (.getfield 26, 3) := by decide +kernel
theorem dX3_cut_40 : decode cX3_cut 40 = .ok (.iload_n 1, 1) := by decide +kernel
theorem dX3_cut_41 : decode cX3_cut 41 = .ok (.aload_n 0, 1) := by decide +kernel
theorem dX3_cut_42 : decode cX3_cut 42 = .ok (.iload_n 3, 1) := by decide +kernel
theorem dX3_cut_43 : decode cX3_cut 43 = .ok (.iload_n 2, 1) := by decide +kernel
theorem dX3_cut_44 : decode cX3_cut 44 = .ok (.invokevirtual 61, 3) := by decide +kernel
theorem dX3_cut_47 : decode cX3_cut 47 = .ok (.iastore, 1) := by decide +kernel
theorem dX3_cut_48 : decode cX3_cut 48 = .ok (.aload_n 0, 1) := by decide +kernel
theorem dX3_cut_49 : decode cX3_cut 49 = .ok (.getfield 29, 3) := by decide +kernel
theorem dX3_cut_52 : decode cX3_cut 52 = .ok (.iload_n 1, 1) := by decide +kernel
theorem dX3_cut_53 : decode cX3_cut 53 = .ok (.iload_n 3, 1) := by decide +kernel
theorem dX3_cut_54 : decode cX3_cut 54 = .ok (.iastore, 1) := by decide +kernel
theorem dX3_cut_55 : decode cX3_cut 55 = .ok (.iinc 1 1, 3) := by decide +kernel
theorem dX3_cut_58 : decode cX3_cut 58 = .ok (.iinc 3 1, 3) := by decide +kernel
theorem dX3_cut_61 : decode cX3_cut 61 = .ok (.goto (-55), 3) := by decide +kernel
theorem dX3_cut_64 : decode cX3_cut 64 = .ok (.aload_n 0, 1) := by decide +kernel
theorem dX3_cut_65 : decode cX3_cut 65 = .ok (.getfield 26, 3) := by decide +kernel
theorem dX3_cut_68 : decode cX3_cut 68 = .ok (.iload_n 1, 1) := by decide +kernel
theorem dX3_cut_69 : decode cX3_cut 69 = .ok (.bipush (-8), 2) := by decide +kernel
theorem dX3_cut_71 : decode cX3_cut 71 = .ok (.iastore, 1) := by decide +kernel
theorem dX3_cut_72 : decode cX3_cut 72 = .ok (.aload_n 0, 1) := by decide +kernel
theorem dX3_cut_73 : decode cX3_cut 73 = .ok (.getfield 29, 3) := by decide +kernel
theorem dX3_cut_76 : decode cX3_cut 76 = .ok (.iload_n 1, 1) := by decide +kernel
theorem dX3_cut_77 : decode cX3_cut 77 = .ok (.aload_n 0, 1) := by decide +kernel
theorem dX3_cut_78 : decode cX3_cut 78 = .ok (.getfield 9, 3) := by decide +kernel
theorem dX3_cut_81 : decode cX3_cut 81 = .ok (.iastore, 1) := by decide +kernel
theorem dX3_cut_82 : decode cX3_cut 82 = .ok (.return_, 1) := by decide +kernel
theorem dX3_isLetter_0 : decode cX3_isLetter 0 = .ok (.iload_n 0, 1) := by decide +kernel
theorem dX3_isLetter_1 : decode cX3_isLetter 1 = .ok (.bipush 97, 2) := by decide +kernel
theorem dX3_isLetter_3 : decode cX3_isLetter 3 = .ok (.if_icmp .lt 13, 3) := by decide +kernel
theorem dX3_isLetter_6 : decode cX3_isLetter 6 = .ok (.iload_n 0, 1) := by decide +kernel
theorem dX3_isLetter_7 : decode cX3_isLetter 7 = .ok (.bipush 122, 2) := by decide +kernel
theorem dX3_isLetter_9 : decode cX3_isLetter 9 = .ok (.if_icmp .gt 7, 3) := by decide +kernel
theorem dX3_isLetter_12 : decode cX3_isLetter 12 = .ok (.iconst 1, 1) := by decide +kernel
theorem dX3_isLetter_13 : decode cX3_isLetter 13 = .ok (.goto 4, 3) := by decide +kernel
theorem dX3_isLetter_16 : decode cX3_isLetter 16 = .ok (.iconst 0, 1) := by decide +kernel
theorem dX3_isLetter_17 : decode cX3_isLetter 17 = .ok (.ireturn, 1) := by decide +kernel
theorem dX3_isDigit_0 : decode cX3_isDigit 0 = .ok (.iload_n 0, 1) := by decide +kernel
theorem dX3_isDigit_1 : decode cX3_isDigit 1 = .ok (.bipush 48, 2) := by decide +kernel
theorem dX3_isDigit_3 : decode cX3_isDigit 3 = .ok (.if_icmp .lt 13, 3) := by decide +kernel
theorem dX3_isDigit_6 : decode cX3_isDigit 6 = .ok (.iload_n 0, 1) := by decide +kernel
theorem dX3_isDigit_7 : decode cX3_isDigit 7 = .ok (.bipush 57, 2) := by decide +kernel
theorem dX3_isDigit_9 : decode cX3_isDigit 9 = .ok (.if_icmp .gt 7, 3) := by decide +kernel
theorem dX3_isDigit_12 : decode cX3_isDigit 12 = .ok (.iconst 1, 1) := by decide +kernel
theorem dX3_isDigit_13 : decode cX3_isDigit 13 = .ok (.goto 4, 3) := by decide +kernel
theorem dX3_isDigit_16 : decode cX3_isDigit 16 = .ok (.iconst 0, 1) := by decide +kernel
theorem dX3_isDigit_17 : decode cX3_isDigit 17 = .ok (.ireturn, 1) := by decide +kernel
theorem dX3_rowEnd_0 : decode cX3_rowEnd 0 = .ok (.aload_n 0, 1) := by decide +kernel
theorem dX3_rowEnd_1 : decode cX3_rowEnd 1 = .ok (.getfield 15, 3) := by decide +kernel
theorem dX3_rowEnd_4 : decode cX3_rowEnd 4 = .ok (.iload_n 1, 1) := by decide +kernel
theorem dX3_rowEnd_5 : decode cX3_rowEnd 5 = .ok (.iaload, 1) := by decide +kernel
theorem dX3_rowEnd_6 : decode cX3_rowEnd 6 = .ok (.invokestatic 65, 3) := by decide +kernel
theorem dX3_rowEnd_9 : decode cX3_rowEnd 9 = .ok (.istore_n 2, 1) := by decide +kernel
theorem dX3_rowEnd_10 : decode cX3_rowEnd 10 = .ok (.aload_n 0, 1) := by decide +kernel
theorem dX3_rowEnd_11 : decode cX3_rowEnd 11 = .ok (.getfield 15, 3) := by decide +kernel
theorem dX3_rowEnd_14 : decode cX3_rowEnd 14 = .ok (.iload_n 1, 1) := by decide +kernel
theorem dX3_rowEnd_15 : decode cX3_rowEnd 15 = .ok (.iaload, 1) := by decide +kernel
theorem dX3_rowEnd_16 : decode cX3_rowEnd 16 = .ok (.invokestatic 68, 3) := by decide +kernel
theorem dX3_rowEnd_19 : decode cX3_rowEnd 19 = .ok (.istore_n 3, 1) := by decide +kernel
theorem dX3_rowEnd_20 : decode cX3_rowEnd 20 = .ok (.iload_n 1, 1) := by decide +kernel
theorem dX3_rowEnd_21 : decode cX3_rowEnd 21 = .ok (.iconst 1, 1) := by decide +kernel
theorem dX3_rowEnd_22 : decode cX3_rowEnd 22 = .ok (.iadd, 1) := by decide +kernel
theorem dX3_rowEnd_23 : decode cX3_rowEnd 23 = .ok (.istore 4, 2) := by decide +kernel
theorem dX3_rowEnd_25 : decode cX3_rowEnd 25 = .ok (.iload 4, 2) := by decide +kernel
theorem dX3_rowEnd_27 : decode cX3_rowEnd 27 = .ok (.aload_n 0, 1) := by decide +kernel
theorem dX3_rowEnd_28 : decode cX3_rowEnd 28 = .ok (.getfield 9, 3) := by decide +kernel
theorem dX3_rowEnd_31 : decode cX3_rowEnd 31 = .ok (.if_icmp .ge 43, 3) := by decide +kernel
theorem dX3_rowEnd_34 : decode cX3_rowEnd 34 = .ok (.iload_n 2, 1) := by decide +kernel
theorem dX3_rowEnd_35 : decode cX3_rowEnd 35 = .ok (.ifCond .eq 16, 3) := by decide +kernel
theorem dX3_rowEnd_38 : decode cX3_rowEnd 38 = .ok (.aload_n 0, 1) := by decide +kernel
theorem dX3_rowEnd_39 : decode cX3_rowEnd 39 = .ok (.getfield 15, 3) := by decide +kernel
theorem dX3_rowEnd_42 : decode cX3_rowEnd 42 = .ok (.iload 4, 2) := by decide +kernel
theorem dX3_rowEnd_44 : decode cX3_rowEnd 44 = .ok (.iaload, 1) := by decide +kernel
theorem dX3_rowEnd_45 : decode cX3_rowEnd 45 = .ok (.invokestatic 65, 3) := by decide +kernel
theorem dX3_rowEnd_48 : decode cX3_rowEnd 48 = .ok (.ifCond .ne 20, 3) := by decide +kernel
theorem dX3_rowEnd_51 : decode cX3_rowEnd 51 = .ok (.iload_n 3, 1) := by decide +kernel
theorem dX3_rowEnd_52 : decode cX3_rowEnd 52 = .ok (.ifCond .eq 22, 3) := by decide +kernel
theorem dX3_rowEnd_55 : decode cX3_rowEnd 55 = .ok (.aload_n 0, 1) := by decide +kernel
theorem dX3_rowEnd_56 : decode cX3_rowEnd 56 = .ok (.getfield 15, 3) := by decide +kernel
theorem dX3_rowEnd_59 : decode cX3_rowEnd 59 = .ok (.iload 4, 2) := by decide +kernel
theorem dX3_rowEnd_61 : decode cX3_rowEnd 61 = .ok (.iaload, 1) := by decide +kernel
theorem dX3_rowEnd_62 : decode cX3_rowEnd 62 = .ok (.invokestatic 68, 3) := by decide +kernel
theorem dX3_rowEnd_65 : decode cX3_rowEnd 65 = .ok (.ifCond .eq 9, 3) := by decide +kernel
theorem dX3_rowEnd_68 : decode cX3_rowEnd 68 = .ok (.iinc 4 1, 3) := by decide +kernel
theorem dX3_rowEnd_71 : decode cX3_rowEnd 71 = .ok (.goto (-46), 3) := by decide +kernel
theorem dX3_rowEnd_74 : decode cX3_rowEnd 74 = .ok (.iload 4, 2) := by decide +kernel
theorem dX3_rowEnd_76 : decode cX3_rowEnd 76 = .ok (.ireturn, 1) := by decide +kernel
theorem dX3_tokenOf_0 : decode cX3_tokenOf 0 = .ok (.aload_n 0, 1) := by decide +kernel
theorem dX3_tokenOf_1 : decode cX3_tokenOf 1 = .ok (.getfield 15, 3) := by decide +kernel
theorem dX3_tokenOf_4 : decode cX3_tokenOf 4 = .ok (.iload_n 1, 1) := by decide +kernel
theorem dX3_tokenOf_5 : decode cX3_tokenOf 5 = .ok (.iaload, 1) := by decide +kernel
theorem dX3_tokenOf_6 : decode cX3_tokenOf 6 = .ok (.bipush 59, 2) := by decide +kernel
theorem dX3_tokenOf_8 : decode cX3_tokenOf 8 = .ok (.if_icmp .ne 6, 3) := by decide +kernel
theorem dX3_tokenOf_11 : decode cX3_tokenOf 11 = .ok (.bipush (-7), 2) := by decide +kernel
theorem dX3_tokenOf_13 : decode cX3_tokenOf 13 = .ok (.ireturn, 1) := by decide +kernel
theorem dX3_tokenOf_14 : decode cX3_tokenOf 14 = .ok (.aload_n 0, 1) := by decide +kernel
theorem dX3_tokenOf_15 : decode cX3_tokenOf 15 = .ok (.getfield 15, 3) := by decide +kernel
theorem dX3_tokenOf_18 : decode cX3_tokenOf 18 = .ok (.iload_n 1, 1) := by decide +kernel
theorem dX3_tokenOf_19 : decode cX3_tokenOf 19 = .ok (.iaload, 1) := by decide +kernel
theorem dX3_tokenOf_20 : decode cX3_tokenOf 20 = .ok (.invokestatic 68, 3) := by decide +kernel
theorem dX3_tokenOf_23 : decode cX3_tokenOf 23 = .ok (.ifCond .eq 10, 3) := by decide +kernel
theorem dX3_tokenOf_26 : decode cX3_tokenOf 26 = .ok (.aload_n 0, 1) := by decide +kernel
theorem dX3_tokenOf_27 : decode cX3_tokenOf 27 = .ok (.iload_n 1, 1) := by decide +kernel
theorem dX3_tokenOf_28 : decode cX3_tokenOf 28 = .ok (.iload_n 2, 1) := by decide +kernel
theorem dX3_tokenOf_29 : decode cX3_tokenOf 29 = .ok (.invokevirtual 71, 3) := by decide +kernel
theorem dX3_tokenOf_32 : decode cX3_tokenOf 32 = .ok (.ireturn, 1) := by decide +kernel
theorem dX3_tokenOf_33 : decode cX3_tokenOf 33 = .ok (.aload_n 0, 1) := by decide +kernel
theorem dX3_tokenOf_34 : decode cX3_tokenOf 34 = .ok (.iload_n 1, 1) := by decide +kernel
theorem dX3_tokenOf_35 : decode cX3_tokenOf 35 = .ok (.iload_n 2, 1) := by decide +kernel
theorem dX3_tokenOf_36 : decode cX3_tokenOf 36 = .ok (.ldc 74, 2) := by decide +kernel
theorem dX3_tokenOf_38 : decode cX3_tokenOf 38 = .ok (.invokevirtual 76, 3) := by decide +kernel
theorem dX3_tokenOf_41 : decode cX3_tokenOf 41 = .ok (.ifCond .eq 5, 3) := by decide +kernel
theorem dX3_tokenOf_44 : decode cX3_tokenOf 44 = .ok (.iconst (-1), 1) := by decide +kernel
theorem dX3_tokenOf_45 : decode cX3_tokenOf 45 = .ok (.ireturn, 1) := by decide +kernel
theorem dX3_tokenOf_46 : decode cX3_tokenOf 46 = .ok (.aload_n 0, 1) := by decide +kernel
theorem dX3_tokenOf_47 : decode cX3_tokenOf 47 = .ok (.iload_n 1, 1) := by decide +kernel
theorem dX3_tokenOf_48 : decode cX3_tokenOf 48 = .ok (.iload_n 2, 1) := by decide +kernel
theorem dX3_tokenOf_49 : decode cX3_tokenOf 49 = .ok (.ldc 80, 2) := by decide +kernel
theorem dX3_tokenOf_51 : decode cX3_tokenOf 51 = .ok (.invokevirtual 76, 3) := by decide +kernel
theorem dX3_tokenOf_54 : decode cX3_tokenOf 54 = .ok (.ifCond .eq 6, 3) := by decide +kernel
theorem dX3_tokenOf_57 : decode cX3_tokenOf 57 = .ok (.bipush (-2), 2) := by decide +kernel
theorem dX3_tokenOf_59 : decode cX3_tokenOf 59 = .ok (.ireturn, 1) := by decide +kernel
theorem dX3_tokenOf_60 : decode cX3_tokenOf 60 = .ok (.aload_n 0, 1) := by decide +kernel
theorem dX3_tokenOf_61 : decode cX3_tokenOf 61 = .ok (.iload_n 1, 1) := by decide +kernel
theorem dX3_tokenOf_62 : decode cX3_tokenOf 62 = .ok (.iload_n 2, 1) := by decide +kernel
theorem dX3_tokenOf_63 : decode cX3_tokenOf 63 = .ok (.ldc 82, 2) := by decide +kernel
theorem dX3_tokenOf_65 : decode cX3_tokenOf 65 = .ok (.invokevirtual 76, 3) := by decide +kernel
theorem dX3_tokenOf_68 : decode cX3_tokenOf 68 = .ok (.ifCond .eq 6, 3) := by decide +kernel
theorem dX3_tokenOf_71 : decode cX3_tokenOf 71 = .ok (.bipush (-3), 2) := by decide +kernel
theorem dX3_tokenOf_73 : decode cX3_tokenOf 73 = .ok (.ireturn, 1) := by decide +kernel
theorem dX3_tokenOf_74 : decode cX3_tokenOf 74 = .ok (.aload_n 0, 1) := by decide +kernel
theorem dX3_tokenOf_75 : decode cX3_tokenOf 75 = .ok (.iload_n 1, 1) := by decide +kernel
theorem dX3_tokenOf_76 : decode cX3_tokenOf 76 = .ok (.iload_n 2, 1) := by decide +kernel
theorem dX3_tokenOf_77 : decode cX3_tokenOf 77 = .ok (.ldc 84, 2) := by decide +kernel
theorem dX3_tokenOf_79 : decode cX3_tokenOf 79 = .ok (.invokevirtual 76, 3) := by decide +kernel
theorem dX3_tokenOf_82 : decode cX3_tokenOf 82 = .ok (.ifCond .eq 6, 3) := by decide +kernel
theorem dX3_tokenOf_85 : decode cX3_tokenOf 85 = .ok (.bipush (-4), 2) := by decide +kernel
theorem dX3_tokenOf_87 : decode cX3_tokenOf 87 = .ok (.ireturn, 1) := by decide +kernel
theorem dX3_tokenOf_88 : decode cX3_tokenOf 88 = .ok (.aload_n 0, 1) := by decide +kernel
theorem dX3_tokenOf_89 : decode cX3_tokenOf 89 = .ok (.iload_n 1, 1) := by decide +kernel
theorem dX3_tokenOf_90 : decode cX3_tokenOf 90 = .ok (.iload_n 2, 1) := by decide +kernel
theorem dX3_tokenOf_91 : decode cX3_tokenOf 91 = .ok (.ldc 86, 2) := by decide +kernel
theorem dX3_tokenOf_93 : decode cX3_tokenOf 93 = .ok (.invokevirtual 76, 3) := by decide +kernel
theorem dX3_tokenOf_96 : decode cX3_tokenOf 96 = .ok (.ifCond .eq 6, 3) := by decide +kernel
theorem dX3_tokenOf_99 : decode cX3_tokenOf 99 = .ok (.bipush (-5), 2) := by decide +kernel
theorem dX3_tokenOf_101 : decode cX3_tokenOf 101 = .ok (.ireturn, 1) := by decide +kernel
theorem dX3_tokenOf_102 : decode cX3_tokenOf 102 = .ok (.aload_n 0, 1) := by decide +kernel
theorem dX3_tokenOf_103 : decode cX3_tokenOf 103 = .ok (.iload_n 1, 1) := by decide +kernel
theorem dX3_tokenOf_104 : decode cX3_tokenOf 104 = .ok (.iload_n 2, 1) := by decide +kernel
theorem dX3_tokenOf_105 : decode cX3_tokenOf 105 = .ok (.ldc 88, 2) := by decide +kernel
theorem dX3_tokenOf_107 : decode cX3_tokenOf 107 = .ok (.invokevirtual 76, 3) := by decide +kernel
theorem dX3_tokenOf_110 : decode cX3_tokenOf 110 = .ok (.ifCond .eq 6, 3) := by decide +kernel
theorem dX3_tokenOf_113 : decode cX3_tokenOf 113 = .ok (.bipush (-6), 2) := by decide +kernel
theorem dX3_tokenOf_115 : decode cX3_tokenOf 115 = .ok (.ireturn, 1) := by decide +kernel
theorem dX3_tokenOf_116 : decode cX3_tokenOf 116 = .ok (.bipush (-9), 2) := by decide +kernel
theorem dX3_tokenOf_118 : decode cX3_tokenOf 118 = .ok (.ireturn, 1) := by decide +kernel
theorem dX3_numberOf_0 : decode cX3_numberOf 0 = .ok (.iload_n 2, 1) := by decide +kernel
theorem dX3_numberOf_1 : decode cX3_numberOf 1 = .ok (.iload_n 1, 1) := by decide +kernel
theorem dX3_numberOf_2 : decode cX3_numberOf 2 = .ok (.isub, 1) := by decide +kernel
theorem dX3_numberOf_3 : decode cX3_numberOf 3 = .ok (.iconst 3, 1) := by decide +kernel
theorem dX3_numberOf_4 : decode cX3_numberOf 4 = .ok (.if_icmp .gt 21, 3) := by decide +kernel
theorem dX3_numberOf_7 : decode cX3_numberOf 7 = .ok (.aload_n 0, 1) := by decide +kernel
theorem dX3_numberOf_8 : decode cX3_numberOf 8 = .ok (.getfield 15, 3) := by decide +kernel
theorem dX3_numberOf_11 : decode cX3_numberOf 11 = .ok (.iload_n 1, 1) := by decide +kernel
theorem dX3_numberOf_12 : decode cX3_numberOf 12 = .ok (.iaload, 1) := by decide +kernel
theorem dX3_numberOf_13 : decode cX3_numberOf 13 = .ok (.bipush 48, 2) := by decide +kernel
theorem dX3_numberOf_15 : decode cX3_numberOf 15 = .ok (.if_icmp .ne 13, 3) := by decide +kernel
theorem dX3_numberOf_18 : decode cX3_numberOf 18 = .ok (.iload_n 2, 1) := by decide +kernel
theorem dX3_numberOf_19 : decode cX3_numberOf 19 = .ok (.iload_n 1, 1) := by decide +kernel
theorem dX3_numberOf_20 : decode cX3_numberOf 20 = .ok (.isub, 1) := by decide +kernel
theorem dX3_numberOf_21 : decode cX3_numberOf 21 = .ok (.iconst 1, 1) := by decide +kernel
theorem dX3_numberOf_22 : decode cX3_numberOf 22 = .ok (.if_icmp .le 6, 3) := by decide +kernel
theorem dX3_numberOf_25 : decode cX3_numberOf 25 = .ok (.bipush (-9), 2) := by decide +kernel
theorem dX3_numberOf_27 : decode cX3_numberOf 27 = .ok (.ireturn, 1) := by decide +kernel
theorem dX3_numberOf_28 : decode cX3_numberOf 28 = .ok (.iconst 0, 1) := by decide +kernel
theorem dX3_numberOf_29 : decode cX3_numberOf 29 = .ok (.istore_n 3, 1) := by decide +kernel
theorem dX3_numberOf_30 : decode cX3_numberOf 30 = .ok (.iload_n 1, 1) := by decide +kernel
theorem dX3_numberOf_31 : decode cX3_numberOf 31 = .ok (.istore 4, 2) := by decide +kernel
theorem dX3_numberOf_33 : decode cX3_numberOf 33 = .ok (.iload 4, 2) := by decide +kernel
theorem dX3_numberOf_35 : decode cX3_numberOf 35 = .ok (.iload_n 2, 1) := by decide +kernel
theorem dX3_numberOf_36 : decode cX3_numberOf 36 = .ok (.if_icmp .ge 25, 3) := by decide +kernel
theorem dX3_numberOf_39 : decode cX3_numberOf 39 = .ok (.bipush 10, 2) := by decide +kernel
theorem dX3_numberOf_41 : decode cX3_numberOf 41 = .ok (.iload_n 3, 1) := by decide +kernel
theorem dX3_numberOf_42 : decode cX3_numberOf 42 = .ok (.imul, 1) := by decide +kernel
theorem dX3_numberOf_43 : decode cX3_numberOf 43 = .ok (.aload_n 0, 1) := by decide +kernel
theorem dX3_numberOf_44 : decode cX3_numberOf 44 = .ok (.getfield 15, 3) := by decide +kernel
theorem dX3_numberOf_47 : decode cX3_numberOf 47 = .ok (.iload 4, 2) := by decide +kernel
theorem dX3_numberOf_49 : decode cX3_numberOf 49 = .ok (.iaload, 1) := by decide +kernel
theorem dX3_numberOf_50 : decode cX3_numberOf 50 = .ok (.iadd, 1) := by decide +kernel
theorem dX3_numberOf_51 : decode cX3_numberOf 51 = .ok (.bipush 48, 2) := by decide +kernel
theorem dX3_numberOf_53 : decode cX3_numberOf 53 = .ok (.isub, 1) := by decide +kernel
theorem dX3_numberOf_54 : decode cX3_numberOf 54 = .ok (.istore_n 3, 1) := by decide +kernel
theorem dX3_numberOf_55 : decode cX3_numberOf 55 = .ok (.iinc 4 1, 3) := by decide +kernel
theorem dX3_numberOf_58 : decode cX3_numberOf 58 = .ok (.goto (-25), 3) := by decide +kernel
theorem dX3_numberOf_61 : decode cX3_numberOf 61 = .ok (.iload_n 3, 1) := by decide +kernel
theorem dX3_numberOf_62 : decode cX3_numberOf 62 = .ok (.bipush 100, 2) := by decide +kernel
theorem dX3_numberOf_64 : decode cX3_numberOf 64 = .ok (.if_icmp .le 8, 3) := by decide +kernel
theorem dX3_numberOf_67 : decode cX3_numberOf 67 = .ok (.bipush (-9), 2) := by decide +kernel
theorem dX3_numberOf_69 : decode cX3_numberOf 69 = .ok (.goto 4, 3) := by decide +kernel
theorem dX3_numberOf_72 : decode cX3_numberOf 72 = .ok (.iload_n 3, 1) := by decide +kernel
theorem dX3_numberOf_73 : decode cX3_numberOf 73 = .ok (.ireturn, 1) := by decide +kernel
theorem dX3_spells_0 : decode cX3_spells 0 = .ok (.iload_n 2, 1) := by decide +kernel
theorem dX3_spells_1 : decode cX3_spells 1 = .ok (.iload_n 1, 1) := by decide +kernel
theorem dX3_spells_2 : decode cX3_spells 2 = .ok (.isub, 1) := by decide +kernel
theorem dX3_spells_3 : decode cX3_spells 3 = .ok (.aload_n 3, 1) := by decide +kernel
theorem dX3_spells_4 : decode cX3_spells 4 = .ok (.invokevirtual 90, 3) := by decide +kernel
theorem dX3_spells_7 : decode cX3_spells 7 = .ok (.if_icmp .eq 5, 3) := by decide +kernel
theorem dX3_spells_10 : decode cX3_spells 10 = .ok (.iconst 0, 1) := by decide +kernel
theorem dX3_spells_11 : decode cX3_spells 11 = .ok (.ireturn, 1) := by decide +kernel
theorem dX3_spells_12 : decode cX3_spells 12 = .ok (.iconst 0, 1) := by decide +kernel
theorem dX3_spells_13 : decode cX3_spells 13 = .ok (.istore 4, 2) := by decide +kernel
theorem dX3_spells_15 : decode cX3_spells 15 = .ok (.iload 4, 2) := by decide +kernel
theorem dX3_spells_17 : decode cX3_spells 17 = .ok (.aload_n 3, 1) := by decide +kernel
theorem dX3_spells_18 : decode cX3_spells 18 = .ok (.invokevirtual 90, 3) := by decide +kernel
theorem dX3_spells_21 : decode cX3_spells 21 = .ok (.if_icmp .ge 29, 3) := by decide +kernel
theorem dX3_spells_24 : decode cX3_spells 24 = .ok (.aload_n 0, 1) := by decide +kernel
theorem dX3_spells_25 : decode cX3_spells 25 = .ok (.getfield 15, 3) := by decide +kernel
theorem dX3_spells_28 : decode cX3_spells 28 = .ok (.iload_n 1, 1) := by decide +kernel
theorem dX3_spells_29 : decode cX3_spells 29 = .ok (.iload 4, 2) := by decide +kernel
theorem dX3_spells_31 : decode cX3_spells 31 = .ok (.iadd, 1) := by decide +kernel
theorem dX3_spells_32 : decode cX3_spells 32 = .ok (.iaload, 1) := by decide +kernel
theorem dX3_spells_33 : decode cX3_spells 33 = .ok (.aload_n 3, 1) := by decide +kernel
theorem dX3_spells_34 : decode cX3_spells 34 = .ok (.iload 4, 2) := by decide +kernel
theorem dX3_spells_36 : decode cX3_spells 36 = .ok (.invokevirtual 94, 3) := by decide +kernel
theorem dX3_spells_39 : decode cX3_spells 39 = .ok (.if_icmp .eq 5, 3) := by decide +kernel
theorem dX3_spells_42 : decode cX3_spells 42 = .ok (.iconst 0, 1) := by decide +kernel
theorem dX3_spells_43 : decode cX3_spells 43 = .ok (.ireturn, 1) := by decide +kernel
theorem dX3_spells_44 : decode cX3_spells 44 = .ok (.iinc 4 1, 3) := by decide +kernel
theorem dX3_spells_47 : decode cX3_spells 47 = .ok (.goto (-32), 3) := by decide +kernel
theorem dX3_spells_50 : decode cX3_spells 50 = .ok (.iconst 1, 1) := by decide +kernel
theorem dX3_spells_51 : decode cX3_spells 51 = .ok (.ireturn, 1) := by decide +kernel
theorem dX3_seen_0 : decode cX3_seen 0 = .ok (.aload_n 0, 1) := by decide +kernel
theorem dX3_seen_1 : decode cX3_seen 1 = .ok (.getfield 42, 3) := by decide +kernel
theorem dX3_seen_4 : decode cX3_seen 4 = .ok (.aload_n 0, 1) := by decide +kernel
theorem dX3_seen_5 : decode cX3_seen 5 = .ok (.getfield 26, 3) := by decide +kernel
theorem dX3_seen_8 : decode cX3_seen 8 = .ok (.arraylength, 1) := by decide +kernel
theorem dX3_seen_9 : decode cX3_seen 9 = .ok (.if_icmp .ge 15, 3) := by decide +kernel
theorem dX3_seen_12 : decode cX3_seen 12 = .ok (.aload_n 0, 1) := by decide +kernel
theorem dX3_seen_13 : decode cX3_seen 13 = .ok (.getfield 26, 3) := by decide +kernel
theorem dX3_seen_16 : decode cX3_seen 16 = .ok (.aload_n 0, 1) := by decide +kernel
theorem dX3_seen_17 : decode cX3_seen 17 = .ok (.getfield 42, 3) := by decide +kernel
theorem dX3_seen_20 : decode cX3_seen 20 = .ok (.iaload, 1) := by decide +kernel
theorem dX3_seen_21 : decode cX3_seen 21 = .ok (.goto 5, 3) := by decide +kernel
theorem dX3_seen_24 : decode cX3_seen 24 = .ok (.bipush (-8), 2) := by decide +kernel
theorem dX3_seen_26 : decode cX3_seen 26 = .ok (.ireturn, 1) := by decide +kernel
theorem dX3_readNumber_0 : decode cX3_readNumber 0 = .ok (.aload_n 0, 1) := by decide +kernel
theorem dX3_readNumber_1 : decode cX3_readNumber 1 = .ok (.invokevirtual 45, 3) := by decide +kernel
theorem dX3_readNumber_4 : decode cX3_readNumber 4 = .ok (.istore_n 3, 1) := by decide +kernel
theorem dX3_readNumber_5 : decode cX3_readNumber 5 = .ok (.iload_n 3, 1) := by decide +kernel
theorem dX3_readNumber_6 : decode cX3_readNumber 6 = .ok (.iload_n 1, 1) := by decide +kernel
theorem dX3_readNumber_7 : decode cX3_readNumber 7 = .ok (.iload_n 2, 1) := by decide +kernel
theorem dX3_readNumber_8 : decode cX3_readNumber 8 = .ok (.invokestatic 98, 3) := by decide +kernel
theorem dX3_readNumber_11 : decode cX3_readNumber 11 = .ok (.ifCond .ne 5, 3) := by decide +kernel
theorem dX3_readNumber_14 : decode cX3_readNumber 14 = .ok (.iconst (-1), 1) := by decide +kernel
theorem dX3_readNumber_15 : decode cX3_readNumber 15 = .ok (.ireturn, 1) := by decide +kernel
theorem dX3_readNumber_16 : decode cX3_readNumber 16 = .ok (.aload_n 0, 1) := by decide +kernel
theorem dX3_readNumber_17 : decode cX3_readNumber 17 = .ok (.dup, 1) := by decide +kernel
theorem dX3_readNumber_18 : decode cX3_readNumber 18 = .ok (.getfield 42, 3) := by decide +kernel
theorem dX3_readNumber_21 : decode cX3_readNumber 21 = .ok (.iconst 1, 1) := by decide +kernel
theorem dX3_readNumber_22 : decode cX3_readNumber 22 = .ok (.iadd, 1) := by decide +kernel
theorem dX3_readNumber_23 : decode cX3_readNumber 23 = .ok (.putfield 42, 3) := by decide +kernel
theorem dX3_readNumber_26 : decode cX3_readNumber 26 = .ok (.iload_n 3, 1) := by decide +kernel
theorem dX3_readNumber_27 : decode cX3_readNumber 27 = .ok (.ireturn, 1) := by decide +kernel
theorem dX3_readWord_0 : decode cX3_readWord 0 = .ok (.aload_n 0, 1) := by decide +kernel
theorem dX3_readWord_1 : decode cX3_readWord 1 = .ok (.invokevirtual 45, 3) := by decide +kernel
theorem dX3_readWord_4 : decode cX3_readWord 4 = .ok (.iload_n 1, 1) := by decide +kernel
theorem dX3_readWord_5 : decode cX3_readWord 5 = .ok (.if_icmp .eq 5, 3) := by decide +kernel
theorem dX3_readWord_8 : decode cX3_readWord 8 = .ok (.iconst 0, 1) := by decide +kernel
theorem dX3_readWord_9 : decode cX3_readWord 9 = .ok (.ireturn, 1) := by decide +kernel
theorem dX3_readWord_10 : decode cX3_readWord 10 = .ok (.aload_n 0, 1) := by decide +kernel
theorem dX3_readWord_11 : decode cX3_readWord 11 = .ok (.dup, 1) := by decide +kernel
theorem dX3_readWord_12 : decode cX3_readWord 12 = .ok (.getfield 42, 3) := by decide +kernel
theorem dX3_readWord_15 : decode cX3_readWord 15 = .ok (.iconst 1, 1) := by decide +kernel
theorem dX3_readWord_16 : decode cX3_readWord 16 = .ok (.iadd, 1) := by decide +kernel
theorem dX3_readWord_17 : decode cX3_readWord 17 = .ok (.putfield 42, 3) := by decide +kernel
theorem dX3_readWord_20 : decode cX3_readWord 20 = .ok (.iconst 1, 1) := by decide +kernel
theorem dX3_readWord_21 : decode cX3_readWord 21 = .ok (.ireturn, 1) := by decide +kernel
theorem dX3_readItem_0 : decode cX3_readItem 0 = .ok (.aload_n 0, 1) := by decide +kernel
theorem dX3_readItem_1 : decode cX3_readItem 1 = .ok (.invokevirtual 45, 3) := by decide +kernel
theorem dX3_readItem_4 : decode cX3_readItem 4 = .ok (.tableswitch 114 (-6) (-1) #[109, 114, 114, 89, 65, 40], 40) := by decide +kernel
theorem dX3_readItem_44 : decode cX3_readItem 44 = .ok (.aload_n 0, 1) := by decide +kernel
theorem dX3_readItem_45 : decode cX3_readItem 45 = .ok (.getfield 22, 3) := by decide +kernel
theorem dX3_readItem_48 : decode cX3_readItem 48 = .ok (.getfield 102, 3) := by decide +kernel
theorem dX3_readItem_51 : decode cX3_readItem 51 = .ok (.bipush 8, 2) := by decide +kernel
theorem dX3_readItem_53 : decode cX3_readItem 53 = .ok (.if_icmp .ge 14, 3) := by decide +kernel
theorem dX3_readItem_56 : decode cX3_readItem 56 = .ok (.aload_n 0, 1) := by decide +kernel
theorem dX3_readItem_57 : decode cX3_readItem 57 = .ok (.invokevirtual 105, 3) := by decide +kernel
theorem dX3_readItem_60 : decode cX3_readItem 60 = .ok (.ifCond .eq 7, 3) := by decide +kernel
theorem dX3_readItem_63 : decode cX3_readItem 63 = .ok (.iconst 1, 1) := by decide +kernel
theorem dX3_readItem_64 : decode cX3_readItem 64 = .ok (.goto 4, 3) := by decide +kernel
theorem dX3_readItem_67 : decode cX3_readItem 67 = .ok (.iconst 0, 1) := by decide +kernel
theorem dX3_readItem_68 : decode cX3_readItem 68 = .ok (.ireturn, 1) := by decide +kernel
theorem dX3_readItem_69 : decode cX3_readItem 69 = .ok (.aload_n 0, 1) := by decide +kernel
theorem dX3_readItem_70 : decode cX3_readItem 70 = .ok (.getfield 22, 3) := by decide +kernel
theorem dX3_readItem_73 : decode cX3_readItem 73 = .ok (.getfield 108, 3) := by decide +kernel
theorem dX3_readItem_76 : decode cX3_readItem 76 = .ok (.iconst 4, 1) := by decide +kernel
theorem dX3_readItem_77 : decode cX3_readItem 77 = .ok (.if_icmp .ge 14, 3) := by decide +kernel
theorem dX3_readItem_80 : decode cX3_readItem 80 = .ok (.aload_n 0, 1) := by decide +kernel
theorem dX3_readItem_81 : decode cX3_readItem 81 = .ok (.invokevirtual 111, 3) := by decide +kernel
theorem dX3_readItem_84 : decode cX3_readItem 84 = .ok (.ifCond .eq 7, 3) := by decide +kernel
theorem dX3_readItem_87 : decode cX3_readItem 87 = .ok (.iconst 1, 1) := by decide +kernel
theorem dX3_readItem_88 : decode cX3_readItem 88 = .ok (.goto 4, 3) := by decide +kernel
theorem dX3_readItem_91 : decode cX3_readItem 91 = .ok (.iconst 0, 1) := by decide +kernel
theorem dX3_readItem_92 : decode cX3_readItem 92 = .ok (.ireturn, 1) := by decide +kernel
theorem dX3_readItem_93 : decode cX3_readItem 93 = .ok (.aload_n 0, 1) := by decide +kernel
theorem dX3_readItem_94 : decode cX3_readItem 94 = .ok (.getfield 38, 3) := by decide +kernel
theorem dX3_readItem_97 : decode cX3_readItem 97 = .ok (.ifCond .ne 14, 3) := by decide +kernel
theorem dX3_readItem_100 : decode cX3_readItem 100 = .ok (.aload_n 0, 1) := by decide +kernel
theorem dX3_readItem_101 : decode cX3_readItem 101 = .ok (.invokevirtual 114, 3) := by decide +kernel
theorem dX3_readItem_104 : decode cX3_readItem 104 = .ok (.ifCond .eq 7, 3) := by decide +kernel
theorem dX3_readItem_107 : decode cX3_readItem 107 = .ok (.iconst 1, 1) := by decide +kernel
theorem dX3_readItem_108 : decode cX3_readItem 108 = .ok (.goto 4, 3) := by decide +kernel
theorem dX3_readItem_111 : decode cX3_readItem 111 = .ok (.iconst 0, 1) := by decide +kernel
theorem dX3_readItem_112 : decode cX3_readItem 112 = .ok (.ireturn, 1) := by decide +kernel
theorem dX3_readItem_113 : decode cX3_readItem 113 = .ok (.aload_n 0, 1) := by decide +kernel
theorem dX3_readItem_114 : decode cX3_readItem 114 = .ok (.invokevirtual 117, 3) := by decide +kernel
theorem dX3_readItem_117 : decode cX3_readItem 117 = .ok (.ireturn, 1) := by decide +kernel
theorem dX3_readItem_118 : decode cX3_readItem 118 = .ok (.iconst 0, 1) := by decide +kernel
theorem dX3_readItem_119 : decode cX3_readItem 119 = .ok (.ireturn, 1) := by decide +kernel
theorem dX3_readChild_0 : decode cX3_readChild 0 = .ok (.aload_n 0, 1) := by decide +kernel
theorem dX3_readChild_1 : decode cX3_readChild 1 = .ok (.dup, 1) := by decide +kernel
theorem dX3_readChild_2 : decode cX3_readChild 2 = .ok (.getfield 42, 3) := by decide +kernel
theorem dX3_readChild_5 : decode cX3_readChild 5 = .ok (.iconst 1, 1) := by decide +kernel
theorem dX3_readChild_6 : decode cX3_readChild 6 = .ok (.iadd, 1) := by decide +kernel
theorem dX3_readChild_7 : decode cX3_readChild 7 = .ok (.putfield 42, 3) := by decide +kernel
theorem dX3_readChild_10 : decode cX3_readChild 10 = .ok (.aload_n 0, 1) := by decide +kernel
theorem dX3_readChild_11 : decode cX3_readChild 11 = .ok (.iconst 0, 1) := by decide +kernel
theorem dX3_readChild_12 : decode cX3_readChild 12 = .ok (.bipush 100, 2) := by decide +kernel
theorem dX3_readChild_14 : decode cX3_readChild 14 = .ok (.invokevirtual 120, 3) := by decide +kernel
theorem dX3_readChild_17 : decode cX3_readChild 17 = .ok (.istore_n 1, 1) := by decide +kernel
theorem dX3_readChild_18 : decode cX3_readChild 18 = .ok (.iload_n 1, 1) := by decide +kernel
theorem dX3_readChild_19 : decode cX3_readChild 19 = .ok (.ifCond .ge 5, 3) := by decide +kernel
theorem dX3_readChild_22 : decode cX3_readChild 22 = .ok (.iconst 0, 1) := by decide +kernel
theorem dX3_readChild_23 : decode cX3_readChild 23 = .ok (.ireturn, 1) := by decide +kernel
theorem dX3_readChild_24 : decode cX3_readChild 24 = .ok (.aload_n 0, 1) := by decide +kernel
theorem dX3_readChild_25 : decode cX3_readChild 25 = .ok (.iconst 1, 1) := by decide +kernel
theorem dX3_readChild_26 : decode cX3_readChild 26 = .ok (.bipush 9, 2) := by decide +kernel
theorem dX3_readChild_28 : decode cX3_readChild 28 = .ok (.invokevirtual 120, 3) := by decide +kernel
theorem dX3_readChild_31 : decode cX3_readChild 31 = .ok (.istore_n 2, 1) := by decide +kernel
theorem dX3_readChild_32 : decode cX3_readChild 32 = .ok (.iload_n 2, 1) := by decide +kernel
theorem dX3_readChild_33 : decode cX3_readChild 33 = .ok (.ifCond .ge 5, 3) := by decide +kernel
theorem dX3_readChild_36 : decode cX3_readChild 36 = .ok (.iconst 0, 1) := by decide +kernel
theorem dX3_readChild_37 : decode cX3_readChild 37 = .ok (.ireturn, 1) := by decide +kernel
theorem dX3_readChild_38 : decode cX3_readChild 38 = .ok (.aload_n 0, 1) := by decide +kernel
theorem dX3_readChild_39 : decode cX3_readChild 39 = .ok (.iconst 0, 1) := by decide +kernel
theorem dX3_readChild_40 : decode cX3_readChild 40 = .ok (.bipush 9, 2) := by decide +kernel
theorem dX3_readChild_42 : decode cX3_readChild 42 = .ok (.invokevirtual 120, 3) := by decide +kernel
theorem dX3_readChild_45 : decode cX3_readChild 45 = .ok (.istore_n 3, 1) := by decide +kernel
theorem dX3_readChild_46 : decode cX3_readChild 46 = .ok (.iload_n 3, 1) := by decide +kernel
theorem dX3_readChild_47 : decode cX3_readChild 47 = .ok (.ifCond .ge 5, 3) := by decide +kernel
theorem dX3_readChild_50 : decode cX3_readChild 50 = .ok (.iconst 0, 1) := by decide +kernel
theorem dX3_readChild_51 : decode cX3_readChild 51 = .ok (.ireturn, 1) := by decide +kernel
theorem dX3_readChild_52 : decode cX3_readChild 52 = .ok (.aload_n 0, 1) := by decide +kernel
theorem dX3_readChild_53 : decode cX3_readChild 53 = .ok (.getfield 22, 3) := by decide +kernel
theorem dX3_readChild_56 : decode cX3_readChild 56 = .ok (.iload_n 1, 1) := by decide +kernel
theorem dX3_readChild_57 : decode cX3_readChild 57 = .ok (.iload_n 2, 1) := by decide +kernel
theorem dX3_readChild_58 : decode cX3_readChild 58 = .ok (.iload_n 3, 1) := by decide +kernel
theorem dX3_readChild_59 : decode cX3_readChild 59 = .ok (.invokevirtual 123, 3) := by decide +kernel
theorem dX3_readChild_62 : decode cX3_readChild 62 = .ok (.iconst 1, 1) := by decide +kernel
theorem dX3_readChild_63 : decode cX3_readChild 63 = .ok (.ireturn, 1) := by decide +kernel
theorem dX3_readBook_0 : decode cX3_readBook 0 = .ok (.aload_n 0, 1) := by decide +kernel
theorem dX3_readBook_1 : decode cX3_readBook 1 = .ok (.dup, 1) := by decide +kernel
theorem dX3_readBook_2 : decode cX3_readBook 2 = .ok (.getfield 42, 3) := by decide +kernel
theorem dX3_readBook_5 : decode cX3_readBook 5 = .ok (.iconst 1, 1) := by decide +kernel
theorem dX3_readBook_6 : decode cX3_readBook 6 = .ok (.iadd, 1) := by decide +kernel
theorem dX3_readBook_7 : decode cX3_readBook 7 = .ok (.putfield 42, 3) := by decide +kernel
theorem dX3_readBook_10 : decode cX3_readBook 10 = .ok (.aload_n 0, 1) := by decide +kernel
theorem dX3_readBook_11 : decode cX3_readBook 11 = .ok (.iconst 1, 1) := by decide +kernel
theorem dX3_readBook_12 : decode cX3_readBook 12 = .ok (.bipush 9, 2) := by decide +kernel
theorem dX3_readBook_14 : decode cX3_readBook 14 = .ok (.invokevirtual 120, 3) := by decide +kernel
theorem dX3_readBook_17 : decode cX3_readBook 17 = .ok (.istore_n 1, 1) := by decide +kernel
theorem dX3_readBook_18 : decode cX3_readBook 18 = .ok (.iload_n 1, 1) := by decide +kernel
theorem dX3_readBook_19 : decode cX3_readBook 19 = .ok (.ifCond .ge 5, 3) := by decide +kernel
theorem dX3_readBook_22 : decode cX3_readBook 22 = .ok (.iconst 0, 1) := by decide +kernel
theorem dX3_readBook_23 : decode cX3_readBook 23 = .ok (.ireturn, 1) := by decide +kernel
theorem dX3_readBook_24 : decode cX3_readBook 24 = .ok (.aload_n 0, 1) := by decide +kernel
theorem dX3_readBook_25 : decode cX3_readBook 25 = .ok (.iconst 0, 1) := by decide +kernel
theorem dX3_readBook_26 : decode cX3_readBook 26 = .ok (.bipush 9, 2) := by decide +kernel
theorem dX3_readBook_28 : decode cX3_readBook 28 = .ok (.invokevirtual 120, 3) := by decide +kernel
theorem dX3_readBook_31 : decode cX3_readBook 31 = .ok (.istore_n 2, 1) := by decide +kernel
theorem dX3_readBook_32 : decode cX3_readBook 32 = .ok (.iload_n 2, 1) := by decide +kernel
theorem dX3_readBook_33 : decode cX3_readBook 33 = .ok (.ifCond .ge 5, 3) := by decide +kernel
theorem dX3_readBook_36 : decode cX3_readBook 36 = .ok (.iconst 0, 1) := by decide +kernel
theorem dX3_readBook_37 : decode cX3_readBook 37 = .ok (.ireturn, 1) := by decide +kernel
theorem dX3_readBook_38 : decode cX3_readBook 38 = .ok (.aload_n 0, 1) := by decide +kernel
theorem dX3_readBook_39 : decode cX3_readBook 39 = .ok (.getfield 22, 3) := by decide +kernel
theorem dX3_readBook_42 : decode cX3_readBook 42 = .ok (.iload_n 1, 1) := by decide +kernel
theorem dX3_readBook_43 : decode cX3_readBook 43 = .ok (.iload_n 2, 1) := by decide +kernel
theorem dX3_readBook_44 : decode cX3_readBook 44 = .ok (.invokevirtual 127, 3) := by decide +kernel
theorem dX3_readBook_47 : decode cX3_readBook 47 = .ok (.iconst 1, 1) := by decide +kernel
theorem dX3_readBook_48 : decode cX3_readBook 48 = .ok (.ireturn, 1) := by decide +kernel
theorem dX3_readPlan_0 : decode cX3_readPlan 0 = .ok (.aload_n 0, 1) := by decide +kernel
theorem dX3_readPlan_1 : decode cX3_readPlan 1 = .ok (.dup, 1) := by decide +kernel
theorem dX3_readPlan_2 : decode cX3_readPlan 2 = .ok (.getfield 42, 3) := by decide +kernel
theorem dX3_readPlan_5 : decode cX3_readPlan 5 = .ok (.iconst 1, 1) := by decide +kernel
theorem dX3_readPlan_6 : decode cX3_readPlan 6 = .ok (.iadd, 1) := by decide +kernel
theorem dX3_readPlan_7 : decode cX3_readPlan 7 = .ok (.putfield 42, 3) := by decide +kernel
theorem dX3_readPlan_10 : decode cX3_readPlan 10 = .ok (.aload_n 0, 1) := by decide +kernel
theorem dX3_readPlan_11 : decode cX3_readPlan 11 = .ok (.iconst 0, 1) := by decide +kernel
theorem dX3_readPlan_12 : decode cX3_readPlan 12 = .ok (.bipush 99, 2) := by decide +kernel
theorem dX3_readPlan_14 : decode cX3_readPlan 14 = .ok (.invokevirtual 120, 3) := by decide +kernel
theorem dX3_readPlan_17 : decode cX3_readPlan 17 = .ok (.istore_n 1, 1) := by decide +kernel
theorem dX3_readPlan_18 : decode cX3_readPlan 18 = .ok (.iload_n 1, 1) := by decide +kernel
theorem dX3_readPlan_19 : decode cX3_readPlan 19 = .ok (.ifCond .ge 5, 3) := by decide +kernel
theorem dX3_readPlan_22 : decode cX3_readPlan 22 = .ok (.iconst 0, 1) := by decide +kernel
theorem dX3_readPlan_23 : decode cX3_readPlan 23 = .ok (.ireturn, 1) := by decide +kernel
theorem dX3_readPlan_24 : decode cX3_readPlan 24 = .ok (.aload_n 0, 1) := by decide +kernel
theorem dX3_readPlan_25 : decode cX3_readPlan 25 = .ok (.iload_n 1, 1) := by decide +kernel
theorem dX3_readPlan_26 : decode cX3_readPlan 26 = .ok (.bipush 99, 2) := by decide +kernel
theorem dX3_readPlan_28 : decode cX3_readPlan 28 = .ok (.invokevirtual 120, 3) := by decide +kernel
theorem dX3_readPlan_31 : decode cX3_readPlan 31 = .ok (.istore_n 2, 1) := by decide +kernel
theorem dX3_readPlan_32 : decode cX3_readPlan 32 = .ok (.iload_n 2, 1) := by decide +kernel
theorem dX3_readPlan_33 : decode cX3_readPlan 33 = .ok (.ifCond .ge 5, 3) := by decide +kernel
theorem dX3_readPlan_36 : decode cX3_readPlan 36 = .ok (.iconst 0, 1) := by decide +kernel
theorem dX3_readPlan_37 : decode cX3_readPlan 37 = .ok (.ireturn, 1) := by decide +kernel
theorem dX3_readPlan_38 : decode cX3_readPlan 38 = .ok (.aload_n 0, 1) := by decide +kernel
theorem dX3_readPlan_39 : decode cX3_readPlan 39 = .ok (.bipush (-4), 2) := by decide +kernel
theorem dX3_readPlan_41 : decode cX3_readPlan 41 = .ok (.invokevirtual 53, 3) := by decide +kernel
theorem dX3_readPlan_44 : decode cX3_readPlan 44 = .ok (.ifCond .ne 7, 3) := by decide +kernel
theorem dX3_readPlan_47 : decode cX3_readPlan 47 = .ok (.iconst 1, 1) := by decide +kernel
theorem dX3_readPlan_48 : decode cX3_readPlan 48 = .ok (.goto 4, 3) := by decide +kernel
theorem dX3_readPlan_51 : decode cX3_readPlan 51 = .ok (.iconst 0, 1) := by decide +kernel
theorem dX3_readPlan_52 : decode cX3_readPlan 52 = .ok (.istore_n 3, 1) := by decide +kernel
theorem dX3_readPlan_53 : decode cX3_readPlan 53 = .ok (.aload_n 0, 1) := by decide +kernel
theorem dX3_readPlan_54 : decode cX3_readPlan 54 = .ok (.bipush (-5), 2) := by decide +kernel
theorem dX3_readPlan_56 : decode cX3_readPlan 56 = .ok (.invokevirtual 53, 3) := by decide +kernel
theorem dX3_readPlan_59 : decode cX3_readPlan 59 = .ok (.ifCond .eq 13, 3) := by decide +kernel
theorem dX3_readPlan_62 : decode cX3_readPlan 62 = .ok (.aload_n 0, 1) := by decide +kernel
theorem dX3_readPlan_63 : decode cX3_readPlan 63 = .ok (.iconst 0, 1) := by decide +kernel
theorem dX3_readPlan_64 : decode cX3_readPlan 64 = .ok (.bipush 20, 2) := by decide +kernel
theorem dX3_readPlan_66 : decode cX3_readPlan 66 = .ok (.invokevirtual 120, 3) := by decide +kernel
theorem dX3_readPlan_69 : decode cX3_readPlan 69 = .ok (.goto 4, 3) := by decide +kernel
theorem dX3_readPlan_72 : decode cX3_readPlan 72 = .ok (.iconst 0, 1) := by decide +kernel
theorem dX3_readPlan_73 : decode cX3_readPlan 73 = .ok (.istore 4, 2) := by decide +kernel
theorem dX3_readPlan_75 : decode cX3_readPlan 75 = .ok (.iload 4, 2) := by decide +kernel
theorem dX3_readPlan_77 : decode cX3_readPlan 77 = .ok (.ifCond .ge 5, 3) := by decide +kernel
theorem dX3_readPlan_80 : decode cX3_readPlan 80 = .ok (.iconst 0, 1) := by decide +kernel
theorem dX3_readPlan_81 : decode cX3_readPlan 81 = .ok (.ireturn, 1) := by decide +kernel
theorem dX3_readPlan_82 : decode cX3_readPlan 82 = .ok (.aload_n 0, 1) := by decide +kernel
theorem dX3_readPlan_83 : decode cX3_readPlan 83 = .ok (.getfield 22, 3) := by decide +kernel
theorem dX3_readPlan_86 : decode cX3_readPlan 86 = .ok (.iload_n 1, 1) := by decide +kernel
theorem dX3_readPlan_87 : decode cX3_readPlan 87 = .ok (.iload_n 2, 1) := by decide +kernel
theorem dX3_readPlan_88 : decode cX3_readPlan 88 = .ok (.iload_n 3, 1) := by decide +kernel
theorem dX3_readPlan_89 : decode cX3_readPlan 89 = .ok (.iload 4, 2) := by decide +kernel
theorem dX3_readPlan_91 : decode cX3_readPlan 91 = .ok (.invokevirtual 131, 3) := by decide +kernel
theorem dX3_readPlan_94 : decode cX3_readPlan 94 = .ok (.aload_n 0, 1) := by decide +kernel
theorem dX3_readPlan_95 : decode cX3_readPlan 95 = .ok (.iconst 1, 1) := by decide +kernel
theorem dX3_readPlan_96 : decode cX3_readPlan 96 = .ok (.putfield 38, 3) := by decide +kernel
theorem dX3_readPlan_99 : decode cX3_readPlan 99 = .ok (.iconst 1, 1) := by decide +kernel
theorem dX3_readPlan_100 : decode cX3_readPlan 100 = .ok (.ireturn, 1) := by decide +kernel
theorem dX3_readPay_0 : decode cX3_readPay 0 = .ok (.aload_n 0, 1) := by decide +kernel
theorem dX3_readPay_1 : decode cX3_readPay 1 = .ok (.dup, 1) := by decide +kernel
theorem dX3_readPay_2 : decode cX3_readPay 2 = .ok (.getfield 42, 3) := by decide +kernel
theorem dX3_readPay_5 : decode cX3_readPay 5 = .ok (.iconst 1, 1) := by decide +kernel
theorem dX3_readPay_6 : decode cX3_readPay 6 = .ok (.iadd, 1) := by decide +kernel
theorem dX3_readPay_7 : decode cX3_readPay 7 = .ok (.putfield 42, 3) := by decide +kernel
theorem dX3_readPay_10 : decode cX3_readPay 10 = .ok (.aload_n 0, 1) := by decide +kernel
theorem dX3_readPay_11 : decode cX3_readPay 11 = .ok (.iconst 0, 1) := by decide +kernel
theorem dX3_readPay_12 : decode cX3_readPay 12 = .ok (.aload_n 0, 1) := by decide +kernel
theorem dX3_readPay_13 : decode cX3_readPay 13 = .ok (.getfield 22, 3) := by decide +kernel
theorem dX3_readPay_16 : decode cX3_readPay 16 = .ok (.getfield 108, 3) := by decide +kernel
theorem dX3_readPay_19 : decode cX3_readPay 19 = .ok (.iconst 1, 1) := by decide +kernel
theorem dX3_readPay_20 : decode cX3_readPay 20 = .ok (.isub, 1) := by decide +kernel
theorem dX3_readPay_21 : decode cX3_readPay 21 = .ok (.invokevirtual 120, 3) := by decide +kernel
theorem dX3_readPay_24 : decode cX3_readPay 24 = .ok (.istore_n 1, 1) := by decide +kernel
theorem dX3_readPay_25 : decode cX3_readPay 25 = .ok (.iload_n 1, 1) := by decide +kernel
theorem dX3_readPay_26 : decode cX3_readPay 26 = .ok (.ifCond .ge 5, 3) := by decide +kernel
theorem dX3_readPay_29 : decode cX3_readPay 29 = .ok (.iconst 0, 1) := by decide +kernel
theorem dX3_readPay_30 : decode cX3_readPay 30 = .ok (.ireturn, 1) := by decide +kernel
theorem dX3_readPay_31 : decode cX3_readPay 31 = .ok (.aload_n 0, 1) := by decide +kernel
theorem dX3_readPay_32 : decode cX3_readPay 32 = .ok (.iconst 0, 1) := by decide +kernel
theorem dX3_readPay_33 : decode cX3_readPay 33 = .ok (.bipush 9, 2) := by decide +kernel
theorem dX3_readPay_35 : decode cX3_readPay 35 = .ok (.invokevirtual 120, 3) := by decide +kernel
theorem dX3_readPay_38 : decode cX3_readPay 38 = .ok (.istore_n 2, 1) := by decide +kernel
theorem dX3_readPay_39 : decode cX3_readPay 39 = .ok (.iload_n 2, 1) := by decide +kernel
theorem dX3_readPay_40 : decode cX3_readPay 40 = .ok (.ifCond .ge 5, 3) := by decide +kernel
theorem dX3_readPay_43 : decode cX3_readPay 43 = .ok (.iconst 0, 1) := by decide +kernel
theorem dX3_readPay_44 : decode cX3_readPay 44 = .ok (.ireturn, 1) := by decide +kernel
theorem dX3_readPay_45 : decode cX3_readPay 45 = .ok (.aload_n 0, 1) := by decide +kernel
theorem dX3_readPay_46 : decode cX3_readPay 46 = .ok (.getfield 22, 3) := by decide +kernel
theorem dX3_readPay_49 : decode cX3_readPay 49 = .ok (.getfield 135, 3) := by decide +kernel
theorem dX3_readPay_52 : decode cX3_readPay 52 = .ok (.iload_n 1, 1) := by decide +kernel
theorem dX3_readPay_53 : decode cX3_readPay 53 = .ok (.iload_n 2, 1) := by decide +kernel
theorem dX3_readPay_54 : decode cX3_readPay 54 = .ok (.iastore, 1) := by decide +kernel
theorem dX3_readPay_55 : decode cX3_readPay 55 = .ok (.iconst 1, 1) := by decide +kernel
theorem dX3_readPay_56 : decode cX3_readPay 56 = .ok (.ireturn, 1) := by decide +kernel
theorem dX4_init_0 : decode cX4_init 0 = .ok (.aload_n 0, 1) := by decide +kernel
theorem dX4_init_1 : decode cX4_init 1 = .ok (.invokespecial 3, 3) := by decide +kernel
theorem dX4_init_4 : decode cX4_init 4 = .ok (.aload_n 0, 1) := by decide +kernel
theorem dX4_init_5 : decode cX4_init 5 = .ok (.bipush 8, 2) := by decide +kernel
theorem dX4_init_7 : decode cX4_init 7 = .ok (.newarray .int, 2) := by decide +kernel
theorem dX4_init_9 : decode cX4_init 9 = .ok (.putfield 9, 3) := by decide +kernel
theorem dX4_init_12 : decode cX4_init 12 = .ok (.aload_n 0, 1) := by decide +kernel
theorem dX4_init_13 : decode cX4_init 13 = .ok (.bipush 8, 2) := by decide +kernel
theorem dX4_init_15 : decode cX4_init 15 = .ok (.newarray .int, 2) := by decide +kernel
theorem dX4_init_17 : decode cX4_init 17 = .ok (.putfield 15, 3) := by decide +kernel
theorem dX4_init_20 : decode cX4_init 20 = .ok (.aload_n 0, 1) := by decide +kernel
theorem dX4_init_21 : decode cX4_init 21 = .ok (.bipush 8, 2) := by decide +kernel
theorem dX4_init_23 : decode cX4_init 23 = .ok (.newarray .int, 2) := by decide +kernel
theorem dX4_init_25 : decode cX4_init 25 = .ok (.putfield 18, 3) := by decide +kernel
theorem dX4_init_28 : decode cX4_init 28 = .ok (.aload_n 0, 1) := by decide +kernel
theorem dX4_init_29 : decode cX4_init 29 = .ok (.iconst 4, 1) := by decide +kernel
theorem dX4_init_30 : decode cX4_init 30 = .ok (.newarray .int, 2) := by decide +kernel
theorem dX4_init_32 : decode cX4_init 32 = .ok (.putfield 21, 3) := by decide +kernel
theorem dX4_init_35 : decode cX4_init 35 = .ok (.aload_n 0, 1) := by decide +kernel
theorem dX4_init_36 : decode cX4_init 36 = .ok (.iconst 4, 1) := by decide +kernel
theorem dX4_init_37 : decode cX4_init 37 = .ok (.newarray .int, 2) := by decide +kernel
theorem dX4_init_39 : decode cX4_init 39 = .ok (.putfield 24, 3) := by decide +kernel
theorem dX4_init_42 : decode cX4_init 42 = .ok (.aload_n 0, 1) := by decide +kernel
theorem dX4_init_43 : decode cX4_init 43 = .ok (.iconst 4, 1) := by decide +kernel
theorem dX4_init_44 : decode cX4_init 44 = .ok (.newarray .int, 2) := by decide +kernel
theorem dX4_init_46 : decode cX4_init 46 = .ok (.putfield 27, 3) := by decide +kernel
theorem dX4_init_49 : decode cX4_init 49 = .ok (.return_, 1) := by decide +kernel
theorem dX4_wipe_0 : decode cX4_wipe 0 = .ok (.aload_n 0, 1) := by decide +kernel
theorem dX4_wipe_1 : decode cX4_wipe 1 = .ok (.iconst 0, 1) := by decide +kernel
theorem dX4_wipe_2 : decode cX4_wipe 2 = .ok (.putfield 30, 3) := by decide +kernel
theorem dX4_wipe_5 : decode cX4_wipe 5 = .ok (.aload_n 0, 1) := by decide +kernel
theorem dX4_wipe_6 : decode cX4_wipe 6 = .ok (.iconst 0, 1) := by decide +kernel
theorem dX4_wipe_7 : decode cX4_wipe 7 = .ok (.putfield 34, 3) := by decide +kernel
theorem dX4_wipe_10 : decode cX4_wipe 10 = .ok (.aload_n 0, 1) := by decide +kernel
theorem dX4_wipe_11 : decode cX4_wipe 11 = .ok (.iconst 0, 1) := by decide +kernel
theorem dX4_wipe_12 : decode cX4_wipe 12 = .ok (.iconst 0, 1) := by decide +kernel
theorem dX4_wipe_13 : decode cX4_wipe 13 = .ok (.iconst 1, 1) := by decide +kernel
theorem dX4_wipe_14 : decode cX4_wipe 14 = .ok (.iconst 0, 1) := by decide +kernel
theorem dX4_wipe_15 : decode cX4_wipe 15 = .ok (.invokevirtual 37, 3) := by decide +kernel
theorem dX4_wipe_18 : decode cX4_wipe 18 = .ok (.aload_n 0, 1) := by decide +kernel
theorem dX4_wipe_19 : decode cX4_wipe 19 = .ok (.invokevirtual 41, 3) := by decide +kernel
theorem dX4_wipe_22 : decode cX4_wipe 22 = .ok (.return_, 1) := by decide +kernel
theorem dX4_schedule_0 : decode cX4_schedule 0 = .ok (.aload_n 0, 1) := by decide +kernel
theorem dX4_schedule_1 : decode cX4_schedule 1 = .ok (.iload_n 1, 1) := by decide +kernel
theorem dX4_schedule_2 : decode cX4_schedule 2 = .ok (.putfield 44, 3) := by decide +kernel
theorem dX4_schedule_5 : decode cX4_schedule 5 = .ok (.aload_n 0, 1) := by decide +kernel
theorem dX4_schedule_6 : decode cX4_schedule 6 = .ok (.iload_n 2, 1) := by decide +kernel
theorem dX4_schedule_7 : decode cX4_schedule 7 = .ok (.putfield 47, 3) := by decide +kernel
theorem dX4_schedule_10 : decode cX4_schedule 10 = .ok (.aload_n 0, 1) := by decide +kernel
theorem dX4_schedule_11 : decode cX4_schedule 11 = .ok (.iload_n 3, 1) := by decide +kernel
theorem dX4_schedule_12 : decode cX4_schedule 12 = .ok (.putfield 50, 3) := by decide +kernel
theorem dX4_schedule_15 : decode cX4_schedule 15 = .ok (.aload_n 0, 1) := by decide +kernel
theorem dX4_schedule_16 : decode cX4_schedule 16 = .ok (.iload 4, 2) := by decide +kernel
theorem dX4_schedule_18 : decode cX4_schedule 18 = .ok (.putfield 54, 3) := by decide +kernel
theorem dX4_schedule_21 : decode cX4_schedule 21 = .ok (.return_, 1) := by decide +kernel
theorem dX4_copyOf_0 : decode cX4_copyOf 0 = .ok (.aload_n 0, 1) := by decide +kernel
theorem dX4_copyOf_1 : decode cX4_copyOf 1 = .ok (.aload_n 1, 1) := by decide +kernel
theorem dX4_copyOf_2 : decode cX4_copyOf 2 = .ok (.getfield 30, 3) := by decide +kernel
theorem dX4_copyOf_5 : decode cX4_copyOf 5 = .ok (.putfield 30, 3) := by decide +kernel
theorem dX4_copyOf_8 : decode cX4_copyOf 8 = .ok (.aload_n 0, 1) := by decide +kernel
theorem dX4_copyOf_9 : decode cX4_copyOf 9 = .ok (.aload_n 1, 1) := by decide +kernel
theorem dX4_copyOf_10 : decode cX4_copyOf 10 = .ok (.getfield 34, 3) := by decide +kernel
theorem dX4_copyOf_13 : decode cX4_copyOf 13 = .ok (.putfield 34, 3) := by decide +kernel
theorem dX4_copyOf_16 : decode cX4_copyOf 16 = .ok (.aload_n 0, 1) := by decide +kernel
end
section
theorem dX4_copyOf_17 : decode cX4_copyOf 17 = .ok (.aload_n 1, 1) := by decide +kernel
theorem dX4_copyOf_18 : decode cX4_copyOf 18 = .ok (.getfield 44, 3) := by decide +kernel
theorem dX4_copyOf_21 : decode cX4_copyOf 21 = .ok (.aload_n 1, 1) := by decide +kernel
theorem dX4_copyOf_22 : decode cX4_copyOf 22 = .ok (.getfield 47, 3) := by decide +kernel
theorem dX4_copyOf_25 : decode cX4_copyOf 25 = .ok (.aload_n 1, 1) := by decide +kernel
theorem dX4_copyOf_26 : decode cX4_copyOf 26 = .ok (.getfield 50, 3) := by decide +kernel
theorem dX4_copyOf_29 : decode cX4_copyOf 29 = .ok (.aload_n 1, 1) := by decide +kernel
theorem dX4_copyOf_30 : decode cX4_copyOf 30 = .ok (.getfield 54, 3) := by decide +kernel
theorem dX4_copyOf_33 : decode cX4_copyOf 33 = .ok (.invokevirtual 37, 3) := by decide +kernel
theorem dX4_copyOf_36 : decode cX4_copyOf 36 = .ok (.aload_n 1, 1) := by decide +kernel
theorem dX4_copyOf_37 : decode cX4_copyOf 37 = .ok (.getfield 9, 3) := by decide +kernel
theorem dX4_copyOf_40 : decode cX4_copyOf 40 = .ok (.iconst 0, 1) := by decide +kernel
theorem dX4_copyOf_41 : decode cX4_copyOf 41 = .ok (.aload_n 0, 1) := by decide +kernel
theorem dX4_copyOf_42 : decode cX4_copyOf 42 = .ok (.getfield 9, 3) := by decide +kernel
theorem dX4_copyOf_45 : decode cX4_copyOf 45 = .ok (.iconst 0, 1) := by decide +kernel
theorem dX4_copyOf_46 : decode cX4_copyOf 46 = .ok (.bipush 8, 2) := by decide +kernel
theorem dX4_copyOf_48 : decode cX4_copyOf 48 = .ok (.invokestatic 57, 3) := by decide +kernel
theorem dX4_copyOf_51 : decode cX4_copyOf 51 = .ok (.aload_n 1, 1) := by decide +kernel
theorem dX4_copyOf_52 : decode cX4_copyOf 52 = .ok (.getfield 15, 3) := by decide +kernel
theorem dX4_copyOf_55 : decode cX4_copyOf 55 = .ok (.iconst 0, 1) := by decide +kernel
theorem dX4_copyOf_56 : decode cX4_copyOf 56 = .ok (.aload_n 0, 1) := by decide +kernel
theorem dX4_copyOf_57 : decode cX4_copyOf 57 = .ok (.getfield 15, 3) := by decide +kernel
theorem dX4_copyOf_60 : decode cX4_copyOf 60 = .ok (.iconst 0, 1) := by decide +kernel
theorem dX4_copyOf_61 : decode cX4_copyOf 61 = .ok (.bipush 8, 2) := by decide +kernel
theorem dX4_copyOf_63 : decode cX4_copyOf 63 = .ok (.invokestatic 57, 3) := by decide +kernel
theorem dX4_copyOf_66 : decode cX4_copyOf 66 = .ok (.aload_n 1, 1) := by decide +kernel
theorem dX4_copyOf_67 : decode cX4_copyOf 67 = .ok (.getfield 18, 3) := by decide +kernel
theorem dX4_copyOf_70 : decode cX4_copyOf 70 = .ok (.iconst 0, 1) := by decide +kernel
theorem dX4_copyOf_71 : decode cX4_copyOf 71 = .ok (.aload_n 0, 1) := by decide +kernel
theorem dX4_copyOf_72 : decode cX4_copyOf 72 = .ok (.getfield 18, 3) := by decide +kernel
theorem dX4_copyOf_75 : decode cX4_copyOf 75 = .ok (.iconst 0, 1) := by decide +kernel
theorem dX4_copyOf_76 : decode cX4_copyOf 76 = .ok (.bipush 8, 2) := by decide +kernel
theorem dX4_copyOf_78 : decode cX4_copyOf 78 = .ok (.invokestatic 57, 3) := by decide +kernel
theorem dX4_copyOf_81 : decode cX4_copyOf 81 = .ok (.aload_n 1, 1) := by decide +kernel
theorem dX4_copyOf_82 : decode cX4_copyOf 82 = .ok (.getfield 21, 3) := by decide +kernel
theorem dX4_copyOf_85 : decode cX4_copyOf 85 = .ok (.iconst 0, 1) := by decide +kernel
theorem dX4_copyOf_86 : decode cX4_copyOf 86 = .ok (.aload_n 0, 1) := by decide +kernel
theorem dX4_copyOf_87 : decode cX4_copyOf 87 = .ok (.getfield 21, 3) := by decide +kernel
theorem dX4_copyOf_90 : decode cX4_copyOf 90 = .ok (.iconst 0, 1) := by decide +kernel
theorem dX4_copyOf_91 : decode cX4_copyOf 91 = .ok (.iconst 4, 1) := by decide +kernel
theorem dX4_copyOf_92 : decode cX4_copyOf 92 = .ok (.invokestatic 57, 3) := by decide +kernel
theorem dX4_copyOf_95 : decode cX4_copyOf 95 = .ok (.aload_n 1, 1) := by decide +kernel
theorem dX4_copyOf_96 : decode cX4_copyOf 96 = .ok (.getfield 24, 3) := by decide +kernel
theorem dX4_copyOf_99 : decode cX4_copyOf 99 = .ok (.iconst 0, 1) := by decide +kernel
theorem dX4_copyOf_100 : decode cX4_copyOf 100 = .ok (.aload_n 0, 1) := by decide +kernel
theorem dX4_copyOf_101 : decode cX4_copyOf 101 = .ok (.getfield 24, 3) := by decide +kernel
theorem dX4_copyOf_104 : decode cX4_copyOf 104 = .ok (.iconst 0, 1) := by decide +kernel
theorem dX4_copyOf_105 : decode cX4_copyOf 105 = .ok (.iconst 4, 1) := by decide +kernel
theorem dX4_copyOf_106 : decode cX4_copyOf 106 = .ok (.invokestatic 57, 3) := by decide +kernel
theorem dX4_copyOf_109 : decode cX4_copyOf 109 = .ok (.aload_n 1, 1) := by decide +kernel
theorem dX4_copyOf_110 : decode cX4_copyOf 110 = .ok (.getfield 27, 3) := by decide +kernel
theorem dX4_copyOf_113 : decode cX4_copyOf 113 = .ok (.iconst 0, 1) := by decide +kernel
theorem dX4_copyOf_114 : decode cX4_copyOf 114 = .ok (.aload_n 0, 1) := by decide +kernel
theorem dX4_copyOf_115 : decode cX4_copyOf 115 = .ok (.getfield 27, 3) := by decide +kernel
theorem dX4_copyOf_118 : decode cX4_copyOf 118 = .ok (.iconst 0, 1) := by decide +kernel
theorem dX4_copyOf_119 : decode cX4_copyOf 119 = .ok (.iconst 4, 1) := by decide +kernel
theorem dX4_copyOf_120 : decode cX4_copyOf 120 = .ok (.invokestatic 57, 3) := by decide +kernel
theorem dX4_copyOf_123 : decode cX4_copyOf 123 = .ok (.return_, 1) := by decide +kernel
theorem dX4_payNothing_0 : decode cX4_payNothing 0 = .ok (.iconst 0, 1) := by decide +kernel
theorem dX4_payNothing_1 : decode cX4_payNothing 1 = .ok (.istore_n 1, 1) := by decide +kernel
theorem dX4_payNothing_2 : decode cX4_payNothing 2 = .ok (.iload_n 1, 1) := by decide +kernel
theorem dX4_payNothing_3 : decode cX4_payNothing 3 = .ok (.iconst 4, 1) := by decide +kernel
theorem dX4_payNothing_4 : decode cX4_payNothing 4 = .ok (.if_icmp .ge 16, 3) := by decide +kernel
theorem dX4_payNothing_7 : decode cX4_payNothing 7 = .ok (.aload_n 0, 1) := by decide +kernel
theorem dX4_payNothing_8 : decode cX4_payNothing 8 = .ok (.getfield 27, 3) := by decide +kernel
theorem dX4_payNothing_11 : decode cX4_payNothing 11 = .ok (.iload_n 1, 1) := by decide +kernel
theorem dX4_payNothing_12 : decode cX4_payNothing 12 = .ok (.iconst 0, 1) := by decide +kernel
theorem dX4_payNothing_13 : decode cX4_payNothing 13 = .ok (.iastore, 1) := by decide +kernel
theorem dX4_payNothing_14 : decode cX4_payNothing 14 = .ok (.iinc 1 1, 3) := by decide +kernel
theorem dX4_payNothing_17 : decode cX4_payNothing 17 = .ok (.goto (-15), 3) := by decide +kernel
theorem dX4_payNothing_20 : decode cX4_payNothing 20 = .ok (.return_, 1) := by decide +kernel
theorem dX4_addChild_0 : decode cX4_addChild 0 = .ok (.aload_n 0, 1) := by decide +kernel
theorem dX4_addChild_1 : decode cX4_addChild 1 = .ok (.getfield 30, 3) := by decide +kernel
theorem dX4_addChild_4 : decode cX4_addChild 4 = .ok (.bipush 8, 2) := by decide +kernel
theorem dX4_addChild_6 : decode cX4_addChild 6 = .ok (.if_icmp .lt 4, 3) := by decide +kernel
theorem dX4_addChild_9 : decode cX4_addChild 9 = .ok (.return_, 1) := by decide +kernel
theorem dX4_addChild_10 : decode cX4_addChild 10 = .ok (.aload_n 0, 1) := by decide +kernel
theorem dX4_addChild_11 : decode cX4_addChild 11 = .ok (.getfield 9, 3) := by decide +kernel
theorem dX4_addChild_14 : decode cX4_addChild 14 = .ok (.aload_n 0, 1) := by decide +kernel
theorem dX4_addChild_15 : decode cX4_addChild 15 = .ok (.getfield 30, 3) := by decide +kernel
theorem dX4_addChild_18 : decode cX4_addChild 18 = .ok (.iload_n 1, 1) := by decide +kernel
theorem dX4_addChild_19 : decode cX4_addChild 19 = .ok (.iastore, 1) := by decide +kernel
theorem dX4_addChild_20 : decode cX4_addChild 20 = .ok (.aload_n 0, 1) := by decide +kernel
theorem dX4_addChild_21 : decode cX4_addChild 21 = .ok (.getfield 15, 3) := by decide +kernel
theorem dX4_addChild_24 : decode cX4_addChild 24 = .ok (.aload_n 0, 1) := by decide +kernel
theorem dX4_addChild_25 : decode cX4_addChild 25 = .ok (.getfield 30, 3) := by decide +kernel
theorem dX4_addChild_28 : decode cX4_addChild 28 = .ok (.iload_n 2, 1) := by decide +kernel
theorem dX4_addChild_29 : decode cX4_addChild 29 = .ok (.iastore, 1) := by decide +kernel
theorem dX4_addChild_30 : decode cX4_addChild 30 = .ok (.aload_n 0, 1) := by decide +kernel
theorem dX4_addChild_31 : decode cX4_addChild 31 = .ok (.getfield 18, 3) := by decide +kernel
theorem dX4_addChild_34 : decode cX4_addChild 34 = .ok (.aload_n 0, 1) := by decide +kernel
theorem dX4_addChild_35 : decode cX4_addChild 35 = .ok (.getfield 30, 3) := by decide +kernel
theorem dX4_addChild_38 : decode cX4_addChild 38 = .ok (.iload_n 3, 1) := by decide +kernel
theorem dX4_addChild_39 : decode cX4_addChild 39 = .ok (.iastore, 1) := by decide +kernel
theorem dX4_addChild_40 : decode cX4_addChild 40 = .ok (.aload_n 0, 1) := by decide +kernel
theorem dX4_addChild_41 : decode cX4_addChild 41 = .ok (.dup, 1) := by decide +kernel
theorem dX4_addChild_42 : decode cX4_addChild 42 = .ok (.getfield 30, 3) := by decide +kernel
theorem dX4_addChild_45 : decode cX4_addChild 45 = .ok (.iconst 1, 1) := by decide +kernel
theorem dX4_addChild_46 : decode cX4_addChild 46 = .ok (.iadd, 1) := by decide +kernel
theorem dX4_addChild_47 : decode cX4_addChild 47 = .ok (.putfield 30, 3) := by decide +kernel
theorem dX4_addChild_50 : decode cX4_addChild 50 = .ok (.return_, 1) := by decide +kernel
theorem dX4_addSort_0 : decode cX4_addSort 0 = .ok (.aload_n 0, 1) := by decide +kernel
theorem dX4_addSort_1 : decode cX4_addSort 1 = .ok (.getfield 34, 3) := by decide +kernel
theorem dX4_addSort_4 : decode cX4_addSort 4 = .ok (.iconst 4, 1) := by decide +kernel
theorem dX4_addSort_5 : decode cX4_addSort 5 = .ok (.if_icmp .lt 4, 3) := by decide +kernel
theorem dX4_addSort_8 : decode cX4_addSort 8 = .ok (.return_, 1) := by decide +kernel
theorem dX4_addSort_9 : decode cX4_addSort 9 = .ok (.aload_n 0, 1) := by decide +kernel
theorem dX4_addSort_10 : decode cX4_addSort 10 = .ok (.getfield 21, 3) := by decide +kernel
theorem dX4_addSort_13 : decode cX4_addSort 13 = .ok (.aload_n 0, 1) := by decide +kernel
theorem dX4_addSort_14 : decode cX4_addSort 14 = .ok (.getfield 34, 3) := by decide +kernel
theorem dX4_addSort_17 : decode cX4_addSort 17 = .ok (.iload_n 1, 1) := by decide +kernel
theorem dX4_addSort_18 : decode cX4_addSort 18 = .ok (.iastore, 1) := by decide +kernel
theorem dX4_addSort_19 : decode cX4_addSort 19 = .ok (.aload_n 0, 1) := by decide +kernel
theorem dX4_addSort_20 : decode cX4_addSort 20 = .ok (.getfield 24, 3) := by decide +kernel
theorem dX4_addSort_23 : decode cX4_addSort 23 = .ok (.aload_n 0, 1) := by decide +kernel
theorem dX4_addSort_24 : decode cX4_addSort 24 = .ok (.getfield 34, 3) := by decide +kernel
theorem dX4_addSort_27 : decode cX4_addSort 27 = .ok (.iload_n 2, 1) := by decide +kernel
theorem dX4_addSort_28 : decode cX4_addSort 28 = .ok (.iastore, 1) := by decide +kernel
theorem dX4_addSort_29 : decode cX4_addSort 29 = .ok (.aload_n 0, 1) := by decide +kernel
theorem dX4_addSort_30 : decode cX4_addSort 30 = .ok (.dup, 1) := by decide +kernel
theorem dX4_addSort_31 : decode cX4_addSort 31 = .ok (.getfield 34, 3) := by decide +kernel
theorem dX4_addSort_34 : decode cX4_addSort 34 = .ok (.iconst 1, 1) := by decide +kernel
theorem dX4_addSort_35 : decode cX4_addSort 35 = .ok (.iadd, 1) := by decide +kernel
theorem dX4_addSort_36 : decode cX4_addSort 36 = .ok (.putfield 34, 3) := by decide +kernel
theorem dX4_addSort_39 : decode cX4_addSort 39 = .ok (.return_, 1) := by decide +kernel
theorem dX4_teachOne_0 : decode cX4_teachOne 0 = .ok (.aload_n 0, 1) := by decide +kernel
theorem dX4_teachOne_1 : decode cX4_teachOne 1 = .ok (.iconst 0, 1) := by decide +kernel
theorem dX4_teachOne_2 : decode cX4_teachOne 2 = .ok (.putfield 30, 3) := by decide +kernel
theorem dX4_teachOne_5 : decode cX4_teachOne 5 = .ok (.aload_n 0, 1) := by decide +kernel
theorem dX4_teachOne_6 : decode cX4_teachOne 6 = .ok (.iload_n 1, 1) := by decide +kernel
theorem dX4_teachOne_7 : decode cX4_teachOne 7 = .ok (.iload_n 2, 1) := by decide +kernel
theorem dX4_teachOne_8 : decode cX4_teachOne 8 = .ok (.iload_n 3, 1) := by decide +kernel
theorem dX4_teachOne_9 : decode cX4_teachOne 9 = .ok (.invokevirtual 63, 3) := by decide +kernel
theorem dX4_teachOne_12 : decode cX4_teachOne 12 = .ok (.return_, 1) := by decide +kernel
theorem dX4_pagesIn_0 : decode cX4_pagesIn 0 = .ok (.aload_n 0, 1) := by decide +kernel
theorem dX4_pagesIn_1 : decode cX4_pagesIn 1 = .ok (.getfield 21, 3) := by decide +kernel
theorem dX4_pagesIn_4 : decode cX4_pagesIn 4 = .ok (.iload_n 2, 1) := by decide +kernel
theorem dX4_pagesIn_5 : decode cX4_pagesIn 5 = .ok (.iaload, 1) := by decide +kernel
theorem dX4_pagesIn_6 : decode cX4_pagesIn 6 = .ok (.ifCond .le 22, 3) := by decide +kernel
theorem dX4_pagesIn_9 : decode cX4_pagesIn 9 = .ok (.bipush 6, 2) := by decide +kernel
theorem dX4_pagesIn_11 : decode cX4_pagesIn 11 = .ok (.aload_n 0, 1) := by decide +kernel
theorem dX4_pagesIn_12 : decode cX4_pagesIn 12 = .ok (.getfield 15, 3) := by decide +kernel
theorem dX4_pagesIn_15 : decode cX4_pagesIn 15 = .ok (.iload_n 1, 1) := by decide +kernel
theorem dX4_pagesIn_16 : decode cX4_pagesIn 16 = .ok (.iaload, 1) := by decide +kernel
theorem dX4_pagesIn_17 : decode cX4_pagesIn 17 = .ok (.imul, 1) := by decide +kernel
theorem dX4_pagesIn_18 : decode cX4_pagesIn 18 = .ok (.aload_n 0, 1) := by decide +kernel
theorem dX4_pagesIn_19 : decode cX4_pagesIn 19 = .ok (.getfield 21, 3) := by decide +kernel
theorem dX4_pagesIn_22 : decode cX4_pagesIn 22 = .ok (.iload_n 2, 1) := by decide +kernel
theorem dX4_pagesIn_23 : decode cX4_pagesIn 23 = .ok (.iaload, 1) := by decide +kernel
theorem dX4_pagesIn_24 : decode cX4_pagesIn 24 = .ok (.idiv, 1) := by decide +kernel
theorem dX4_pagesIn_25 : decode cX4_pagesIn 25 = .ok (.goto 4, 3) := by decide +kernel
theorem dX4_pagesIn_28 : decode cX4_pagesIn 28 = .ok (.iconst 0, 1) := by decide +kernel
theorem dX4_pagesIn_29 : decode cX4_pagesIn 29 = .ok (.ireturn, 1) := by decide +kernel
theorem dX4_givenOn_0 : decode cX4_givenOn 0 = .ok (.iload_n 2, 1) := by decide +kernel
theorem dX4_givenOn_1 : decode cX4_givenOn 1 = .ok (.aload_n 0, 1) := by decide +kernel
theorem dX4_givenOn_2 : decode cX4_givenOn 2 = .ok (.getfield 44, 3) := by decide +kernel
theorem dX4_givenOn_5 : decode cX4_givenOn 5 = .ok (.if_icmp .lt 16, 3) := by decide +kernel
theorem dX4_givenOn_8 : decode cX4_givenOn 8 = .ok (.iload_n 2, 1) := by decide +kernel
theorem dX4_givenOn_9 : decode cX4_givenOn 9 = .ok (.aload_n 0, 1) := by decide +kernel
theorem dX4_givenOn_10 : decode cX4_givenOn 10 = .ok (.getfield 47, 3) := by decide +kernel
theorem dX4_givenOn_13 : decode cX4_givenOn 13 = .ok (.aload_n 0, 1) := by decide +kernel
theorem dX4_givenOn_14 : decode cX4_givenOn 14 = .ok (.getfield 54, 3) := by decide +kernel
theorem dX4_givenOn_17 : decode cX4_givenOn 17 = .ok (.iadd, 1) := by decide +kernel
theorem dX4_givenOn_18 : decode cX4_givenOn 18 = .ok (.if_icmp .lt 5, 3) := by decide +kernel
theorem dX4_givenOn_21 : decode cX4_givenOn 21 = .ok (.iconst 0, 1) := by decide +kernel
theorem dX4_givenOn_22 : decode cX4_givenOn 22 = .ok (.ireturn, 1) := by decide +kernel
theorem dX4_givenOn_23 : decode cX4_givenOn 23 = .ok (.iload_n 2, 1) := by decide +kernel
theorem dX4_givenOn_24 : decode cX4_givenOn 24 = .ok (.aload_n 0, 1) := by decide +kernel
theorem dX4_givenOn_25 : decode cX4_givenOn 25 = .ok (.getfield 47, 3) := by decide +kernel
theorem dX4_givenOn_28 : decode cX4_givenOn 28 = .ok (.if_icmp .ge 12, 3) := by decide +kernel
theorem dX4_givenOn_31 : decode cX4_givenOn 31 = .ok (.aload_n 0, 1) := by decide +kernel
theorem dX4_givenOn_32 : decode cX4_givenOn 32 = .ok (.getfield 27, 3) := by decide +kernel
theorem dX4_givenOn_35 : decode cX4_givenOn 35 = .ok (.iload_n 1, 1) := by decide +kernel
theorem dX4_givenOn_36 : decode cX4_givenOn 36 = .ok (.iaload, 1) := by decide +kernel
theorem dX4_givenOn_37 : decode cX4_givenOn 37 = .ok (.goto 28, 3) := by decide +kernel
theorem dX4_givenOn_40 : decode cX4_givenOn 40 = .ok (.aload_n 0, 1) := by decide +kernel
theorem dX4_givenOn_41 : decode cX4_givenOn 41 = .ok (.getfield 27, 3) := by decide +kernel
theorem dX4_givenOn_44 : decode cX4_givenOn 44 = .ok (.iload_n 1, 1) := by decide +kernel
theorem dX4_givenOn_45 : decode cX4_givenOn 45 = .ok (.iaload, 1) := by decide +kernel
theorem dX4_givenOn_46 : decode cX4_givenOn 46 = .ok (.aload_n 0, 1) := by decide +kernel
theorem dX4_givenOn_47 : decode cX4_givenOn 47 = .ok (.getfield 47, 3) := by decide +kernel
theorem dX4_givenOn_50 : decode cX4_givenOn 50 = .ok (.aload_n 0, 1) := by decide +kernel
theorem dX4_givenOn_51 : decode cX4_givenOn 51 = .ok (.getfield 54, 3) := by decide +kernel
theorem dX4_givenOn_54 : decode cX4_givenOn 54 = .ok (.iadd, 1) := by decide +kernel
theorem dX4_givenOn_55 : decode cX4_givenOn 55 = .ok (.iload_n 2, 1) := by decide +kernel
theorem dX4_givenOn_56 : decode cX4_givenOn 56 = .ok (.isub, 1) := by decide +kernel
theorem dX4_givenOn_57 : decode cX4_givenOn 57 = .ok (.imul, 1) := by decide +kernel
theorem dX4_givenOn_58 : decode cX4_givenOn 58 = .ok (.aload_n 0, 1) := by decide +kernel
theorem dX4_givenOn_59 : decode cX4_givenOn 59 = .ok (.getfield 54, 3) := by decide +kernel
theorem dX4_givenOn_62 : decode cX4_givenOn 62 = .ok (.iconst 1, 1) := by decide +kernel
theorem dX4_givenOn_63 : decode cX4_givenOn 63 = .ok (.iadd, 1) := by decide +kernel
theorem dX4_givenOn_64 : decode cX4_givenOn 64 = .ok (.idiv, 1) := by decide +kernel
theorem dX4_givenOn_65 : decode cX4_givenOn 65 = .ok (.ireturn, 1) := by decide +kernel
theorem dX4_givesNothing_0 : decode cX4_givesNothing 0 = .ok (.iconst 0, 1) := by decide +kernel
theorem dX4_givesNothing_1 : decode cX4_givesNothing 1 = .ok (.istore_n 2, 1) := by decide +kernel
theorem dX4_givesNothing_2 : decode cX4_givesNothing 2 = .ok (.iload_n 2, 1) := by decide +kernel
theorem dX4_givesNothing_3 : decode cX4_givesNothing 3 = .ok (.aload_n 0, 1) := by decide +kernel
theorem dX4_givesNothing_4 : decode cX4_givesNothing 4 = .ok (.getfield 34, 3) := by decide +kernel
theorem dX4_givesNothing_7 : decode cX4_givesNothing 7 = .ok (.if_icmp .ge 20, 3) := by decide +kernel
theorem dX4_givesNothing_10 : decode cX4_givesNothing 10 = .ok (.aload_n 0, 1) := by decide +kernel
theorem dX4_givesNothing_11 : decode cX4_givesNothing 11 = .ok (.iload_n 2, 1) := by decide +kernel
theorem dX4_givesNothing_12 : decode cX4_givesNothing 12 = .ok (.iload_n 1, 1) := by decide +kernel
theorem dX4_givesNothing_13 : decode cX4_givesNothing 13 = .ok (.invokevirtual 67, 3) := by decide +kernel
theorem dX4_givesNothing_16 : decode cX4_givesNothing 16 = .ok (.ifCond .le 5, 3) := by decide +kernel
theorem dX4_givesNothing_19 : decode cX4_givesNothing 19 = .ok (.iconst 0, 1) := by decide +kernel
theorem dX4_givesNothing_20 : decode cX4_givesNothing 20 = .ok (.ireturn, 1) := by decide +kernel
theorem dX4_givesNothing_21 : decode cX4_givesNothing 21 = .ok (.iinc 2 1, 3) := by decide +kernel
theorem dX4_givesNothing_24 : decode cX4_givesNothing 24 = .ok (.goto (-22), 3) := by decide +kernel
theorem dX4_givesNothing_27 : decode cX4_givesNothing 27 = .ok (.iconst 1, 1) := by decide +kernel
theorem dX4_givesNothing_28 : decode cX4_givesNothing 28 = .ok (.ireturn, 1) := by decide +kernel
theorem dX5_init_0 : decode cX5_init 0 = .ok (.aload_n 0, 1) := by decide +kernel
theorem dX5_init_1 : decode cX5_init 1 = .ok (.invokespecial 3, 3) := by decide +kernel
theorem dX5_init_4 : decode cX5_init 4 = .ok (.aload_n 0, 1) := by decide +kernel
theorem dX5_init_5 : decode cX5_init 5 = .ok (.iconst 0, 1) := by decide +kernel
theorem dX5_init_6 : decode cX5_init 6 = .ok (.putfield 9, 3) := by decide +kernel
theorem dX5_init_9 : decode cX5_init 9 = .ok (.aload_n 0, 1) := by decide +kernel
theorem dX5_init_10 : decode cX5_init 10 = .ok (.bipush 30, 2) := by decide +kernel
theorem dX5_init_12 : decode cX5_init 12 = .ok (.newarray .int, 2) := by decide +kernel
theorem dX5_init_14 : decode cX5_init 14 = .ok (.putfield 15, 3) := by decide +kernel
theorem dX5_init_17 : decode cX5_init 17 = .ok (.aload_n 0, 1) := by decide +kernel
theorem dX5_init_18 : decode cX5_init 18 = .ok (.bipush 30, 2) := by decide +kernel
theorem dX5_init_20 : decode cX5_init 20 = .ok (.newarray .int, 2) := by decide +kernel
theorem dX5_init_22 : decode cX5_init 22 = .ok (.putfield 19, 3) := by decide +kernel
theorem dX5_init_25 : decode cX5_init 25 = .ok (.return_, 1) := by decide +kernel
theorem dX5_note_0 : decode cX5_note 0 = .ok (.aload_n 0, 1) := by decide +kernel
theorem dX5_note_1 : decode cX5_note 1 = .ok (.getfield 9, 3) := by decide +kernel
theorem dX5_note_4 : decode cX5_note 4 = .ok (.bipush 30, 2) := by decide +kernel
theorem dX5_note_6 : decode cX5_note 6 = .ok (.if_icmp .lt 5, 3) := by decide +kernel
theorem dX5_note_9 : decode cX5_note 9 = .ok (.iconst 0, 1) := by decide +kernel
theorem dX5_note_10 : decode cX5_note 10 = .ok (.ireturn, 1) := by decide +kernel
theorem dX5_note_11 : decode cX5_note 11 = .ok (.aload_n 0, 1) := by decide +kernel
theorem dX5_note_12 : decode cX5_note 12 = .ok (.getfield 15, 3) := by decide +kernel
theorem dX5_note_15 : decode cX5_note 15 = .ok (.aload_n 0, 1) := by decide +kernel
theorem dX5_note_16 : decode cX5_note 16 = .ok (.getfield 9, 3) := by decide +kernel
theorem dX5_note_19 : decode cX5_note 19 = .ok (.iload_n 1, 1) := by decide +kernel
theorem dX5_note_20 : decode cX5_note 20 = .ok (.iastore, 1) := by decide +kernel
theorem dX5_note_21 : decode cX5_note 21 = .ok (.aload_n 0, 1) := by decide +kernel
theorem dX5_note_22 : decode cX5_note 22 = .ok (.getfield 19, 3) := by decide +kernel
theorem dX5_note_25 : decode cX5_note 25 = .ok (.aload_n 0, 1) := by decide +kernel
theorem dX5_note_26 : decode cX5_note 26 = .ok (.getfield 9, 3) := by decide +kernel
theorem dX5_note_29 : decode cX5_note 29 = .ok (.iload_n 2, 1) := by decide +kernel
theorem dX5_note_30 : decode cX5_note 30 = .ok (.iastore, 1) := by decide +kernel
theorem dX5_note_31 : decode cX5_note 31 = .ok (.aload_n 0, 1) := by decide +kernel
theorem dX5_note_32 : decode cX5_note 32 = .ok (.dup, 1) := by decide +kernel
theorem dX5_note_33 : decode cX5_note 33 = .ok (.getfield 9, 3) := by decide +kernel
theorem dX5_note_36 : decode cX5_note 36 = .ok (.iconst 1, 1) := by decide +kernel
theorem dX5_note_37 : decode cX5_note 37 = .ok (.iadd, 1) := by decide +kernel
theorem dX5_note_38 : decode cX5_note 38 = .ok (.putfield 9, 3) := by decide +kernel
theorem dX5_note_41 : decode cX5_note 41 = .ok (.iconst 1, 1) := by decide +kernel
theorem dX5_note_42 : decode cX5_note 42 = .ok (.ireturn, 1) := by decide +kernel
theorem dX5_manyOf_0 : decode cX5_manyOf 0 = .ok (.iconst 0, 1) := by decide +kernel
theorem dX5_manyOf_1 : decode cX5_manyOf 1 = .ok (.istore_n 2, 1) := by decide +kernel
theorem dX5_manyOf_2 : decode cX5_manyOf 2 = .ok (.iconst 0, 1) := by decide +kernel
theorem dX5_manyOf_3 : decode cX5_manyOf 3 = .ok (.istore_n 3, 1) := by decide +kernel
theorem dX5_manyOf_4 : decode cX5_manyOf 4 = .ok (.iload_n 3, 1) := by decide +kernel
theorem dX5_manyOf_5 : decode cX5_manyOf 5 = .ok (.aload_n 0, 1) := by decide +kernel
theorem dX5_manyOf_6 : decode cX5_manyOf 6 = .ok (.getfield 9, 3) := by decide +kernel
theorem dX5_manyOf_9 : decode cX5_manyOf 9 = .ok (.if_icmp .ge 26, 3) := by decide +kernel
theorem dX5_manyOf_12 : decode cX5_manyOf 12 = .ok (.iload_n 1, 1) := by decide +kernel
theorem dX5_manyOf_13 : decode cX5_manyOf 13 = .ok (.aload_n 0, 1) := by decide +kernel
theorem dX5_manyOf_14 : decode cX5_manyOf 14 = .ok (.getfield 15, 3) := by decide +kernel
theorem dX5_manyOf_17 : decode cX5_manyOf 17 = .ok (.iload_n 3, 1) := by decide +kernel
theorem dX5_manyOf_18 : decode cX5_manyOf 18 = .ok (.iaload, 1) := by decide +kernel
theorem dX5_manyOf_19 : decode cX5_manyOf 19 = .ok (.ishr, 1) := by decide +kernel
theorem dX5_manyOf_20 : decode cX5_manyOf 20 = .ok (.iconst 1, 1) := by decide +kernel
theorem dX5_manyOf_21 : decode cX5_manyOf 21 = .ok (.iand, 1) := by decide +kernel
theorem dX5_manyOf_22 : decode cX5_manyOf 22 = .ok (.iconst 1, 1) := by decide +kernel
theorem dX5_manyOf_23 : decode cX5_manyOf 23 = .ok (.if_icmp .ne 6, 3) := by decide +kernel
theorem dX5_manyOf_26 : decode cX5_manyOf 26 = .ok (.iinc 2 1, 3) := by decide +kernel
theorem dX5_manyOf_29 : decode cX5_manyOf 29 = .ok (.iinc 3 1, 3) := by decide +kernel
theorem dX5_manyOf_32 : decode cX5_manyOf 32 = .ok (.goto (-28), 3) := by decide +kernel
theorem dX5_manyOf_35 : decode cX5_manyOf 35 = .ok (.iload_n 2, 1) := by decide +kernel
theorem dX5_manyOf_36 : decode cX5_manyOf 36 = .ok (.ireturn, 1) := by decide +kernel
theorem dX5_sumOf_0 : decode cX5_sumOf 0 = .ok (.iconst 0, 1) := by decide +kernel
theorem dX5_sumOf_1 : decode cX5_sumOf 1 = .ok (.istore_n 2, 1) := by decide +kernel
theorem dX5_sumOf_2 : decode cX5_sumOf 2 = .ok (.iconst 0, 1) := by decide +kernel
theorem dX5_sumOf_3 : decode cX5_sumOf 3 = .ok (.istore_n 3, 1) := by decide +kernel
theorem dX5_sumOf_4 : decode cX5_sumOf 4 = .ok (.iload_n 3, 1) := by decide +kernel
theorem dX5_sumOf_5 : decode cX5_sumOf 5 = .ok (.aload_n 0, 1) := by decide +kernel
theorem dX5_sumOf_6 : decode cX5_sumOf 6 = .ok (.getfield 9, 3) := by decide +kernel
theorem dX5_sumOf_9 : decode cX5_sumOf 9 = .ok (.if_icmp .ge 32, 3) := by decide +kernel
theorem dX5_sumOf_12 : decode cX5_sumOf 12 = .ok (.iload_n 1, 1) := by decide +kernel
theorem dX5_sumOf_13 : decode cX5_sumOf 13 = .ok (.aload_n 0, 1) := by decide +kernel
theorem dX5_sumOf_14 : decode cX5_sumOf 14 = .ok (.getfield 15, 3) := by decide +kernel
theorem dX5_sumOf_17 : decode cX5_sumOf 17 = .ok (.iload_n 3, 1) := by decide +kernel
theorem dX5_sumOf_18 : decode cX5_sumOf 18 = .ok (.iaload, 1) := by decide +kernel
theorem dX5_sumOf_19 : decode cX5_sumOf 19 = .ok (.ishr, 1) := by decide +kernel
theorem dX5_sumOf_20 : decode cX5_sumOf 20 = .ok (.iconst 1, 1) := by decide +kernel
theorem dX5_sumOf_21 : decode cX5_sumOf 21 = .ok (.iand, 1) := by decide +kernel
theorem dX5_sumOf_22 : decode cX5_sumOf 22 = .ok (.iconst 1, 1) := by decide +kernel
theorem dX5_sumOf_23 : decode cX5_sumOf 23 = .ok (.if_icmp .ne 12, 3) := by decide +kernel
theorem dX5_sumOf_26 : decode cX5_sumOf 26 = .ok (.iload_n 2, 1) := by decide +kernel
theorem dX5_sumOf_27 : decode cX5_sumOf 27 = .ok (.aload_n 0, 1) := by decide +kernel
theorem dX5_sumOf_28 : decode cX5_sumOf 28 = .ok (.getfield 19, 3) := by decide +kernel
theorem dX5_sumOf_31 : decode cX5_sumOf 31 = .ok (.iload_n 3, 1) := by decide +kernel
theorem dX5_sumOf_32 : decode cX5_sumOf 32 = .ok (.iaload, 1) := by decide +kernel
theorem dX5_sumOf_33 : decode cX5_sumOf 33 = .ok (.iadd, 1) := by decide +kernel
theorem dX5_sumOf_34 : decode cX5_sumOf 34 = .ok (.istore_n 2, 1) := by decide +kernel
theorem dX5_sumOf_35 : decode cX5_sumOf 35 = .ok (.iinc 3 1, 3) := by decide +kernel
theorem dX5_sumOf_38 : decode cX5_sumOf 38 = .ok (.goto (-34), 3) := by decide +kernel
theorem dX5_sumOf_41 : decode cX5_sumOf 41 = .ok (.iload_n 2, 1) := by decide +kernel
theorem dX5_sumOf_42 : decode cX5_sumOf 42 = .ok (.ireturn, 1) := by decide +kernel
theorem dX5_meanOf_0 : decode cX5_meanOf 0 = .ok (.aload_n 0, 1) := by decide +kernel
theorem dX5_meanOf_1 : decode cX5_meanOf 1 = .ok (.iload_n 1, 1) := by decide +kernel
theorem dX5_meanOf_2 : decode cX5_meanOf 2 = .ok (.invokevirtual 22, 3) := by decide +kernel
theorem dX5_meanOf_5 : decode cX5_meanOf 5 = .ok (.istore_n 3, 1) := by decide +kernel
theorem dX5_meanOf_6 : decode cX5_meanOf 6 = .ok (.aload_n 0, 1) := by decide +kernel
theorem dX5_meanOf_7 : decode cX5_meanOf 7 = .ok (.iload_n 1, 1) := by decide +kernel
theorem dX5_meanOf_8 : decode cX5_meanOf 8 = .ok (.invokevirtual 26, 3) := by decide +kernel
theorem dX5_meanOf_11 : decode cX5_meanOf 11 = .ok (.istore 4, 2) := by decide +kernel
theorem dX5_meanOf_13 : decode cX5_meanOf 13 = .ok (.iload 4, 2) := by decide +kernel
theorem dX5_meanOf_15 : decode cX5_meanOf 15 = .ok (.ifCond .ne 6, 3) := by decide +kernel
theorem dX5_meanOf_18 : decode cX5_meanOf 18 = .ok (.ldc 29, 2) := by decide +kernel
theorem dX5_meanOf_20 : decode cX5_meanOf 20 = .ok (.ireturn, 1) := by decide +kernel
theorem dX5_meanOf_21 : decode cX5_meanOf 21 = .ok (.iconst 1, 1) := by decide +kernel
theorem dX5_meanOf_22 : decode cX5_meanOf 22 = .ok (.istore 5, 2) := by decide +kernel
theorem dX5_meanOf_24 : decode cX5_meanOf 24 = .ok (.iconst 2, 1) := by decide +kernel
theorem dX5_meanOf_25 : decode cX5_meanOf 25 = .ok (.istore 6, 2) := by decide +kernel
theorem dX5_meanOf_27 : decode cX5_meanOf 27 = .ok (.iload 6, 2) := by decide +kernel
theorem dX5_meanOf_29 : decode cX5_meanOf 29 = .ok (.iload 4, 2) := by decide +kernel
theorem dX5_meanOf_31 : decode cX5_meanOf 31 = .ok (.if_icmp .gt 28, 3) := by decide +kernel
theorem dX5_meanOf_34 : decode cX5_meanOf 34 = .ok (.iload_n 3, 1) := by decide +kernel
theorem dX5_meanOf_35 : decode cX5_meanOf 35 = .ok (.iload 6, 2) := by decide +kernel
theorem dX5_meanOf_37 : decode cX5_meanOf 37 = .ok (.irem, 1) := by decide +kernel
theorem dX5_meanOf_38 : decode cX5_meanOf 38 = .ok (.ifCond .ne 15, 3) := by decide +kernel
theorem dX5_meanOf_41 : decode cX5_meanOf 41 = .ok (.iload 4, 2) := by decide +kernel
theorem dX5_meanOf_43 : decode cX5_meanOf 43 = .ok (.iload 6, 2) := by decide +kernel
theorem dX5_meanOf_45 : decode cX5_meanOf 45 = .ok (.irem, 1) := by decide +kernel
theorem dX5_meanOf_46 : decode cX5_meanOf 46 = .ok (.ifCond .ne 7, 3) := by decide +kernel
theorem dX5_meanOf_49 : decode cX5_meanOf 49 = .ok (.iload 6, 2) := by decide +kernel
theorem dX5_meanOf_51 : decode cX5_meanOf 51 = .ok (.istore 5, 2) := by decide +kernel
theorem dX5_meanOf_53 : decode cX5_meanOf 53 = .ok (.iinc 6 1, 3) := by decide +kernel
theorem dX5_meanOf_56 : decode cX5_meanOf 56 = .ok (.goto (-29), 3) := by decide +kernel
theorem dX5_meanOf_59 : decode cX5_meanOf 59 = .ok (.iload_n 2, 1) := by decide +kernel
theorem dX5_meanOf_60 : decode cX5_meanOf 60 = .ok (.ifCond .ne 7, 3) := by decide +kernel
theorem dX5_meanOf_63 : decode cX5_meanOf 63 = .ok (.iload_n 3, 1) := by decide +kernel
theorem dX5_meanOf_64 : decode cX5_meanOf 64 = .ok (.goto 5, 3) := by decide +kernel
theorem dX5_meanOf_67 : decode cX5_meanOf 67 = .ok (.iload 4, 2) := by decide +kernel
theorem dX5_meanOf_69 : decode cX5_meanOf 69 = .ok (.iload 5, 2) := by decide +kernel
theorem dX5_meanOf_71 : decode cX5_meanOf 71 = .ok (.idiv, 1) := by decide +kernel
theorem dX5_meanOf_72 : decode cX5_meanOf 72 = .ok (.ireturn, 1) := by decide +kernel
theorem dX5_farthestBit_0 : decode cX5_farthestBit 0 = .ok (.bipush (-9), 2) := by decide +kernel
theorem dX5_farthestBit_2 : decode cX5_farthestBit 2 = .ok (.istore_n 1, 1) := by decide +kernel
theorem dX5_farthestBit_3 : decode cX5_farthestBit 3 = .ok (.iconst 0, 1) := by decide +kernel
theorem dX5_farthestBit_4 : decode cX5_farthestBit 4 = .ok (.istore_n 2, 1) := by decide +kernel
theorem dX5_farthestBit_5 : decode cX5_farthestBit 5 = .ok (.iconst 1, 1) := by decide +kernel
theorem dX5_farthestBit_6 : decode cX5_farthestBit 6 = .ok (.istore_n 3, 1) := by decide +kernel
theorem dX5_farthestBit_7 : decode cX5_farthestBit 7 = .ok (.iconst 0, 1) := by decide +kernel
theorem dX5_farthestBit_8 : decode cX5_farthestBit 8 = .ok (.istore 4, 2) := by decide +kernel
theorem dX5_farthestBit_10 : decode cX5_farthestBit 10 = .ok (.iload 4, 2) := by decide +kernel
theorem dX5_farthestBit_12 : decode cX5_farthestBit 12 = .ok (.getstatic 30, 3) := by decide +kernel
theorem dX5_farthestBit_15 : decode cX5_farthestBit 15 = .ok (.arraylength, 1) := by decide +kernel
theorem dX5_farthestBit_16 : decode cX5_farthestBit 16 = .ok (.if_icmp .ge 108, 3) := by decide +kernel
theorem dX5_farthestBit_19 : decode cX5_farthestBit 19 = .ok (.getstatic 30, 3) := by decide +kernel
theorem dX5_farthestBit_22 : decode cX5_farthestBit 22 = .ok (.iload 4, 2) := by decide +kernel
theorem dX5_farthestBit_24 : decode cX5_farthestBit 24 = .ok (.iaload, 1) := by decide +kernel
theorem dX5_farthestBit_25 : decode cX5_farthestBit 25 = .ok (.istore 5, 2) := by decide +kernel
theorem dX5_farthestBit_27 : decode cX5_farthestBit 27 = .ok (.sipush 255, 3) := by decide +kernel
theorem dX5_farthestBit_30 : decode cX5_farthestBit 30 = .ok (.iload 5, 2) := by decide +kernel
theorem dX5_farthestBit_32 : decode cX5_farthestBit 32 = .ok (.ixor, 1) := by decide +kernel
theorem dX5_farthestBit_33 : decode cX5_farthestBit 33 = .ok (.istore 6, 2) := by decide +kernel
theorem dX5_farthestBit_35 : decode cX5_farthestBit 35 = .ok (.aload_n 0, 1) := by decide +kernel
theorem dX5_farthestBit_36 : decode cX5_farthestBit 36 = .ok (.iload 5, 2) := by decide +kernel
theorem dX5_farthestBit_38 : decode cX5_farthestBit 38 = .ok (.invokevirtual 26, 3) := by decide +kernel
theorem dX5_farthestBit_41 : decode cX5_farthestBit 41 = .ok (.istore 7, 2) := by decide +kernel
theorem dX5_farthestBit_43 : decode cX5_farthestBit 43 = .ok (.aload_n 0, 1) := by decide +kernel
theorem dX5_farthestBit_44 : decode cX5_farthestBit 44 = .ok (.iload 6, 2) := by decide +kernel
theorem dX5_farthestBit_46 : decode cX5_farthestBit 46 = .ok (.invokevirtual 26, 3) := by decide +kernel
theorem dX5_farthestBit_49 : decode cX5_farthestBit 49 = .ok (.istore 8, 2) := by decide +kernel
theorem dX5_farthestBit_51 : decode cX5_farthestBit 51 = .ok (.iload 7, 2) := by decide +kernel
theorem dX5_farthestBit_53 : decode cX5_farthestBit 53 = .ok (.ifCond .le 65, 3) := by decide +kernel
theorem dX5_farthestBit_56 : decode cX5_farthestBit 56 = .ok (.iload 8, 2) := by decide +kernel
theorem dX5_farthestBit_58 : decode cX5_farthestBit 58 = .ok (.ifCond .le 60, 3) := by decide +kernel
theorem dX5_farthestBit_61 : decode cX5_farthestBit 61 = .ok (.aload_n 0, 1) := by decide +kernel
theorem dX5_farthestBit_62 : decode cX5_farthestBit 62 = .ok (.iload 5, 2) := by decide +kernel
theorem dX5_farthestBit_64 : decode cX5_farthestBit 64 = .ok (.invokevirtual 22, 3) := by decide +kernel
theorem dX5_farthestBit_67 : decode cX5_farthestBit 67 = .ok (.iload 8, 2) := by decide +kernel
theorem dX5_farthestBit_69 : decode cX5_farthestBit 69 = .ok (.imul, 1) := by decide +kernel
theorem dX5_farthestBit_70 : decode cX5_farthestBit 70 = .ok (.aload_n 0, 1) := by decide +kernel
theorem dX5_farthestBit_71 : decode cX5_farthestBit 71 = .ok (.iload 6, 2) := by decide +kernel
theorem dX5_farthestBit_73 : decode cX5_farthestBit 73 = .ok (.invokevirtual 22, 3) := by decide +kernel
theorem dX5_farthestBit_76 : decode cX5_farthestBit 76 = .ok (.iload 7, 2) := by decide +kernel
theorem dX5_farthestBit_78 : decode cX5_farthestBit 78 = .ok (.imul, 1) := by decide +kernel
theorem dX5_farthestBit_79 : decode cX5_farthestBit 79 = .ok (.isub, 1) := by decide +kernel
theorem dX5_farthestBit_80 : decode cX5_farthestBit 80 = .ok (.invokestatic 33, 3) := by decide +kernel
theorem dX5_farthestBit_83 : decode cX5_farthestBit 83 = .ok (.istore 9, 2) := by decide +kernel
theorem dX5_farthestBit_85 : decode cX5_farthestBit 85 = .ok (.iload 7, 2) := by decide +kernel
theorem dX5_farthestBit_87 : decode cX5_farthestBit 87 = .ok (.iload 8, 2) := by decide +kernel
theorem dX5_farthestBit_89 : decode cX5_farthestBit 89 = .ok (.imul, 1) := by decide +kernel
theorem dX5_farthestBit_90 : decode cX5_farthestBit 90 = .ok (.istore 10, 2) := by decide +kernel
theorem dX5_farthestBit_92 : decode cX5_farthestBit 92 = .ok (.iload_n 1, 1) := by decide +kernel
theorem dX5_farthestBit_93 : decode cX5_farthestBit 93 = .ok (.bipush (-9), 2) := by decide +kernel
theorem dX5_farthestBit_95 : decode cX5_farthestBit 95 = .ok (.if_icmp .eq 14, 3) := by decide +kernel
theorem dX5_farthestBit_98 : decode cX5_farthestBit 98 = .ok (.iload 9, 2) := by decide +kernel
theorem dX5_farthestBit_100 : decode cX5_farthestBit 100 = .ok (.iload_n 3, 1) := by decide +kernel
theorem dX5_farthestBit_101 : decode cX5_farthestBit 101 = .ok (.imul, 1) := by decide +kernel
theorem dX5_farthestBit_102 : decode cX5_farthestBit 102 = .ok (.iload_n 2, 1) := by decide +kernel
theorem dX5_farthestBit_103 : decode cX5_farthestBit 103 = .ok (.iload 10, 2) := by decide +kernel
theorem dX5_farthestBit_105 : decode cX5_farthestBit 105 = .ok (.imul, 1) := by decide +kernel
theorem dX5_farthestBit_106 : decode cX5_farthestBit 106 = .ok (.if_icmp .le 12, 3) := by decide +kernel
theorem dX5_farthestBit_109 : decode cX5_farthestBit 109 = .ok (.iload 4, 2) := by decide +kernel
theorem dX5_farthestBit_111 : decode cX5_farthestBit 111 = .ok (.istore_n 1, 1) := by decide +kernel
theorem dX5_farthestBit_112 : decode cX5_farthestBit 112 = .ok (.iload 9, 2) := by decide +kernel
theorem dX5_farthestBit_114 : decode cX5_farthestBit 114 = .ok (.istore_n 2, 1) := by decide +kernel
theorem dX5_farthestBit_115 : decode cX5_farthestBit 115 = .ok (.iload 10, 2) := by decide +kernel
theorem dX5_farthestBit_117 : decode cX5_farthestBit 117 = .ok (.istore_n 3, 1) := by decide +kernel
theorem dX5_farthestBit_118 : decode cX5_farthestBit 118 = .ok (.iinc 4 1, 3) := by decide +kernel
theorem dX5_farthestBit_121 : decode cX5_farthestBit 121 = .ok (.goto (-111), 3) := by decide +kernel
theorem dX5_farthestBit_124 : decode cX5_farthestBit 124 = .ok (.iload_n 1, 1) := by decide +kernel
theorem dX5_farthestBit_125 : decode cX5_farthestBit 125 = .ok (.ireturn, 1) := by decide +kernel
theorem dX6_init_0 : decode cX6_init 0 = .ok (.aload_n 0, 1) := by decide +kernel
theorem dX6_init_1 : decode cX6_init 1 = .ok (.invokespecial 1, 3) := by decide +kernel
theorem dX6_init_4 : decode cX6_init 4 = .ok (.aload_n 0, 1) := by decide +kernel
theorem dX6_init_5 : decode cX6_init 5 = .ok (.new 7, 3) := by decide +kernel
theorem dX6_init_8 : decode cX6_init 8 = .ok (.dup, 1) := by decide +kernel
theorem dX6_init_9 : decode cX6_init 9 = .ok (.invokespecial 9, 3) := by decide +kernel
theorem dX6_init_12 : decode cX6_init 12 = .ok (.putfield 10, 3) := by decide +kernel
theorem dX6_init_15 : decode cX6_init 15 = .ok (.aload_n 0, 1) := by decide +kernel
theorem dX6_init_16 : decode cX6_init 16 = .ok (.new 16, 3) := by decide +kernel
theorem dX6_init_19 : decode cX6_init 19 = .ok (.dup, 1) := by decide +kernel
theorem dX6_init_20 : decode cX6_init 20 = .ok (.invokespecial 18, 3) := by decide +kernel
theorem dX6_init_23 : decode cX6_init 23 = .ok (.putfield 19, 3) := by decide +kernel
theorem dX6_init_26 : decode cX6_init 26 = .ok (.aload_n 0, 1) := by decide +kernel
theorem dX6_init_27 : decode cX6_init 27 = .ok (.new 23, 3) := by decide +kernel
theorem dX6_init_30 : decode cX6_init 30 = .ok (.dup, 1) := by decide +kernel
theorem dX6_init_31 : decode cX6_init 31 = .ok (.invokespecial 25, 3) := by decide +kernel
theorem dX6_init_34 : decode cX6_init 34 = .ok (.putfield 26, 3) := by decide +kernel
theorem dX6_init_37 : decode cX6_init 37 = .ok (.aload_n 0, 1) := by decide +kernel
theorem dX6_init_38 : decode cX6_init 38 = .ok (.bipush 6, 2) := by decide +kernel
theorem dX6_init_40 : decode cX6_init 40 = .ok (.newarray .int, 2) := by decide +kernel
theorem dX6_init_42 : decode cX6_init 42 = .ok (.putfield 30, 3) := by decide +kernel
theorem dX6_init_45 : decode cX6_init 45 = .ok (.aload_n 0, 1) := by decide +kernel
theorem dX6_init_46 : decode cX6_init 46 = .ok (.new 34, 3) := by decide +kernel
theorem dX6_init_49 : decode cX6_init 49 = .ok (.dup, 1) := by decide +kernel
theorem dX6_init_50 : decode cX6_init 50 = .ok (.invokespecial 36, 3) := by decide +kernel
theorem dX6_init_53 : decode cX6_init 53 = .ok (.putfield 37, 3) := by decide +kernel
theorem dX6_init_56 : decode cX6_init 56 = .ok (.aload_n 0, 1) := by decide +kernel
theorem dX6_init_57 : decode cX6_init 57 = .ok (.new 34, 3) := by decide +kernel
theorem dX6_init_60 : decode cX6_init 60 = .ok (.dup, 1) := by decide +kernel
theorem dX6_init_61 : decode cX6_init 61 = .ok (.invokespecial 36, 3) := by decide +kernel
theorem dX6_init_64 : decode cX6_init 64 = .ok (.putfield 41, 3) := by decide +kernel
theorem dX6_init_67 : decode cX6_init 67 = .ok (.aload_n 0, 1) := by decide +kernel
theorem dX6_init_68 : decode cX6_init 68 = .ok (.new 44, 3) := by decide +kernel
theorem dX6_init_71 : decode cX6_init 71 = .ok (.dup, 1) := by decide +kernel
theorem dX6_init_72 : decode cX6_init 72 = .ok (.invokespecial 46, 3) := by decide +kernel
theorem dX6_init_75 : decode cX6_init 75 = .ok (.putfield 47, 3) := by decide +kernel
theorem dX6_init_78 : decode cX6_init 78 = .ok (.aload_n 0, 1) := by decide +kernel
theorem dX6_init_79 : decode cX6_init 79 = .ok (.new 51, 3) := by decide +kernel
theorem dX6_init_82 : decode cX6_init 82 = .ok (.dup, 1) := by decide +kernel
theorem dX6_init_83 : decode cX6_init 83 = .ok (.invokespecial 53, 3) := by decide +kernel
theorem dX6_init_86 : decode cX6_init 86 = .ok (.putfield 54, 3) := by decide +kernel
theorem dX6_init_89 : decode cX6_init 89 = .ok (.aload_n 0, 1) := by decide +kernel
theorem dX6_init_90 : decode cX6_init 90 = .ok (.new 7, 3) := by decide +kernel
theorem dX6_init_93 : decode cX6_init 93 = .ok (.dup, 1) := by decide +kernel
theorem dX6_init_94 : decode cX6_init 94 = .ok (.invokespecial 9, 3) := by decide +kernel
theorem dX6_init_97 : decode cX6_init 97 = .ok (.putfield 58, 3) := by decide +kernel
theorem dX6_init_100 : decode cX6_init 100 = .ok (.aload_n 0, 1) := by decide +kernel
theorem dX6_init_101 : decode cX6_init 101 = .ok (.new 23, 3) := by decide +kernel
theorem dX6_init_104 : decode cX6_init 104 = .ok (.dup, 1) := by decide +kernel
theorem dX6_init_105 : decode cX6_init 105 = .ok (.invokespecial 25, 3) := by decide +kernel
theorem dX6_init_108 : decode cX6_init 108 = .ok (.putfield 61, 3) := by decide +kernel
theorem dX6_init_111 : decode cX6_init 111 = .ok (.aload_n 0, 1) := by decide +kernel
theorem dX6_init_112 : decode cX6_init 112 = .ok (.iconst 1, 1) := by decide +kernel
theorem dX6_init_113 : decode cX6_init 113 = .ok (.putfield 64, 3) := by decide +kernel
theorem dX6_init_116 : decode cX6_init 116 = .ok (.aload_n 0, 1) := by decide +kernel
theorem dX6_init_117 : decode cX6_init 117 = .ok (.lconst 0, 1) := by decide +kernel
theorem dX6_init_118 : decode cX6_init 118 = .ok (.putfield 68, 3) := by decide +kernel
theorem dX6_init_121 : decode cX6_init 121 = .ok (.getstatic 72, 3) := by decide +kernel
theorem dX6_init_124 : decode cX6_init 124 = .ok (.iconst 0, 1) := by decide +kernel
theorem dX6_init_125 : decode cX6_init 125 = .ok (.aload_n 0, 1) := by decide +kernel
theorem dX6_init_126 : decode cX6_init 126 = .ok (.getfield 30, 3) := by decide +kernel
theorem dX6_init_129 : decode cX6_init 129 = .ok (.iconst 0, 1) := by decide +kernel
theorem dX6_init_130 : decode cX6_init 130 = .ok (.bipush 6, 2) := by decide +kernel
theorem dX6_init_132 : decode cX6_init 132 = .ok (.invokestatic 75, 3) := by decide +kernel
theorem dX6_init_135 : decode cX6_init 135 = .ok (.aload_n 0, 1) := by decide +kernel
theorem dX6_init_136 : decode cX6_init 136 = .ok (.getfield 10, 3) := by decide +kernel
theorem dX6_init_139 : decode cX6_init 139 = .ok (.invokevirtual 81, 3) := by decide +kernel
theorem dX6_init_142 : decode cX6_init 142 = .ok (.aload_n 0, 1) := by decide +kernel
theorem dX6_init_143 : decode cX6_init 143 = .ok (.getfield 26, 3) := by decide +kernel
theorem dX6_init_146 : decode cX6_init 146 = .ok (.aload_n 0, 1) := by decide +kernel
theorem dX6_init_147 : decode cX6_init 147 = .ok (.getfield 10, 3) := by decide +kernel
theorem dX6_init_150 : decode cX6_init 150 = .ok (.iconst 0, 1) := by decide +kernel
theorem dX6_init_151 : decode cX6_init 151 = .ok (.invokevirtual 84, 3) := by decide +kernel
theorem dX6_init_154 : decode cX6_init 154 = .ok (.return_, 1) := by decide +kernel
theorem dX6_type_0 : decode cX6_type 0 = .ok (.iload_n 3, 1) := by decide +kernel
theorem dX6_type_1 : decode cX6_type 1 = .ok (.iconst 1, 1) := by decide +kernel
theorem dX6_type_2 : decode cX6_type 2 = .ok (.bipush 8, 2) := by decide +kernel
theorem dX6_type_4 : decode cX6_type 4 = .ok (.invokestatic 88, 3) := by decide +kernel
theorem dX6_type_7 : decode cX6_type 7 = .ok (.ifCond .ne 5, 3) := by decide +kernel
theorem dX6_type_10 : decode cX6_type 10 = .ok (.iconst (-1), 1) := by decide +kernel
theorem dX6_type_11 : decode cX6_type 11 = .ok (.ireturn, 1) := by decide +kernel
theorem dX6_type_12 : decode cX6_type 12 = .ok (.aload_n 0, 1) := by decide +kernel
theorem dX6_type_13 : decode cX6_type 13 = .ok (.getfield 19, 3) := by decide +kernel
theorem dX6_type_16 : decode cX6_type 16 = .ok (.lload_n 1, 1) := by decide +kernel
theorem dX6_type_17 : decode cX6_type 17 = .ok (.iload_n 3, 1) := by decide +kernel
theorem dX6_type_18 : decode cX6_type 18 = .ok (.invokevirtual 92, 3) := by decide +kernel
theorem dX6_type_21 : decode cX6_type 21 = .ok (.ifCond .eq 13, 3) := by decide +kernel
theorem dX6_type_24 : decode cX6_type 24 = .ok (.aload_n 0, 1) := by decide +kernel
theorem dX6_type_25 : decode cX6_type 25 = .ok (.getfield 19, 3) := by decide +kernel
theorem dX6_type_28 : decode cX6_type 28 = .ok (.getfield 96, 3) := by decide +kernel
theorem dX6_type_31 : decode cX6_type 31 = .ok (.goto 5, 3) := by decide +kernel
theorem dX6_type_34 : decode cX6_type 34 = .ok (.bipush (-3), 2) := by decide +kernel
theorem dX6_type_36 : decode cX6_type 36 = .ok (.ireturn, 1) := by decide +kernel
theorem dX6_clear_0 : decode cX6_clear 0 = .ok (.aload_n 0, 1) := by decide +kernel
theorem dX6_clear_1 : decode cX6_clear 1 = .ok (.getfield 19, 3) := by decide +kernel
theorem dX6_clear_4 : decode cX6_clear 4 = .ok (.getfield 96, 3) := by decide +kernel
theorem dX6_clear_7 : decode cX6_clear 7 = .ok (.istore_n 1, 1) := by decide +kernel
theorem dX6_clear_8 : decode cX6_clear 8 = .ok (.aload_n 0, 1) := by decide +kernel
theorem dX6_clear_9 : decode cX6_clear 9 = .ok (.getfield 19, 3) := by decide +kernel
theorem dX6_clear_12 : decode cX6_clear 12 = .ok (.iconst 0, 1) := by decide +kernel
theorem dX6_clear_13 : decode cX6_clear 13 = .ok (.putfield 96, 3) := by decide +kernel
theorem dX6_clear_16 : decode cX6_clear 16 = .ok (.iload_n 1, 1) := by decide +kernel
theorem dX6_clear_17 : decode cX6_clear 17 = .ok (.ireturn, 1) := by decide +kernel
theorem dX6_chart_0 : decode cX6_chart 0 = .ok (.aload_n 0, 1) := by decide +kernel
theorem dX6_chart_1 : decode cX6_chart 1 = .ok (.getfield 19, 3) := by decide +kernel
theorem dX6_chart_4 : decode cX6_chart 4 = .ok (.invokevirtual 99, 3) := by decide +kernel
theorem dX6_chart_7 : decode cX6_chart 7 = .ok (.istore_n 1, 1) := by decide +kernel
theorem dX6_chart_8 : decode cX6_chart 8 = .ok (.iload_n 1, 1) := by decide +kernel
theorem dX6_chart_9 : decode cX6_chart 9 = .ok (.ifCond .ge 14, 3) := by decide +kernel
theorem dX6_chart_12 : decode cX6_chart 12 = .ok (.bipush (-10), 2) := by decide +kernel
theorem dX6_chart_14 : decode cX6_chart 14 = .ok (.aload_n 0, 1) := by decide +kernel
theorem dX6_chart_15 : decode cX6_chart 15 = .ok (.getfield 19, 3) := by decide +kernel
theorem dX6_chart_18 : decode cX6_chart 18 = .ok (.invokevirtual 103, 3) := by decide +kernel
theorem dX6_chart_21 : decode cX6_chart 21 = .ok (.isub, 1) := by decide +kernel
theorem dX6_chart_22 : decode cX6_chart 22 = .ok (.ireturn, 1) := by decide +kernel
theorem dX6_chart_23 : decode cX6_chart 23 = .ok (.aload_n 0, 1) := by decide +kernel
theorem dX6_chart_24 : decode cX6_chart 24 = .ok (.getfield 19, 3) := by decide +kernel
theorem dX6_chart_27 : decode cX6_chart 27 = .ok (.iconst 0, 1) := by decide +kernel
theorem dX6_chart_28 : decode cX6_chart 28 = .ok (.putfield 96, 3) := by decide +kernel
theorem dX6_chart_31 : decode cX6_chart 31 = .ok (.aload_n 0, 1) := by decide +kernel
theorem dX6_chart_32 : decode cX6_chart 32 = .ok (.getfield 10, 3) := by decide +kernel
theorem dX6_chart_35 : decode cX6_chart 35 = .ok (.aload_n 0, 1) := by decide +kernel
theorem dX6_chart_36 : decode cX6_chart 36 = .ok (.getfield 19, 3) := by decide +kernel
theorem dX6_chart_39 : decode cX6_chart 39 = .ok (.getfield 106, 3) := by decide +kernel
theorem dX6_chart_42 : decode cX6_chart 42 = .ok (.invokevirtual 109, 3) := by decide +kernel
theorem dX6_chart_45 : decode cX6_chart 45 = .ok (.aload_n 0, 1) := by decide +kernel
theorem dX6_chart_46 : decode cX6_chart 46 = .ok (.getfield 26, 3) := by decide +kernel
theorem dX6_chart_49 : decode cX6_chart 49 = .ok (.aload_n 0, 1) := by decide +kernel
theorem dX6_chart_50 : decode cX6_chart 50 = .ok (.getfield 10, 3) := by decide +kernel
theorem dX6_chart_53 : decode cX6_chart 53 = .ok (.iconst 0, 1) := by decide +kernel
theorem dX6_chart_54 : decode cX6_chart 54 = .ok (.invokevirtual 84, 3) := by decide +kernel
theorem dX6_chart_57 : decode cX6_chart 57 = .ok (.aload_n 0, 1) := by decide +kernel
theorem dX6_chart_58 : decode cX6_chart 58 = .ok (.getfield 37, 3) := by decide +kernel
theorem dX6_chart_61 : decode cX6_chart 61 = .ok (.iconst 0, 1) := by decide +kernel
theorem dX6_chart_62 : decode cX6_chart 62 = .ok (.putfield 113, 3) := by decide +kernel
theorem dX6_chart_65 : decode cX6_chart 65 = .ok (.aload_n 0, 1) := by decide +kernel
theorem dX6_chart_66 : decode cX6_chart 66 = .ok (.getfield 41, 3) := by decide +kernel
theorem dX6_chart_69 : decode cX6_chart 69 = .ok (.iconst 0, 1) := by decide +kernel
theorem dX6_chart_70 : decode cX6_chart 70 = .ok (.putfield 113, 3) := by decide +kernel
theorem dX6_chart_73 : decode cX6_chart 73 = .ok (.iload_n 1, 1) := by decide +kernel
theorem dX6_chart_74 : decode cX6_chart 74 = .ok (.ireturn, 1) := by decide +kernel
theorem dX6_child_0 : decode cX6_child 0 = .ok (.aload_n 0, 1) := by decide +kernel
theorem dX6_child_1 : decode cX6_child 1 = .ok (.iload_n 1, 1) := by decide +kernel
theorem dX6_child_2 : decode cX6_child 2 = .ok (.invokevirtual 117, 3) := by decide +kernel
theorem dX6_child_5 : decode cX6_child 5 = .ok (.ifCond .ne 5, 3) := by decide +kernel
theorem dX6_child_8 : decode cX6_child 8 = .ok (.iconst (-1), 1) := by decide +kernel
theorem dX6_child_9 : decode cX6_child 9 = .ok (.ireturn, 1) := by decide +kernel
theorem dX6_child_10 : decode cX6_child 10 = .ok (.iload_n 2, 1) := by decide +kernel
theorem dX6_child_11 : decode cX6_child 11 = .ok (.tableswitch 97 0 5 #[37, 47, 57, 67, 77, 87], 37) := by decide +kernel
theorem dX6_child_48 : decode cX6_child 48 = .ok (.aload_n 0, 1) := by decide +kernel
theorem dX6_child_49 : decode cX6_child 49 = .ok (.getfield 10, 3) := by decide +kernel
theorem dX6_child_52 : decode cX6_child 52 = .ok (.getfield 121, 3) := by decide +kernel
theorem dX6_child_55 : decode cX6_child 55 = .ok (.iload_n 1, 1) := by decide +kernel
theorem dX6_child_56 : decode cX6_child 56 = .ok (.iaload, 1) := by decide +kernel
theorem dX6_child_57 : decode cX6_child 57 = .ok (.ireturn, 1) := by decide +kernel
theorem dX6_child_58 : decode cX6_child 58 = .ok (.aload_n 0, 1) := by decide +kernel
theorem dX6_child_59 : decode cX6_child 59 = .ok (.getfield 10, 3) := by decide +kernel
theorem dX6_child_62 : decode cX6_child 62 = .ok (.getfield 124, 3) := by decide +kernel
theorem dX6_child_65 : decode cX6_child 65 = .ok (.iload_n 1, 1) := by decide +kernel
theorem dX6_child_66 : decode cX6_child 66 = .ok (.iaload, 1) := by decide +kernel
theorem dX6_child_67 : decode cX6_child 67 = .ok (.ireturn, 1) := by decide +kernel
theorem dX6_child_68 : decode cX6_child 68 = .ok (.aload_n 0, 1) := by decide +kernel
theorem dX6_child_69 : decode cX6_child 69 = .ok (.getfield 10, 3) := by decide +kernel
theorem dX6_child_72 : decode cX6_child 72 = .ok (.getfield 127, 3) := by decide +kernel
theorem dX6_child_75 : decode cX6_child 75 = .ok (.iload_n 1, 1) := by decide +kernel
theorem dX6_child_76 : decode cX6_child 76 = .ok (.iaload, 1) := by decide +kernel
theorem dX6_child_77 : decode cX6_child 77 = .ok (.ireturn, 1) := by decide +kernel
theorem dX6_child_78 : decode cX6_child 78 = .ok (.aload_n 0, 1) := by decide +kernel
theorem dX6_child_79 : decode cX6_child 79 = .ok (.getfield 26, 3) := by decide +kernel
theorem dX6_child_82 : decode cX6_child 82 = .ok (.getfield 130, 3) := by decide +kernel
theorem dX6_child_85 : decode cX6_child 85 = .ok (.iload_n 1, 1) := by decide +kernel
theorem dX6_child_86 : decode cX6_child 86 = .ok (.iaload, 1) := by decide +kernel
theorem dX6_child_87 : decode cX6_child 87 = .ok (.ireturn, 1) := by decide +kernel
theorem dX6_child_88 : decode cX6_child 88 = .ok (.aload_n 0, 1) := by decide +kernel
theorem dX6_child_89 : decode cX6_child 89 = .ok (.getfield 26, 3) := by decide +kernel
theorem dX6_child_92 : decode cX6_child 92 = .ok (.getfield 131, 3) := by decide +kernel
theorem dX6_child_95 : decode cX6_child 95 = .ok (.iload_n 1, 1) := by decide +kernel
theorem dX6_child_96 : decode cX6_child 96 = .ok (.iaload, 1) := by decide +kernel
theorem dX6_child_97 : decode cX6_child 97 = .ok (.ireturn, 1) := by decide +kernel
theorem dX6_child_98 : decode cX6_child 98 = .ok (.aload_n 0, 1) := by decide +kernel
theorem dX6_child_99 : decode cX6_child 99 = .ok (.getfield 26, 3) := by decide +kernel
theorem dX6_child_102 : decode cX6_child 102 = .ok (.getfield 134, 3) := by decide +kernel
theorem dX6_child_105 : decode cX6_child 105 = .ok (.iload_n 1, 1) := by decide +kernel
theorem dX6_child_106 : decode cX6_child 106 = .ok (.iaload, 1) := by decide +kernel
theorem dX6_child_107 : decode cX6_child 107 = .ok (.ireturn, 1) := by decide +kernel
theorem dX6_child_108 : decode cX6_child 108 = .ok (.iconst (-1), 1) := by decide +kernel
theorem dX6_child_109 : decode cX6_child 109 = .ok (.ireturn, 1) := by decide +kernel
theorem dX6_book_0 : decode cX6_book 0 = .ok (.aload_n 0, 1) := by decide +kernel
theorem dX6_book_1 : decode cX6_book 1 = .ok (.iload_n 1, 1) := by decide +kernel
theorem dX6_book_2 : decode cX6_book 2 = .ok (.invokevirtual 137, 3) := by decide +kernel
theorem dX6_book_5 : decode cX6_book 5 = .ok (.ifCond .ne 5, 3) := by decide +kernel
theorem dX6_book_8 : decode cX6_book 8 = .ok (.iconst (-1), 1) := by decide +kernel
theorem dX6_book_9 : decode cX6_book 9 = .ok (.ireturn, 1) := by decide +kernel
theorem dX6_book_10 : decode cX6_book 10 = .ok (.iload_n 2, 1) := by decide +kernel
theorem dX6_book_11 : decode cX6_book 11 = .ok (.tableswitch 55 0 2 #[25, 35, 45], 25) := by decide +kernel
theorem dX6_book_36 : decode cX6_book 36 = .ok (.aload_n 0, 1) := by decide +kernel
theorem dX6_book_37 : decode cX6_book 37 = .ok (.getfield 10, 3) := by decide +kernel
theorem dX6_book_40 : decode cX6_book 40 = .ok (.getfield 140, 3) := by decide +kernel
theorem dX6_book_43 : decode cX6_book 43 = .ok (.iload_n 1, 1) := by decide +kernel
theorem dX6_book_44 : decode cX6_book 44 = .ok (.iaload, 1) := by decide +kernel
theorem dX6_book_45 : decode cX6_book 45 = .ok (.ireturn, 1) := by decide +kernel
theorem dX6_book_46 : decode cX6_book 46 = .ok (.aload_n 0, 1) := by decide +kernel
theorem dX6_book_47 : decode cX6_book 47 = .ok (.getfield 10, 3) := by decide +kernel
theorem dX6_book_50 : decode cX6_book 50 = .ok (.getfield 143, 3) := by decide +kernel
theorem dX6_book_53 : decode cX6_book 53 = .ok (.iload_n 1, 1) := by decide +kernel
theorem dX6_book_54 : decode cX6_book 54 = .ok (.iaload, 1) := by decide +kernel
theorem dX6_book_55 : decode cX6_book 55 = .ok (.ireturn, 1) := by decide +kernel
theorem dX6_book_56 : decode cX6_book 56 = .ok (.aload_n 0, 1) := by decide +kernel
theorem dX6_book_57 : decode cX6_book 57 = .ok (.getfield 10, 3) := by decide +kernel
theorem dX6_book_60 : decode cX6_book 60 = .ok (.getfield 146, 3) := by decide +kernel
theorem dX6_book_63 : decode cX6_book 63 = .ok (.iload_n 1, 1) := by decide +kernel
theorem dX6_book_64 : decode cX6_book 64 = .ok (.iaload, 1) := by decide +kernel
theorem dX6_book_65 : decode cX6_book 65 = .ok (.ireturn, 1) := by decide +kernel
theorem dX6_book_66 : decode cX6_book 66 = .ok (.iconst (-1), 1) := by decide +kernel
theorem dX6_book_67 : decode cX6_book 67 = .ok (.ireturn, 1) := by decide +kernel
theorem dX6_plan_0 : decode cX6_plan 0 = .ok (.iload_n 1, 1) := by decide +kernel
theorem dX6_plan_1 : decode cX6_plan 1 = .ok (.tableswitch 71 0 3 #[31, 39, 47, 63], 31) := by decide +kernel
theorem dX6_plan_32 : decode cX6_plan 32 = .ok (.aload_n 0, 1) := by decide +kernel
theorem dX6_plan_33 : decode cX6_plan 33 = .ok (.getfield 10, 3) := by decide +kernel
theorem dX6_plan_36 : decode cX6_plan 36 = .ok (.getfield 149, 3) := by decide +kernel
theorem dX6_plan_39 : decode cX6_plan 39 = .ok (.ireturn, 1) := by decide +kernel
theorem dX6_plan_40 : decode cX6_plan 40 = .ok (.aload_n 0, 1) := by decide +kernel
theorem dX6_plan_41 : decode cX6_plan 41 = .ok (.getfield 10, 3) := by decide +kernel
theorem dX6_plan_44 : decode cX6_plan 44 = .ok (.getfield 152, 3) := by decide +kernel
theorem dX6_plan_47 : decode cX6_plan 47 = .ok (.ireturn, 1) := by decide +kernel
theorem dX6_plan_48 : decode cX6_plan 48 = .ok (.aload_n 0, 1) := by decide +kernel
theorem dX6_plan_49 : decode cX6_plan 49 = .ok (.getfield 10, 3) := by decide +kernel
theorem dX6_plan_52 : decode cX6_plan 52 = .ok (.getfield 155, 3) := by decide +kernel
theorem dX6_plan_55 : decode cX6_plan 55 = .ok (.ifCond .eq 7, 3) := by decide +kernel
theorem dX6_plan_58 : decode cX6_plan 58 = .ok (.iconst 1, 1) := by decide +kernel
theorem dX6_plan_59 : decode cX6_plan 59 = .ok (.goto 4, 3) := by decide +kernel
theorem dX6_plan_62 : decode cX6_plan 62 = .ok (.iconst 0, 1) := by decide +kernel
theorem dX6_plan_63 : decode cX6_plan 63 = .ok (.ireturn, 1) := by decide +kernel
theorem dX6_plan_64 : decode cX6_plan 64 = .ok (.aload_n 0, 1) := by decide +kernel
theorem dX6_plan_65 : decode cX6_plan 65 = .ok (.getfield 10, 3) := by decide +kernel
theorem dX6_plan_68 : decode cX6_plan 68 = .ok (.getfield 158, 3) := by decide +kernel
theorem dX6_plan_71 : decode cX6_plan 71 = .ok (.ireturn, 1) := by decide +kernel
theorem dX6_plan_72 : decode cX6_plan 72 = .ok (.iconst (-1), 1) := by decide +kernel
theorem dX6_plan_73 : decode cX6_plan 73 = .ok (.ireturn, 1) := by decide +kernel
theorem dX6_tune_0 : decode cX6_tune 0 = .ok (.iload_n 1, 1) := by decide +kernel
theorem dX6_tune_1 : decode cX6_tune 1 = .ok (.iconst 0, 1) := by decide +kernel
theorem dX6_tune_2 : decode cX6_tune 2 = .ok (.iconst 5, 1) := by decide +kernel
theorem dX6_tune_3 : decode cX6_tune 3 = .ok (.invokestatic 88, 3) := by decide +kernel
theorem dX6_tune_6 : decode cX6_tune 6 = .ok (.ifCond .eq 16, 3) := by decide +kernel
theorem dX6_tune_9 : decode cX6_tune 9 = .ok (.iload_n 2, 1) := by decide +kernel
theorem dX6_tune_10 : decode cX6_tune 10 = .ok (.iconst 0, 1) := by decide +kernel
theorem dX6_tune_11 : decode cX6_tune 11 = .ok (.getstatic 161, 3) := by decide +kernel
theorem dX6_tune_14 : decode cX6_tune 14 = .ok (.iload_n 1, 1) := by decide +kernel
theorem dX6_tune_15 : decode cX6_tune 15 = .ok (.iaload, 1) := by decide +kernel
theorem dX6_tune_16 : decode cX6_tune 16 = .ok (.invokestatic 88, 3) := by decide +kernel
theorem dX6_tune_19 : decode cX6_tune 19 = .ok (.ifCond .ne 5, 3) := by decide +kernel
theorem dX6_tune_22 : decode cX6_tune 22 = .ok (.iconst (-1), 1) := by decide +kernel
theorem dX6_tune_23 : decode cX6_tune 23 = .ok (.ireturn, 1) := by decide +kernel
theorem dX6_tune_24 : decode cX6_tune 24 = .ok (.aload_n 0, 1) := by decide +kernel
theorem dX6_tune_25 : decode cX6_tune 25 = .ok (.getfield 30, 3) := by decide +kernel
theorem dX6_tune_28 : decode cX6_tune 28 = .ok (.iload_n 1, 1) := by decide +kernel
theorem dX6_tune_29 : decode cX6_tune 29 = .ok (.iaload, 1) := by decide +kernel
theorem dX6_tune_30 : decode cX6_tune 30 = .ok (.istore_n 3, 1) := by decide +kernel
theorem dX6_tune_31 : decode cX6_tune 31 = .ok (.aload_n 0, 1) := by decide +kernel
theorem dX6_tune_32 : decode cX6_tune 32 = .ok (.getfield 30, 3) := by decide +kernel
theorem dX6_tune_35 : decode cX6_tune 35 = .ok (.iload_n 1, 1) := by decide +kernel
theorem dX6_tune_36 : decode cX6_tune 36 = .ok (.iload_n 2, 1) := by decide +kernel
theorem dX6_tune_37 : decode cX6_tune 37 = .ok (.iastore, 1) := by decide +kernel
theorem dX6_tune_38 : decode cX6_tune 38 = .ok (.iload_n 3, 1) := by decide +kernel
theorem dX6_tune_39 : decode cX6_tune 39 = .ok (.ireturn, 1) := by decide +kernel
theorem dX6_given_0 : decode cX6_given 0 = .ok (.aload_n 0, 1) := by decide +kernel
theorem dX6_given_1 : decode cX6_given 1 = .ok (.iload_n 1, 1) := by decide +kernel
theorem dX6_given_2 : decode cX6_given 2 = .ok (.invokevirtual 137, 3) := by decide +kernel
theorem dX6_given_5 : decode cX6_given 5 = .ok (.ifCond .eq 22, 3) := by decide +kernel
theorem dX6_given_8 : decode cX6_given 8 = .ok (.iload_n 2, 1) := by decide +kernel
theorem dX6_given_9 : decode cX6_given 9 = .ok (.invokestatic 164, 3) := by decide +kernel
theorem dX6_given_12 : decode cX6_given 12 = .ok (.ifCond .eq 15, 3) := by decide +kernel
theorem dX6_given_15 : decode cX6_given 15 = .ok (.aload_n 0, 1) := by decide +kernel
theorem dX6_given_16 : decode cX6_given 16 = .ok (.getfield 10, 3) := by decide +kernel
theorem dX6_given_19 : decode cX6_given 19 = .ok (.iload_n 1, 1) := by decide +kernel
theorem dX6_given_20 : decode cX6_given 20 = .ok (.iload_n 2, 1) := by decide +kernel
theorem dX6_given_21 : decode cX6_given 21 = .ok (.invokevirtual 167, 3) := by decide +kernel
theorem dX6_given_24 : decode cX6_given 24 = .ok (.goto 4, 3) := by decide +kernel
theorem dX6_given_27 : decode cX6_given 27 = .ok (.iconst (-1), 1) := by decide +kernel
theorem dX6_given_28 : decode cX6_given 28 = .ok (.ireturn, 1) := by decide +kernel
theorem dX6_want_0 : decode cX6_want 0 = .ok (.aload_n 0, 1) := by decide +kernel
theorem dX6_want_1 : decode cX6_want 1 = .ok (.iload_n 1, 1) := by decide +kernel
theorem dX6_want_2 : decode cX6_want 2 = .ok (.invokevirtual 117, 3) := by decide +kernel
theorem dX6_want_5 : decode cX6_want 5 = .ok (.ifCond .eq 11, 3) := by decide +kernel
theorem dX6_want_8 : decode cX6_want 8 = .ok (.aload_n 0, 1) := by decide +kernel
theorem dX6_want_9 : decode cX6_want 9 = .ok (.iload_n 2, 1) := by decide +kernel
theorem dX6_want_10 : decode cX6_want 10 = .ok (.invokevirtual 137, 3) := by decide +kernel
theorem dX6_want_13 : decode cX6_want 13 = .ok (.ifCond .ne 5, 3) := by decide +kernel
theorem dX6_want_16 : decode cX6_want 16 = .ok (.iconst (-1), 1) := by decide +kernel
theorem dX6_want_17 : decode cX6_want 17 = .ok (.ireturn, 1) := by decide +kernel
theorem dX6_want_18 : decode cX6_want 18 = .ok (.iload_n 3, 1) := by decide +kernel
theorem dX6_want_19 : decode cX6_want 19 = .ok (.tableswitch 81 0 3 #[29, 39, 53, 67], 29) := by decide +kernel
theorem dX6_want_48 : decode cX6_want 48 = .ok (.aload_n 0, 1) := by decide +kernel
theorem dX6_want_49 : decode cX6_want 49 = .ok (.getfield 10, 3) := by decide +kernel
theorem dX6_want_52 : decode cX6_want 52 = .ok (.iload_n 1, 1) := by decide +kernel
theorem dX6_want_53 : decode cX6_want 53 = .ok (.iload_n 2, 1) := by decide +kernel
theorem dX6_want_54 : decode cX6_want 54 = .ok (.invokevirtual 171, 3) := by decide +kernel
theorem dX6_want_57 : decode cX6_want 57 = .ok (.ireturn, 1) := by decide +kernel
theorem dX6_want_58 : decode cX6_want 58 = .ok (.aload_n 0, 1) := by decide +kernel
theorem dX6_want_59 : decode cX6_want 59 = .ok (.getfield 26, 3) := by decide +kernel
theorem dX6_want_62 : decode cX6_want 62 = .ok (.aload_n 0, 1) := by decide +kernel
theorem dX6_want_63 : decode cX6_want 63 = .ok (.getfield 10, 3) := by decide +kernel
theorem dX6_want_66 : decode cX6_want 66 = .ok (.iload_n 1, 1) := by decide +kernel
theorem dX6_want_67 : decode cX6_want 67 = .ok (.iload_n 2, 1) := by decide +kernel
theorem dX6_want_68 : decode cX6_want 68 = .ok (.invokevirtual 174, 3) := by decide +kernel
theorem dX6_want_71 : decode cX6_want 71 = .ok (.ireturn, 1) := by decide +kernel
theorem dX6_want_72 : decode cX6_want 72 = .ok (.aload_n 0, 1) := by decide +kernel
theorem dX6_want_73 : decode cX6_want 73 = .ok (.getfield 26, 3) := by decide +kernel
theorem dX6_want_76 : decode cX6_want 76 = .ok (.aload_n 0, 1) := by decide +kernel
theorem dX6_want_77 : decode cX6_want 77 = .ok (.getfield 10, 3) := by decide +kernel
theorem dX6_want_80 : decode cX6_want 80 = .ok (.iload_n 1, 1) := by decide +kernel
theorem dX6_want_81 : decode cX6_want 81 = .ok (.iload_n 2, 1) := by decide +kernel
theorem dX6_want_82 : decode cX6_want 82 = .ok (.invokevirtual 178, 3) := by decide +kernel
theorem dX6_want_85 : decode cX6_want 85 = .ok (.ireturn, 1) := by decide +kernel
theorem dX6_want_86 : decode cX6_want 86 = .ok (.aload_n 0, 1) := by decide +kernel
theorem dX6_want_87 : decode cX6_want 87 = .ok (.getfield 26, 3) := by decide +kernel
theorem dX6_want_90 : decode cX6_want 90 = .ok (.aload_n 0, 1) := by decide +kernel
theorem dX6_want_91 : decode cX6_want 91 = .ok (.getfield 10, 3) := by decide +kernel
theorem dX6_want_94 : decode cX6_want 94 = .ok (.iload_n 1, 1) := by decide +kernel
theorem dX6_want_95 : decode cX6_want 95 = .ok (.iload_n 2, 1) := by decide +kernel
theorem dX6_want_96 : decode cX6_want 96 = .ok (.invokevirtual 181, 3) := by decide +kernel
theorem dX6_want_99 : decode cX6_want 99 = .ok (.ireturn, 1) := by decide +kernel
theorem dX6_want_100 : decode cX6_want 100 = .ok (.iconst (-1), 1) := by decide +kernel
theorem dX6_want_101 : decode cX6_want 101 = .ok (.ireturn, 1) := by decide +kernel
theorem dX6_choice_0 : decode cX6_choice 0 = .ok (.aload_n 0, 1) := by decide +kernel
theorem dX6_choice_1 : decode cX6_choice 1 = .ok (.iload_n 1, 1) := by decide +kernel
theorem dX6_choice_2 : decode cX6_choice 2 = .ok (.invokevirtual 117, 3) := by decide +kernel
theorem dX6_choice_5 : decode cX6_choice 5 = .ok (.ifCond .eq 24, 3) := by decide +kernel
theorem dX6_choice_8 : decode cX6_choice 8 = .ok (.aload_n 0, 1) := by decide +kernel
theorem dX6_choice_9 : decode cX6_choice 9 = .ok (.getfield 26, 3) := by decide +kernel
theorem dX6_choice_12 : decode cX6_choice 12 = .ok (.aload_n 0, 1) := by decide +kernel
theorem dX6_choice_13 : decode cX6_choice 13 = .ok (.getfield 10, 3) := by decide +kernel
theorem dX6_choice_16 : decode cX6_choice 16 = .ok (.iload_n 1, 1) := by decide +kernel
theorem dX6_choice_17 : decode cX6_choice 17 = .ok (.aload_n 0, 1) := by decide +kernel
theorem dX6_choice_18 : decode cX6_choice 18 = .ok (.getfield 30, 3) := by decide +kernel
theorem dX6_choice_21 : decode cX6_choice 21 = .ok (.iconst 0, 1) := by decide +kernel
theorem dX6_choice_22 : decode cX6_choice 22 = .ok (.iaload, 1) := by decide +kernel
theorem dX6_choice_23 : decode cX6_choice 23 = .ok (.invokevirtual 184, 3) := by decide +kernel
theorem dX6_choice_26 : decode cX6_choice 26 = .ok (.goto 4, 3) := by decide +kernel
theorem dX6_choice_29 : decode cX6_choice 29 = .ok (.iconst (-1), 1) := by decide +kernel
theorem dX6_choice_30 : decode cX6_choice 30 = .ok (.ireturn, 1) := by decide +kernel
theorem dX6_go_0 : decode cX6_go 0 = .ok (.iload_n 1, 1) := by decide +kernel
theorem dX6_go_1 : decode cX6_go 1 = .ok (.iconst 1, 1) := by decide +kernel
theorem dX6_go_2 : decode cX6_go 2 = .ok (.bipush 99, 2) := by decide +kernel
theorem dX6_go_4 : decode cX6_go 4 = .ok (.invokestatic 88, 3) := by decide +kernel
theorem dX6_go_7 : decode cX6_go 7 = .ok (.ifCond .ne 5, 3) := by decide +kernel
theorem dX6_go_10 : decode cX6_go 10 = .ok (.iconst (-1), 1) := by decide +kernel
theorem dX6_go_11 : decode cX6_go 11 = .ok (.ireturn, 1) := by decide +kernel
theorem dX6_go_12 : decode cX6_go 12 = .ok (.aload_n 0, 1) := by decide +kernel
theorem dX6_go_13 : decode cX6_go 13 = .ok (.getfield 26, 3) := by decide +kernel
theorem dX6_go_16 : decode cX6_go 16 = .ok (.getfield 187, 3) := by decide +kernel
theorem dX6_go_19 : decode cX6_go 19 = .ok (.bipush 99, 2) := by decide +kernel
theorem dX6_go_21 : decode cX6_go 21 = .ok (.if_icmp .lt 6, 3) := by decide +kernel
theorem dX6_go_24 : decode cX6_go 24 = .ok (.bipush (-2), 2) := by decide +kernel
theorem dX6_go_26 : decode cX6_go 26 = .ok (.ireturn, 1) := by decide +kernel
theorem dX6_go_27 : decode cX6_go 27 = .ok (.iload_n 1, 1) := by decide +kernel
theorem dX6_go_28 : decode cX6_go 28 = .ok (.bipush 99, 2) := by decide +kernel
theorem dX6_go_30 : decode cX6_go 30 = .ok (.aload_n 0, 1) := by decide +kernel
theorem dX6_go_31 : decode cX6_go 31 = .ok (.getfield 26, 3) := by decide +kernel
theorem dX6_go_34 : decode cX6_go 34 = .ok (.getfield 187, 3) := by decide +kernel
theorem dX6_go_37 : decode cX6_go 37 = .ok (.isub, 1) := by decide +kernel
theorem dX6_go_38 : decode cX6_go 38 = .ok (.invokestatic 190, 3) := by decide +kernel
theorem dX6_go_41 : decode cX6_go 41 = .ok (.istore_n 2, 1) := by decide +kernel
theorem dX6_go_42 : decode cX6_go 42 = .ok (.iconst 0, 1) := by decide +kernel
theorem dX6_go_43 : decode cX6_go 43 = .ok (.istore_n 3, 1) := by decide +kernel
theorem dX6_go_44 : decode cX6_go 44 = .ok (.iload_n 3, 1) := by decide +kernel
theorem dX6_go_45 : decode cX6_go 45 = .ok (.iload_n 2, 1) := by decide +kernel
theorem dX6_go_46 : decode cX6_go 46 = .ok (.if_icmp .ge 25, 3) := by decide +kernel
theorem dX6_go_49 : decode cX6_go 49 = .ok (.aload_n 0, 1) := by decide +kernel
theorem dX6_go_50 : decode cX6_go 50 = .ok (.getfield 26, 3) := by decide +kernel
theorem dX6_go_53 : decode cX6_go 53 = .ok (.aload_n 0, 1) := by decide +kernel
theorem dX6_go_54 : decode cX6_go 54 = .ok (.getfield 10, 3) := by decide +kernel
theorem dX6_go_57 : decode cX6_go 57 = .ok (.aload_n 0, 1) := by decide +kernel
theorem dX6_go_58 : decode cX6_go 58 = .ok (.getfield 30, 3) := by decide +kernel
theorem dX6_go_61 : decode cX6_go 61 = .ok (.invokevirtual 195, 3) := by decide +kernel
theorem dX6_go_64 : decode cX6_go 64 = .ok (.pop, 1) := by decide +kernel
theorem dX6_go_65 : decode cX6_go 65 = .ok (.iinc 3 1, 3) := by decide +kernel
theorem dX6_go_68 : decode cX6_go 68 = .ok (.goto (-24), 3) := by decide +kernel
theorem dX6_go_71 : decode cX6_go 71 = .ok (.iload_n 2, 1) := by decide +kernel
theorem dX6_go_72 : decode cX6_go 72 = .ok (.ireturn, 1) := by decide +kernel
theorem dX6_now_0 : decode cX6_now 0 = .ok (.iload_n 1, 1) := by decide +kernel
theorem dX6_now_1 : decode cX6_now 1 = .ok (.tableswitch 105 0 4 #[35, 43, 51, 69, 87], 35) := by decide +kernel
theorem dX6_now_36 : decode cX6_now 36 = .ok (.aload_n 0, 1) := by decide +kernel
theorem dX6_now_37 : decode cX6_now 37 = .ok (.getfield 26, 3) := by decide +kernel
theorem dX6_now_40 : decode cX6_now 40 = .ok (.getfield 187, 3) := by decide +kernel
theorem dX6_now_43 : decode cX6_now 43 = .ok (.ireturn, 1) := by decide +kernel
theorem dX6_now_44 : decode cX6_now 44 = .ok (.aload_n 0, 1) := by decide +kernel
theorem dX6_now_45 : decode cX6_now 45 = .ok (.getfield 26, 3) := by decide +kernel
theorem dX6_now_48 : decode cX6_now 48 = .ok (.getfield 199, 3) := by decide +kernel
theorem dX6_now_51 : decode cX6_now 51 = .ok (.ireturn, 1) := by decide +kernel
theorem dX6_now_52 : decode cX6_now 52 = .ok (.aload_n 0, 1) := by decide +kernel
theorem dX6_now_53 : decode cX6_now 53 = .ok (.getfield 26, 3) := by decide +kernel
theorem dX6_now_56 : decode cX6_now 56 = .ok (.getfield 130, 3) := by decide +kernel
theorem dX6_now_59 : decode cX6_now 59 = .ok (.aload_n 0, 1) := by decide +kernel
theorem dX6_now_60 : decode cX6_now 60 = .ok (.getfield 10, 3) := by decide +kernel
theorem dX6_now_63 : decode cX6_now 63 = .ok (.getfield 202, 3) := by decide +kernel
theorem dX6_now_66 : decode cX6_now 66 = .ok (.invokestatic 205, 3) := by decide +kernel
theorem dX6_now_69 : decode cX6_now 69 = .ok (.ireturn, 1) := by decide +kernel
theorem dX6_now_70 : decode cX6_now 70 = .ok (.aload_n 0, 1) := by decide +kernel
theorem dX6_now_71 : decode cX6_now 71 = .ok (.getfield 26, 3) := by decide +kernel
theorem dX6_now_74 : decode cX6_now 74 = .ok (.getfield 131, 3) := by decide +kernel
theorem dX6_now_77 : decode cX6_now 77 = .ok (.aload_n 0, 1) := by decide +kernel
theorem dX6_now_78 : decode cX6_now 78 = .ok (.getfield 10, 3) := by decide +kernel
theorem dX6_now_81 : decode cX6_now 81 = .ok (.getfield 202, 3) := by decide +kernel
theorem dX6_now_84 : decode cX6_now 84 = .ok (.invokestatic 205, 3) := by decide +kernel
theorem dX6_now_87 : decode cX6_now 87 = .ok (.ireturn, 1) := by decide +kernel
theorem dX6_now_88 : decode cX6_now 88 = .ok (.aload_n 0, 1) := by decide +kernel
theorem dX6_now_89 : decode cX6_now 89 = .ok (.getfield 26, 3) := by decide +kernel
theorem dX6_now_92 : decode cX6_now 92 = .ok (.getfield 134, 3) := by decide +kernel
theorem dX6_now_95 : decode cX6_now 95 = .ok (.aload_n 0, 1) := by decide +kernel
theorem dX6_now_96 : decode cX6_now 96 = .ok (.getfield 10, 3) := by decide +kernel
theorem dX6_now_99 : decode cX6_now 99 = .ok (.getfield 202, 3) := by decide +kernel
theorem dX6_now_102 : decode cX6_now 102 = .ok (.invokestatic 205, 3) := by decide +kernel
theorem dX6_now_105 : decode cX6_now 105 = .ok (.ireturn, 1) := by decide +kernel
theorem dX6_now_106 : decode cX6_now 106 = .ok (.iconst (-1), 1) := by decide +kernel
theorem dX6_now_107 : decode cX6_now 107 = .ok (.ireturn, 1) := by decide +kernel
theorem dX6_anew_0 : decode cX6_anew 0 = .ok (.aload_n 0, 1) := by decide +kernel
theorem dX6_anew_1 : decode cX6_anew 1 = .ok (.getfield 26, 3) := by decide +kernel
theorem dX6_anew_4 : decode cX6_anew 4 = .ok (.getfield 187, 3) := by decide +kernel
theorem dX6_anew_7 : decode cX6_anew 7 = .ok (.istore_n 1, 1) := by decide +kernel
theorem dX6_anew_8 : decode cX6_anew 8 = .ok (.aload_n 0, 1) := by decide +kernel
theorem dX6_anew_9 : decode cX6_anew 9 = .ok (.getfield 26, 3) := by decide +kernel
theorem dX6_anew_12 : decode cX6_anew 12 = .ok (.aload_n 0, 1) := by decide +kernel
theorem dX6_anew_13 : decode cX6_anew 13 = .ok (.getfield 10, 3) := by decide +kernel
theorem dX6_anew_16 : decode cX6_anew 16 = .ok (.iconst 0, 1) := by decide +kernel
theorem dX6_anew_17 : decode cX6_anew 17 = .ok (.invokevirtual 84, 3) := by decide +kernel
theorem dX6_anew_20 : decode cX6_anew 20 = .ok (.iload_n 1, 1) := by decide +kernel
theorem dX6_anew_21 : decode cX6_anew 21 = .ok (.ireturn, 1) := by decide +kernel
theorem dX6_term_0 : decode cX6_term 0 = .ok (.iload_n 1, 1) := by decide +kernel
theorem dX6_term_1 : decode cX6_term 1 = .ok (.iconst 0, 1) := by decide +kernel
theorem dX6_term_2 : decode cX6_term 2 = .ok (.iconst 2, 1) := by decide +kernel
theorem dX6_term_3 : decode cX6_term 3 = .ok (.invokestatic 88, 3) := by decide +kernel
theorem dX6_term_6 : decode cX6_term 6 = .ok (.ifCond .ne 5, 3) := by decide +kernel
theorem dX6_term_9 : decode cX6_term 9 = .ok (.iconst (-1), 1) := by decide +kernel
theorem dX6_term_10 : decode cX6_term 10 = .ok (.ireturn, 1) := by decide +kernel
theorem dX6_term_11 : decode cX6_term 11 = .ok (.aload_n 0, 1) := by decide +kernel
theorem dX6_term_12 : decode cX6_term 12 = .ok (.getfield 58, 3) := by decide +kernel
theorem dX6_term_15 : decode cX6_term 15 = .ok (.aload_n 0, 1) := by decide +kernel
theorem dX6_term_16 : decode cX6_term 16 = .ok (.getfield 10, 3) := by decide +kernel
theorem dX6_term_19 : decode cX6_term 19 = .ok (.invokevirtual 109, 3) := by decide +kernel
theorem dX6_term_22 : decode cX6_term 22 = .ok (.iload_n 1, 1) := by decide +kernel
theorem dX6_term_23 : decode cX6_term 23 = .ok (.ifCond .ne 22, 3) := by decide +kernel
theorem dX6_term_26 : decode cX6_term 26 = .ok (.aload_n 0, 1) := by decide +kernel
theorem dX6_term_27 : decode cX6_term 27 = .ok (.aload_n 0, 1) := by decide +kernel
theorem dX6_term_28 : decode cX6_term 28 = .ok (.getfield 10, 3) := by decide +kernel
theorem dX6_term_31 : decode cX6_term 31 = .ok (.getfield 149, 3) := by decide +kernel
theorem dX6_term_34 : decode cX6_term 34 = .ok (.aload_n 0, 1) := by decide +kernel
theorem dX6_term_35 : decode cX6_term 35 = .ok (.getfield 10, 3) := by decide +kernel
theorem dX6_term_38 : decode cX6_term 38 = .ok (.getfield 152, 3) := by decide +kernel
theorem dX6_term_41 : decode cX6_term 41 = .ok (.invokevirtual 209, 3) := by decide +kernel
theorem dX6_term_44 : decode cX6_term 44 = .ok (.ireturn, 1) := by decide +kernel
theorem dX6_term_45 : decode cX6_term 45 = .ok (.iload_n 1, 1) := by decide +kernel
theorem dX6_term_46 : decode cX6_term 46 = .ok (.iconst 2, 1) := by decide +kernel
theorem dX6_term_47 : decode cX6_term 47 = .ok (.if_icmp .ne 10, 3) := by decide +kernel
theorem dX6_term_50 : decode cX6_term 50 = .ok (.aload_n 0, 1) := by decide +kernel
theorem dX6_term_51 : decode cX6_term 51 = .ok (.getfield 58, 3) := by decide +kernel
theorem dX6_term_54 : decode cX6_term 54 = .ok (.invokevirtual 212, 3) := by decide +kernel
theorem dX6_term_57 : decode cX6_term 57 = .ok (.aload_n 0, 1) := by decide +kernel
theorem dX6_term_58 : decode cX6_term 58 = .ok (.getfield 10, 3) := by decide +kernel
theorem dX6_term_61 : decode cX6_term 61 = .ok (.getfield 152, 3) := by decide +kernel
theorem dX6_term_64 : decode cX6_term 64 = .ok (.aload_n 0, 1) := by decide +kernel
theorem dX6_term_65 : decode cX6_term 65 = .ok (.getfield 10, 3) := by decide +kernel
theorem dX6_term_68 : decode cX6_term 68 = .ok (.getfield 158, 3) := by decide +kernel
theorem dX6_term_71 : decode cX6_term 71 = .ok (.iadd, 1) := by decide +kernel
theorem dX6_term_72 : decode cX6_term 72 = .ok (.istore_n 2, 1) := by decide +kernel
theorem dX6_term_73 : decode cX6_term 73 = .ok (.aload_n 0, 1) := by decide +kernel
theorem dX6_term_74 : decode cX6_term 74 = .ok (.iload_n 2, 1) := by decide +kernel
theorem dX6_term_75 : decode cX6_term 75 = .ok (.iload_n 2, 1) := by decide +kernel
theorem dX6_term_76 : decode cX6_term 76 = .ok (.bipush 7, 2) := by decide +kernel
theorem dX6_term_78 : decode cX6_term 78 = .ok (.iadd, 1) := by decide +kernel
theorem dX6_term_79 : decode cX6_term 79 = .ok (.bipush 99, 2) := by decide +kernel
theorem dX6_term_81 : decode cX6_term 81 = .ok (.invokestatic 190, 3) := by decide +kernel
theorem dX6_term_84 : decode cX6_term 84 = .ok (.invokevirtual 209, 3) := by decide +kernel
theorem dX6_term_87 : decode cX6_term 87 = .ok (.ireturn, 1) := by decide +kernel
theorem dX6_end_0 : decode cX6_end 0 = .ok (.iload_n 1, 1) := by decide +kernel
theorem dX6_end_1 : decode cX6_end 1 = .ok (.invokestatic 164, 3) := by decide +kernel
theorem dX6_end_4 : decode cX6_end 4 = .ok (.ifCond .ne 5, 3) := by decide +kernel
theorem dX6_end_7 : decode cX6_end 7 = .ok (.iconst (-1), 1) := by decide +kernel
theorem dX6_end_8 : decode cX6_end 8 = .ok (.ireturn, 1) := by decide +kernel
theorem dX6_end_9 : decode cX6_end 9 = .ok (.aload_n 0, 1) := by decide +kernel
theorem dX6_end_10 : decode cX6_end 10 = .ok (.getfield 58, 3) := by decide +kernel
theorem dX6_end_13 : decode cX6_end 13 = .ok (.aload_n 0, 1) := by decide +kernel
theorem dX6_end_14 : decode cX6_end 14 = .ok (.getfield 10, 3) := by decide +kernel
theorem dX6_end_17 : decode cX6_end 17 = .ok (.invokevirtual 109, 3) := by decide +kernel
theorem dX6_end_20 : decode cX6_end 20 = .ok (.aload_n 0, 1) := by decide +kernel
theorem dX6_end_21 : decode cX6_end 21 = .ok (.iload_n 1, 1) := by decide +kernel
theorem dX6_end_22 : decode cX6_end 22 = .ok (.invokevirtual 215, 3) := by decide +kernel
theorem dX6_end_25 : decode cX6_end 25 = .ok (.ireturn, 1) := by decide +kernel
theorem dX6_best_0 : decode cX6_best 0 = .ok (.aload_n 0, 1) := by decide +kernel
theorem dX6_best_1 : decode cX6_best 1 = .ok (.iload_n 1, 1) := by decide +kernel
theorem dX6_best_2 : decode cX6_best 2 = .ok (.invokevirtual 137, 3) := by decide +kernel
theorem dX6_best_5 : decode cX6_best 5 = .ok (.ifCond .eq 28, 3) := by decide +kernel
theorem dX6_best_8 : decode cX6_best 8 = .ok (.iload_n 2, 1) := by decide +kernel
theorem dX6_best_9 : decode cX6_best 9 = .ok (.aload_n 0, 1) := by decide +kernel
theorem dX6_best_10 : decode cX6_best 10 = .ok (.getfield 10, 3) := by decide +kernel
theorem dX6_best_13 : decode cX6_best 13 = .ok (.getfield 149, 3) := by decide +kernel
theorem dX6_best_16 : decode cX6_best 16 = .ok (.bipush 99, 2) := by decide +kernel
theorem dX6_best_18 : decode cX6_best 18 = .ok (.invokestatic 88, 3) := by decide +kernel
theorem dX6_best_21 : decode cX6_best 21 = .ok (.ifCond .eq 12, 3) := by decide +kernel
theorem dX6_best_24 : decode cX6_best 24 = .ok (.iload_n 3, 1) := by decide +kernel
theorem dX6_best_25 : decode cX6_best 25 = .ok (.iconst 0, 1) := by decide +kernel
theorem dX6_best_26 : decode cX6_best 26 = .ok (.iconst 2, 1) := by decide +kernel
theorem dX6_best_27 : decode cX6_best 27 = .ok (.invokestatic 88, 3) := by decide +kernel
theorem dX6_best_30 : decode cX6_best 30 = .ok (.ifCond .ne 5, 3) := by decide +kernel
theorem dX6_best_33 : decode cX6_best 33 = .ok (.iconst (-1), 1) := by decide +kernel
theorem dX6_best_34 : decode cX6_best 34 = .ok (.ireturn, 1) := by decide +kernel
theorem dX6_best_35 : decode cX6_best 35 = .ok (.aload_n 0, 1) := by decide +kernel
theorem dX6_best_36 : decode cX6_best 36 = .ok (.getfield 58, 3) := by decide +kernel
theorem dX6_best_39 : decode cX6_best 39 = .ok (.aload_n 0, 1) := by decide +kernel
theorem dX6_best_40 : decode cX6_best 40 = .ok (.getfield 10, 3) := by decide +kernel
theorem dX6_best_43 : decode cX6_best 43 = .ok (.invokevirtual 109, 3) := by decide +kernel
theorem dX6_best_46 : decode cX6_best 46 = .ok (.aload_n 0, 1) := by decide +kernel
theorem dX6_best_47 : decode cX6_best 47 = .ok (.getfield 58, 3) := by decide +kernel
theorem dX6_best_50 : decode cX6_best 50 = .ok (.invokevirtual 212, 3) := by decide +kernel
theorem dX6_best_53 : decode cX6_best 53 = .ok (.iconst 0, 1) := by decide +kernel
theorem dX6_best_54 : decode cX6_best 54 = .ok (.istore 4, 2) := by decide +kernel
theorem dX6_best_56 : decode cX6_best 56 = .ok (.aload_n 0, 1) := by decide +kernel
theorem dX6_best_57 : decode cX6_best 57 = .ok (.getfield 10, 3) := by decide +kernel
theorem dX6_best_60 : decode cX6_best 60 = .ok (.getfield 149, 3) := by decide +kernel
theorem dX6_best_63 : decode cX6_best 63 = .ok (.istore 5, 2) := by decide +kernel
theorem dX6_best_65 : decode cX6_best 65 = .ok (.iconst (-1), 1) := by decide +kernel
theorem dX6_best_66 : decode cX6_best 66 = .ok (.istore 6, 2) := by decide +kernel
theorem dX6_best_68 : decode cX6_best 68 = .ok (.iconst 0, 1) := by decide +kernel
theorem dX6_best_69 : decode cX6_best 69 = .ok (.istore 7, 2) := by decide +kernel
theorem dX6_best_71 : decode cX6_best 71 = .ok (.iload 7, 2) := by decide +kernel
theorem dX6_best_73 : decode cX6_best 73 = .ok (.bipush 9, 2) := by decide +kernel
theorem dX6_best_75 : decode cX6_best 75 = .ok (.if_icmp .gt 95, 3) := by decide +kernel
theorem dX6_best_78 : decode cX6_best 78 = .ok (.aload_n 0, 1) := by decide +kernel
theorem dX6_best_79 : decode cX6_best 79 = .ok (.getfield 58, 3) := by decide +kernel
theorem dX6_best_82 : decode cX6_best 82 = .ok (.getfield 146, 3) := by decide +kernel
theorem dX6_best_85 : decode cX6_best 85 = .ok (.iload_n 1, 1) := by decide +kernel
theorem dX6_best_86 : decode cX6_best 86 = .ok (.iload 7, 2) := by decide +kernel
theorem dX6_best_88 : decode cX6_best 88 = .ok (.iastore, 1) := by decide +kernel
theorem dX6_best_89 : decode cX6_best 89 = .ok (.iload 7, 2) := by decide +kernel
theorem dX6_best_91 : decode cX6_best 91 = .ok (.ifCond .ne 13, 3) := by decide +kernel
theorem dX6_best_94 : decode cX6_best 94 = .ok (.aload_n 0, 1) := by decide +kernel
theorem dX6_best_95 : decode cX6_best 95 = .ok (.getfield 10, 3) := by decide +kernel
theorem dX6_best_98 : decode cX6_best 98 = .ok (.getfield 149, 3) := by decide +kernel
theorem dX6_best_101 : decode cX6_best 101 = .ok (.goto 4, 3) := by decide +kernel
theorem dX6_best_104 : decode cX6_best 104 = .ok (.iload_n 2, 1) := by decide +kernel
theorem dX6_best_105 : decode cX6_best 105 = .ok (.istore 8, 2) := by decide +kernel
theorem dX6_best_107 : decode cX6_best 107 = .ok (.aload_n 0, 1) := by decide +kernel
theorem dX6_best_108 : decode cX6_best 108 = .ok (.getfield 10, 3) := by decide +kernel
theorem dX6_best_111 : decode cX6_best 111 = .ok (.getfield 149, 3) := by decide +kernel
theorem dX6_best_114 : decode cX6_best 114 = .ok (.istore 9, 2) := by decide +kernel
theorem dX6_best_116 : decode cX6_best 116 = .ok (.iload 9, 2) := by decide +kernel
theorem dX6_best_118 : decode cX6_best 118 = .ok (.iload 8, 2) := by decide +kernel
theorem dX6_best_120 : decode cX6_best 120 = .ok (.if_icmp .gt 44, 3) := by decide +kernel
theorem dX6_best_123 : decode cX6_best 123 = .ok (.aload_n 0, 1) := by decide +kernel
theorem dX6_best_124 : decode cX6_best 124 = .ok (.getfield 58, 3) := by decide +kernel
theorem dX6_best_127 : decode cX6_best 127 = .ok (.iload 9, 2) := by decide +kernel
theorem dX6_best_129 : decode cX6_best 129 = .ok (.putfield 152, 3) := by decide +kernel
theorem dX6_best_132 : decode cX6_best 132 = .ok (.aload_n 0, 1) := by decide +kernel
theorem dX6_best_133 : decode cX6_best 133 = .ok (.iload_n 2, 1) := by decide +kernel
theorem dX6_best_134 : decode cX6_best 134 = .ok (.invokevirtual 215, 3) := by decide +kernel
theorem dX6_best_137 : decode cX6_best 137 = .ok (.istore 10, 2) := by decide +kernel
theorem dX6_best_139 : decode cX6_best 139 = .ok (.iload 10, 2) := by decide +kernel
theorem dX6_best_141 : decode cX6_best 141 = .ok (.iload 6, 2) := by decide +kernel
theorem dX6_best_143 : decode cX6_best 143 = .ok (.if_icmp .le 15, 3) := by decide +kernel
theorem dX6_best_146 : decode cX6_best 146 = .ok (.iload 7, 2) := by decide +kernel
theorem dX6_best_148 : decode cX6_best 148 = .ok (.istore 4, 2) := by decide +kernel
theorem dX6_best_150 : decode cX6_best 150 = .ok (.iload 9, 2) := by decide +kernel
theorem dX6_best_152 : decode cX6_best 152 = .ok (.istore 5, 2) := by decide +kernel
theorem dX6_best_154 : decode cX6_best 154 = .ok (.iload 10, 2) := by decide +kernel
theorem dX6_best_156 : decode cX6_best 156 = .ok (.istore 6, 2) := by decide +kernel
theorem dX6_best_158 : decode cX6_best 158 = .ok (.iinc 9 1, 3) := by decide +kernel
theorem dX6_best_161 : decode cX6_best 161 = .ok (.goto (-45), 3) := by decide +kernel
theorem dX6_best_164 : decode cX6_best 164 = .ok (.iinc 7 1, 3) := by decide +kernel
theorem dX6_best_167 : decode cX6_best 167 = .ok (.goto (-96), 3) := by decide +kernel
theorem dX6_best_170 : decode cX6_best 170 = .ok (.iload_n 3, 1) := by decide +kernel
theorem dX6_best_171 : decode cX6_best 171 = .ok (.ifCond .ne 8, 3) := by decide +kernel
theorem dX6_best_174 : decode cX6_best 174 = .ok (.iload 4, 2) := by decide +kernel
theorem dX6_best_176 : decode cX6_best 176 = .ok (.goto 15, 3) := by decide +kernel
theorem dX6_best_179 : decode cX6_best 179 = .ok (.iload_n 3, 1) := by decide +kernel
theorem dX6_best_180 : decode cX6_best 180 = .ok (.iconst 1, 1) := by decide +kernel
theorem dX6_best_181 : decode cX6_best 181 = .ok (.if_icmp .ne 8, 3) := by decide +kernel
theorem dX6_best_184 : decode cX6_best 184 = .ok (.iload 5, 2) := by decide +kernel
theorem dX6_best_186 : decode cX6_best 186 = .ok (.goto 5, 3) := by decide +kernel
theorem dX6_best_189 : decode cX6_best 189 = .ok (.iload 6, 2) := by decide +kernel
theorem dX6_best_191 : decode cX6_best 191 = .ok (.ireturn, 1) := by decide +kernel
theorem dX6_line_0 : decode cX6_line 0 = .ok (.iload_n 1, 1) := by decide +kernel
theorem dX6_line_1 : decode cX6_line 1 = .ok (.iconst 1, 1) := by decide +kernel
theorem dX6_line_2 : decode cX6_line 2 = .ok (.bipush 9, 2) := by decide +kernel
theorem dX6_line_4 : decode cX6_line 4 = .ok (.invokestatic 88, 3) := by decide +kernel
theorem dX6_line_7 : decode cX6_line 7 = .ok (.ifCond .eq 20, 3) := by decide +kernel
theorem dX6_line_10 : decode cX6_line 10 = .ok (.iload_n 2, 1) := by decide +kernel
theorem dX6_line_11 : decode cX6_line 11 = .ok (.iconst 0, 1) := by decide +kernel
theorem dX6_line_12 : decode cX6_line 12 = .ok (.bipush 9, 2) := by decide +kernel
theorem dX6_line_14 : decode cX6_line 14 = .ok (.invokestatic 88, 3) := by decide +kernel
theorem dX6_line_17 : decode cX6_line 17 = .ok (.ifCond .eq 10, 3) := by decide +kernel
theorem dX6_line_20 : decode cX6_line 20 = .ok (.iload_n 3, 1) := by decide +kernel
theorem dX6_line_21 : decode cX6_line 21 = .ok (.invokestatic 164, 3) := by decide +kernel
theorem dX6_line_24 : decode cX6_line 24 = .ok (.ifCond .ne 5, 3) := by decide +kernel
theorem dX6_line_27 : decode cX6_line 27 = .ok (.iconst (-1), 1) := by decide +kernel
theorem dX6_line_28 : decode cX6_line 28 = .ok (.ireturn, 1) := by decide +kernel
theorem dX6_line_29 : decode cX6_line 29 = .ok (.iconst 0, 1) := by decide +kernel
theorem dX6_line_30 : decode cX6_line 30 = .ok (.istore 4, 2) := by decide +kernel
theorem dX6_line_32 : decode cX6_line 32 = .ok (.iload 4, 2) := by decide +kernel
theorem dX6_line_34 : decode cX6_line 34 = .ok (.bipush 100, 2) := by decide +kernel
theorem dX6_line_36 : decode cX6_line 36 = .ok (.if_icmp .gt 58, 3) := by decide +kernel
theorem dX6_line_39 : decode cX6_line 39 = .ok (.aload_n 0, 1) := by decide +kernel
theorem dX6_line_40 : decode cX6_line 40 = .ok (.getfield 58, 3) := by decide +kernel
theorem dX6_line_43 : decode cX6_line 43 = .ok (.aload_n 0, 1) := by decide +kernel
theorem dX6_line_44 : decode cX6_line 44 = .ok (.getfield 10, 3) := by decide +kernel
theorem dX6_line_47 : decode cX6_line 47 = .ok (.invokevirtual 109, 3) := by decide +kernel
theorem dX6_line_50 : decode cX6_line 50 = .ok (.aload_n 0, 1) := by decide +kernel
theorem dX6_line_51 : decode cX6_line 51 = .ok (.getfield 58, 3) := by decide +kernel
theorem dX6_line_54 : decode cX6_line 54 = .ok (.iload 4, 2) := by decide +kernel
theorem dX6_line_56 : decode cX6_line 56 = .ok (.iload_n 1, 1) := by decide +kernel
theorem dX6_line_57 : decode cX6_line 57 = .ok (.iload_n 2, 1) := by decide +kernel
theorem dX6_line_58 : decode cX6_line 58 = .ok (.invokevirtual 219, 3) := by decide +kernel
theorem dX6_line_61 : decode cX6_line 61 = .ok (.aload_n 0, 1) := by decide +kernel
theorem dX6_line_62 : decode cX6_line 62 = .ok (.iload_n 3, 1) := by decide +kernel
theorem dX6_line_63 : decode cX6_line 63 = .ok (.invokevirtual 215, 3) := by decide +kernel
theorem dX6_line_66 : decode cX6_line 66 = .ok (.istore 5, 2) := by decide +kernel
theorem dX6_line_68 : decode cX6_line 68 = .ok (.aload_n 0, 1) := by decide +kernel
theorem dX6_line_69 : decode cX6_line 69 = .ok (.getfield 58, 3) := by decide +kernel
theorem dX6_line_72 : decode cX6_line 72 = .ok (.invokevirtual 212, 3) := by decide +kernel
theorem dX6_line_75 : decode cX6_line 75 = .ok (.iload 5, 2) := by decide +kernel
theorem dX6_line_77 : decode cX6_line 77 = .ok (.aload_n 0, 1) := by decide +kernel
theorem dX6_line_78 : decode cX6_line 78 = .ok (.iload_n 3, 1) := by decide +kernel
theorem dX6_line_79 : decode cX6_line 79 = .ok (.invokevirtual 215, 3) := by decide +kernel
theorem dX6_line_82 : decode cX6_line 82 = .ok (.if_icmp .ge 6, 3) := by decide +kernel
theorem dX6_line_85 : decode cX6_line 85 = .ok (.iload 4, 2) := by decide +kernel
theorem dX6_line_87 : decode cX6_line 87 = .ok (.ireturn, 1) := by decide +kernel
theorem dX6_line_88 : decode cX6_line 88 = .ok (.iinc 4 1, 3) := by decide +kernel
theorem dX6_line_91 : decode cX6_line 91 = .ok (.goto (-59), 3) := by decide +kernel
theorem dX6_line_94 : decode cX6_line 94 = .ok (.bipush (-9), 2) := by decide +kernel
theorem dX6_line_96 : decode cX6_line 96 = .ok (.ireturn, 1) := by decide +kernel
theorem dX6_ending_0 : decode cX6_ending 0 = .ok (.iload_n 1, 1) := by decide +kernel
theorem dX6_ending_1 : decode cX6_ending 1 = .ok (.invokestatic 164, 3) := by decide +kernel
theorem dX6_ending_4 : decode cX6_ending 4 = .ok (.ifCond .ne 5, 3) := by decide +kernel
theorem dX6_ending_7 : decode cX6_ending 7 = .ok (.iconst (-1), 1) := by decide +kernel
theorem dX6_ending_8 : decode cX6_ending 8 = .ok (.ireturn, 1) := by decide +kernel
theorem dX6_ending_9 : decode cX6_ending 9 = .ok (.aload_n 0, 1) := by decide +kernel
theorem dX6_ending_10 : decode cX6_ending 10 = .ok (.getfield 58, 3) := by decide +kernel
theorem dX6_ending_13 : decode cX6_ending 13 = .ok (.aload_n 0, 1) := by decide +kernel
theorem dX6_ending_14 : decode cX6_ending 14 = .ok (.getfield 10, 3) := by decide +kernel
theorem dX6_ending_17 : decode cX6_ending 17 = .ok (.invokevirtual 109, 3) := by decide +kernel
theorem dX6_ending_20 : decode cX6_ending 20 = .ok (.iconst 0, 1) := by decide +kernel
theorem dX6_ending_21 : decode cX6_ending 21 = .ok (.istore_n 2, 1) := by decide +kernel
theorem dX6_ending_22 : decode cX6_ending 22 = .ok (.iconst (-1), 1) := by decide +kernel
theorem dX6_ending_23 : decode cX6_ending 23 = .ok (.istore_n 3, 1) := by decide +kernel
theorem dX6_ending_24 : decode cX6_ending 24 = .ok (.iconst 0, 1) := by decide +kernel
theorem dX6_ending_25 : decode cX6_ending 25 = .ok (.istore 4, 2) := by decide +kernel
theorem dX6_ending_27 : decode cX6_ending 27 = .ok (.iload 4, 2) := by decide +kernel
theorem dX6_ending_29 : decode cX6_ending 29 = .ok (.bipush 20, 2) := by decide +kernel
theorem dX6_ending_31 : decode cX6_ending 31 = .ok (.if_icmp .gt 37, 3) := by decide +kernel
theorem dX6_ending_34 : decode cX6_ending 34 = .ok (.aload_n 0, 1) := by decide +kernel
theorem dX6_ending_35 : decode cX6_ending 35 = .ok (.getfield 58, 3) := by decide +kernel
theorem dX6_ending_38 : decode cX6_ending 38 = .ok (.iload 4, 2) := by decide +kernel
theorem dX6_ending_40 : decode cX6_ending 40 = .ok (.putfield 158, 3) := by decide +kernel
theorem dX6_ending_43 : decode cX6_ending 43 = .ok (.aload_n 0, 1) := by decide +kernel
theorem dX6_ending_44 : decode cX6_ending 44 = .ok (.iload_n 1, 1) := by decide +kernel
theorem dX6_ending_45 : decode cX6_ending 45 = .ok (.invokevirtual 215, 3) := by decide +kernel
theorem dX6_ending_48 : decode cX6_ending 48 = .ok (.istore 5, 2) := by decide +kernel
theorem dX6_ending_50 : decode cX6_ending 50 = .ok (.iload 5, 2) := by decide +kernel
theorem dX6_ending_52 : decode cX6_ending 52 = .ok (.iload_n 3, 1) := by decide +kernel
theorem dX6_ending_53 : decode cX6_ending 53 = .ok (.if_icmp .le 9, 3) := by decide +kernel
theorem dX6_ending_56 : decode cX6_ending 56 = .ok (.iload 4, 2) := by decide +kernel
theorem dX6_ending_58 : decode cX6_ending 58 = .ok (.istore_n 2, 1) := by decide +kernel
theorem dX6_ending_59 : decode cX6_ending 59 = .ok (.iload 5, 2) := by decide +kernel
theorem dX6_ending_61 : decode cX6_ending 61 = .ok (.istore_n 3, 1) := by decide +kernel
theorem dX6_ending_62 : decode cX6_ending 62 = .ok (.iinc 4 1, 3) := by decide +kernel
theorem dX6_ending_65 : decode cX6_ending 65 = .ok (.goto (-38), 3) := by decide +kernel
theorem dX6_ending_68 : decode cX6_ending 68 = .ok (.iload_n 2, 1) := by decide +kernel
theorem dX6_ending_69 : decode cX6_ending 69 = .ok (.ireturn, 1) := by decide +kernel
theorem dX6_easy_0 : decode cX6_easy 0 = .ok (.iconst 0, 1) := by decide +kernel
theorem dX6_easy_1 : decode cX6_easy 1 = .ok (.istore_n 1, 1) := by decide +kernel
theorem dX6_easy_2 : decode cX6_easy 2 = .ok (.iconst 1, 1) := by decide +kernel
theorem dX6_easy_3 : decode cX6_easy 3 = .ok (.istore_n 2, 1) := by decide +kernel
theorem dX6_easy_4 : decode cX6_easy 4 = .ok (.iload_n 2, 1) := by decide +kernel
theorem dX6_easy_5 : decode cX6_easy 5 = .ok (.aload_n 0, 1) := by decide +kernel
theorem dX6_easy_6 : decode cX6_easy 6 = .ok (.getfield 10, 3) := by decide +kernel
theorem dX6_easy_9 : decode cX6_easy 9 = .ok (.getfield 223, 3) := by decide +kernel
theorem dX6_easy_12 : decode cX6_easy 12 = .ok (.if_icmp .ge 32, 3) := by decide +kernel
theorem dX6_easy_15 : decode cX6_easy 15 = .ok (.aload_n 0, 1) := by decide +kernel
theorem dX6_easy_16 : decode cX6_easy 16 = .ok (.getfield 10, 3) := by decide +kernel
theorem dX6_easy_19 : decode cX6_easy 19 = .ok (.getfield 140, 3) := by decide +kernel
theorem dX6_easy_22 : decode cX6_easy 22 = .ok (.iload_n 2, 1) := by decide +kernel
theorem dX6_easy_23 : decode cX6_easy 23 = .ok (.iaload, 1) := by decide +kernel
theorem dX6_easy_24 : decode cX6_easy 24 = .ok (.aload_n 0, 1) := by decide +kernel
theorem dX6_easy_25 : decode cX6_easy 25 = .ok (.getfield 10, 3) := by decide +kernel
theorem dX6_easy_28 : decode cX6_easy 28 = .ok (.getfield 140, 3) := by decide +kernel
theorem dX6_easy_31 : decode cX6_easy 31 = .ok (.iload_n 1, 1) := by decide +kernel
theorem dX6_easy_32 : decode cX6_easy 32 = .ok (.iaload, 1) := by decide +kernel
theorem dX6_easy_33 : decode cX6_easy 33 = .ok (.if_icmp .ge 5, 3) := by decide +kernel
theorem dX6_easy_36 : decode cX6_easy 36 = .ok (.iload_n 2, 1) := by decide +kernel
theorem dX6_easy_37 : decode cX6_easy 37 = .ok (.istore_n 1, 1) := by decide +kernel
theorem dX6_easy_38 : decode cX6_easy 38 = .ok (.iinc 2 1, 3) := by decide +kernel
theorem dX6_easy_41 : decode cX6_easy 41 = .ok (.goto (-37), 3) := by decide +kernel
theorem dX6_easy_44 : decode cX6_easy 44 = .ok (.iconst 0, 1) := by decide +kernel
theorem dX6_easy_45 : decode cX6_easy 45 = .ok (.istore_n 2, 1) := by decide +kernel
theorem dX6_easy_46 : decode cX6_easy 46 = .ok (.iconst 0, 1) := by decide +kernel
theorem dX6_easy_47 : decode cX6_easy 47 = .ok (.istore_n 3, 1) := by decide +kernel
theorem dX6_easy_48 : decode cX6_easy 48 = .ok (.iload_n 3, 1) := by decide +kernel
theorem dX6_easy_49 : decode cX6_easy 49 = .ok (.aload_n 0, 1) := by decide +kernel
theorem dX6_easy_50 : decode cX6_easy 50 = .ok (.getfield 10, 3) := by decide +kernel
theorem dX6_easy_53 : decode cX6_easy 53 = .ok (.getfield 202, 3) := by decide +kernel
theorem dX6_easy_56 : decode cX6_easy 56 = .ok (.if_icmp .ge 34, 3) := by decide +kernel
theorem dX6_easy_59 : decode cX6_easy 59 = .ok (.aload_n 0, 1) := by decide +kernel
theorem dX6_easy_60 : decode cX6_easy 60 = .ok (.getfield 26, 3) := by decide +kernel
theorem dX6_easy_63 : decode cX6_easy 63 = .ok (.aload_n 0, 1) := by decide +kernel
theorem dX6_easy_64 : decode cX6_easy 64 = .ok (.getfield 10, 3) := by decide +kernel
theorem dX6_easy_67 : decode cX6_easy 67 = .ok (.iload_n 3, 1) := by decide +kernel
theorem dX6_easy_68 : decode cX6_easy 68 = .ok (.aload_n 0, 1) := by decide +kernel
theorem dX6_easy_69 : decode cX6_easy 69 = .ok (.getfield 30, 3) := by decide +kernel
theorem dX6_easy_72 : decode cX6_easy 72 = .ok (.iconst 0, 1) := by decide +kernel
theorem dX6_easy_73 : decode cX6_easy 73 = .ok (.iaload, 1) := by decide +kernel
theorem dX6_easy_74 : decode cX6_easy 74 = .ok (.invokevirtual 184, 3) := by decide +kernel
theorem dX6_easy_77 : decode cX6_easy 77 = .ok (.iload_n 1, 1) := by decide +kernel
theorem dX6_easy_78 : decode cX6_easy 78 = .ok (.if_icmp .ne 6, 3) := by decide +kernel
theorem dX6_easy_81 : decode cX6_easy 81 = .ok (.iinc 2 1, 3) := by decide +kernel
theorem dX6_easy_84 : decode cX6_easy 84 = .ok (.iinc 3 1, 3) := by decide +kernel
theorem dX6_easy_87 : decode cX6_easy 87 = .ok (.goto (-39), 3) := by decide +kernel
theorem dX6_easy_90 : decode cX6_easy 90 = .ok (.iload_n 2, 1) := by decide +kernel
theorem dX6_easy_91 : decode cX6_easy 91 = .ok (.ireturn, 1) := by decide +kernel
theorem dX6_stays_0 : decode cX6_stays 0 = .ok (.aload_n 0, 1) := by decide +kernel
theorem dX6_stays_1 : decode cX6_stays 1 = .ok (.iload_n 1, 1) := by decide +kernel
theorem dX6_stays_2 : decode cX6_stays 2 = .ok (.invokevirtual 117, 3) := by decide +kernel
theorem dX6_stays_5 : decode cX6_stays 5 = .ok (.ifCond .eq 11, 3) := by decide +kernel
theorem dX6_stays_8 : decode cX6_stays 8 = .ok (.aload_n 0, 1) := by decide +kernel
theorem dX6_stays_9 : decode cX6_stays 9 = .ok (.iload_n 2, 1) := by decide +kernel
theorem dX6_stays_10 : decode cX6_stays 10 = .ok (.invokevirtual 137, 3) := by decide +kernel
theorem dX6_stays_13 : decode cX6_stays 13 = .ok (.ifCond .ne 5, 3) := by decide +kernel
theorem dX6_stays_16 : decode cX6_stays 16 = .ok (.iconst (-1), 1) := by decide +kernel
theorem dX6_stays_17 : decode cX6_stays 17 = .ok (.ireturn, 1) := by decide +kernel
theorem dX6_stays_18 : decode cX6_stays 18 = .ok (.aload_n 0, 1) := by decide +kernel
theorem dX6_stays_19 : decode cX6_stays 19 = .ok (.getfield 58, 3) := by decide +kernel
theorem dX6_stays_22 : decode cX6_stays 22 = .ok (.aload_n 0, 1) := by decide +kernel
theorem dX6_stays_23 : decode cX6_stays 23 = .ok (.getfield 10, 3) := by decide +kernel
theorem dX6_stays_26 : decode cX6_stays 26 = .ok (.invokevirtual 109, 3) := by decide +kernel
theorem dX6_stays_29 : decode cX6_stays 29 = .ok (.aload_n 0, 1) := by decide +kernel
theorem dX6_stays_30 : decode cX6_stays 30 = .ok (.getfield 61, 3) := by decide +kernel
theorem dX6_stays_33 : decode cX6_stays 33 = .ok (.aload_n 0, 1) := by decide +kernel
theorem dX6_stays_34 : decode cX6_stays 34 = .ok (.getfield 58, 3) := by decide +kernel
theorem dX6_stays_37 : decode cX6_stays 37 = .ok (.aload_n 0, 1) := by decide +kernel
theorem dX6_stays_38 : decode cX6_stays 38 = .ok (.getfield 58, 3) := by decide +kernel
theorem dX6_stays_41 : decode cX6_stays 41 = .ok (.getfield 149, 3) := by decide +kernel
theorem dX6_stays_44 : decode cX6_stays 44 = .ok (.invokevirtual 84, 3) := by decide +kernel
theorem dX6_stays_47 : decode cX6_stays 47 = .ok (.iconst 0, 1) := by decide +kernel
theorem dX6_stays_48 : decode cX6_stays 48 = .ok (.istore_n 3, 1) := by decide +kernel
theorem dX6_stays_49 : decode cX6_stays 49 = .ok (.iload_n 3, 1) := by decide +kernel
theorem dX6_stays_50 : decode cX6_stays 50 = .ok (.bipush 9, 2) := by decide +kernel
theorem dX6_stays_52 : decode cX6_stays 52 = .ok (.if_icmp .gt 43, 3) := by decide +kernel
theorem dX6_stays_55 : decode cX6_stays 55 = .ok (.aload_n 0, 1) := by decide +kernel
theorem dX6_stays_56 : decode cX6_stays 56 = .ok (.getfield 58, 3) := by decide +kernel
theorem dX6_stays_59 : decode cX6_stays 59 = .ok (.getfield 146, 3) := by decide +kernel
theorem dX6_stays_62 : decode cX6_stays 62 = .ok (.iload_n 2, 1) := by decide +kernel
theorem dX6_stays_63 : decode cX6_stays 63 = .ok (.iload_n 3, 1) := by decide +kernel
theorem dX6_stays_64 : decode cX6_stays 64 = .ok (.iastore, 1) := by decide +kernel
theorem dX6_stays_65 : decode cX6_stays 65 = .ok (.aload_n 0, 1) := by decide +kernel
theorem dX6_stays_66 : decode cX6_stays 66 = .ok (.getfield 61, 3) := by decide +kernel
theorem dX6_stays_69 : decode cX6_stays 69 = .ok (.aload_n 0, 1) := by decide +kernel
theorem dX6_stays_70 : decode cX6_stays 70 = .ok (.getfield 58, 3) := by decide +kernel
theorem dX6_stays_73 : decode cX6_stays 73 = .ok (.iload_n 1, 1) := by decide +kernel
theorem dX6_stays_74 : decode cX6_stays 74 = .ok (.aload_n 0, 1) := by decide +kernel
theorem dX6_stays_75 : decode cX6_stays 75 = .ok (.getfield 30, 3) := by decide +kernel
theorem dX6_stays_78 : decode cX6_stays 78 = .ok (.iconst 0, 1) := by decide +kernel
theorem dX6_stays_79 : decode cX6_stays 79 = .ok (.iaload, 1) := by decide +kernel
theorem dX6_stays_80 : decode cX6_stays 80 = .ok (.invokevirtual 184, 3) := by decide +kernel
theorem dX6_stays_83 : decode cX6_stays 83 = .ok (.iload_n 2, 1) := by decide +kernel
theorem dX6_stays_84 : decode cX6_stays 84 = .ok (.if_icmp .ne 5, 3) := by decide +kernel
theorem dX6_stays_87 : decode cX6_stays 87 = .ok (.iload_n 3, 1) := by decide +kernel
theorem dX6_stays_88 : decode cX6_stays 88 = .ok (.ireturn, 1) := by decide +kernel
theorem dX6_stays_89 : decode cX6_stays 89 = .ok (.iinc 3 1, 3) := by decide +kernel
theorem dX6_stays_92 : decode cX6_stays 92 = .ok (.goto (-43), 3) := by decide +kernel
theorem dX6_stays_95 : decode cX6_stays 95 = .ok (.bipush (-9), 2) := by decide +kernel
theorem dX6_stays_97 : decode cX6_stays 97 = .ok (.ireturn, 1) := by decide +kernel
theorem dX6_rests_0 : decode cX6_rests 0 = .ok (.iload_n 1, 1) := by decide +kernel
theorem dX6_rests_1 : decode cX6_rests 1 = .ok (.iconst 1, 1) := by decide +kernel
theorem dX6_rests_2 : decode cX6_rests 2 = .ok (.sipush 999, 3) := by decide +kernel
theorem dX6_rests_5 : decode cX6_rests 5 = .ok (.invokestatic 88, 3) := by decide +kernel
theorem dX6_rests_8 : decode cX6_rests 8 = .ok (.ifCond .eq 22, 3) := by decide +kernel
theorem dX6_rests_11 : decode cX6_rests 11 = .ok (.iload_n 2, 1) := by decide +kernel
theorem dX6_rests_12 : decode cX6_rests 12 = .ok (.iconst 0, 1) := by decide +kernel
theorem dX6_rests_13 : decode cX6_rests 13 = .ok (.bipush 99, 2) := by decide +kernel
theorem dX6_rests_15 : decode cX6_rests 15 = .ok (.invokestatic 88, 3) := by decide +kernel
theorem dX6_rests_18 : decode cX6_rests 18 = .ok (.ifCond .eq 12, 3) := by decide +kernel
theorem dX6_rests_21 : decode cX6_rests 21 = .ok (.iload_n 3, 1) := by decide +kernel
theorem dX6_rests_22 : decode cX6_rests 22 = .ok (.iconst 0, 1) := by decide +kernel
theorem dX6_rests_23 : decode cX6_rests 23 = .ok (.iconst 1, 1) := by decide +kernel
theorem dX6_rests_24 : decode cX6_rests 24 = .ok (.invokestatic 88, 3) := by decide +kernel
theorem dX6_rests_27 : decode cX6_rests 27 = .ok (.ifCond .ne 5, 3) := by decide +kernel
theorem dX6_rests_30 : decode cX6_rests 30 = .ok (.iconst (-1), 1) := by decide +kernel
theorem dX6_rests_31 : decode cX6_rests 31 = .ok (.ireturn, 1) := by decide +kernel
theorem dX6_rests_32 : decode cX6_rests 32 = .ok (.aload_n 0, 1) := by decide +kernel
theorem dX6_rests_33 : decode cX6_rests 33 = .ok (.getfield 10, 3) := by decide +kernel
theorem dX6_rests_36 : decode cX6_rests 36 = .ok (.getfield 223, 3) := by decide +kernel
theorem dX6_rests_39 : decode cX6_rests 39 = .ok (.ifCond .ne 6, 3) := by decide +kernel
end
section
theorem dX6_rests_42 : decode cX6_rests 42 = .ok (.bipush (-2), 2) := by decide +kernel
theorem dX6_rests_44 : decode cX6_rests 44 = .ok (.ireturn, 1) := by decide +kernel
theorem dX6_rests_45 : decode cX6_rests 45 = .ok (.aload_n 0, 1) := by decide +kernel
theorem dX6_rests_46 : decode cX6_rests 46 = .ok (.iload_n 1, 1) := by decide +kernel
theorem dX6_rests_47 : decode cX6_rests 47 = .ok (.iload_n 2, 1) := by decide +kernel
theorem dX6_rests_48 : decode cX6_rests 48 = .ok (.invokevirtual 226, 3) := by decide +kernel
theorem dX6_rests_51 : decode cX6_rests 51 = .ok (.iconst 0, 1) := by decide +kernel
theorem dX6_rests_52 : decode cX6_rests 52 = .ok (.istore 4, 2) := by decide +kernel
theorem dX6_rests_54 : decode cX6_rests 54 = .ok (.bipush (-9), 2) := by decide +kernel
theorem dX6_rests_56 : decode cX6_rests 56 = .ok (.istore 5, 2) := by decide +kernel
theorem dX6_rests_58 : decode cX6_rests 58 = .ok (.iconst 0, 1) := by decide +kernel
theorem dX6_rests_59 : decode cX6_rests 59 = .ok (.istore 6, 2) := by decide +kernel
theorem dX6_rests_61 : decode cX6_rests 61 = .ok (.iload 6, 2) := by decide +kernel
theorem dX6_rests_63 : decode cX6_rests 63 = .ok (.iconst 1, 1) := by decide +kernel
theorem dX6_rests_64 : decode cX6_rests 64 = .ok (.aload_n 0, 1) := by decide +kernel
theorem dX6_rests_65 : decode cX6_rests 65 = .ok (.getfield 10, 3) := by decide +kernel
theorem dX6_rests_68 : decode cX6_rests 68 = .ok (.getfield 202, 3) := by decide +kernel
theorem dX6_rests_71 : decode cX6_rests 71 = .ok (.ishl, 1) := by decide +kernel
theorem dX6_rests_72 : decode cX6_rests 72 = .ok (.if_icmp .ge 33, 3) := by decide +kernel
theorem dX6_rests_75 : decode cX6_rests 75 = .ok (.aload_n 0, 1) := by decide +kernel
theorem dX6_rests_76 : decode cX6_rests 76 = .ok (.getfield 54, 3) := by decide +kernel
theorem dX6_rests_79 : decode cX6_rests 79 = .ok (.iload 6, 2) := by decide +kernel
theorem dX6_rests_81 : decode cX6_rests 81 = .ok (.invokevirtual 230, 3) := by decide +kernel
theorem dX6_rests_84 : decode cX6_rests 84 = .ok (.ifCond .eq 15, 3) := by decide +kernel
theorem dX6_rests_87 : decode cX6_rests 87 = .ok (.iload 4, 2) := by decide +kernel
theorem dX6_rests_89 : decode cX6_rests 89 = .ok (.ifCond .ne 7, 3) := by decide +kernel
theorem dX6_rests_92 : decode cX6_rests 92 = .ok (.iload 6, 2) := by decide +kernel
theorem dX6_rests_94 : decode cX6_rests 94 = .ok (.istore 5, 2) := by decide +kernel
theorem dX6_rests_96 : decode cX6_rests 96 = .ok (.iinc 4 1, 3) := by decide +kernel
theorem dX6_rests_99 : decode cX6_rests 99 = .ok (.iinc 6 1, 3) := by decide +kernel
theorem dX6_rests_102 : decode cX6_rests 102 = .ok (.goto (-41), 3) := by decide +kernel
theorem dX6_rests_105 : decode cX6_rests 105 = .ok (.iload_n 3, 1) := by decide +kernel
theorem dX6_rests_106 : decode cX6_rests 106 = .ok (.ifCond .ne 8, 3) := by decide +kernel
theorem dX6_rests_109 : decode cX6_rests 109 = .ok (.iload 4, 2) := by decide +kernel
theorem dX6_rests_111 : decode cX6_rests 111 = .ok (.goto 5, 3) := by decide +kernel
theorem dX6_rests_114 : decode cX6_rests 114 = .ok (.iload 5, 2) := by decide +kernel
theorem dX6_rests_116 : decode cX6_rests 116 = .ok (.ireturn, 1) := by decide +kernel
theorem dX6_blamed_0 : decode cX6_blamed 0 = .ok (.iload_n 1, 1) := by decide +kernel
theorem dX6_blamed_1 : decode cX6_blamed 1 = .ok (.iconst 1, 1) := by decide +kernel
theorem dX6_blamed_2 : decode cX6_blamed 2 = .ok (.sipush 999, 3) := by decide +kernel
theorem dX6_blamed_5 : decode cX6_blamed 5 = .ok (.invokestatic 88, 3) := by decide +kernel
theorem dX6_blamed_8 : decode cX6_blamed 8 = .ok (.ifCond .eq 22, 3) := by decide +kernel
theorem dX6_blamed_11 : decode cX6_blamed 11 = .ok (.iload_n 2, 1) := by decide +kernel
theorem dX6_blamed_12 : decode cX6_blamed 12 = .ok (.iconst 0, 1) := by decide +kernel
theorem dX6_blamed_13 : decode cX6_blamed 13 = .ok (.iconst 1, 1) := by decide +kernel
theorem dX6_blamed_14 : decode cX6_blamed 14 = .ok (.aload_n 0, 1) := by decide +kernel
theorem dX6_blamed_15 : decode cX6_blamed 15 = .ok (.getfield 10, 3) := by decide +kernel
theorem dX6_blamed_18 : decode cX6_blamed 18 = .ok (.getfield 202, 3) := by decide +kernel
theorem dX6_blamed_21 : decode cX6_blamed 21 = .ok (.ishl, 1) := by decide +kernel
theorem dX6_blamed_22 : decode cX6_blamed 22 = .ok (.iconst 1, 1) := by decide +kernel
theorem dX6_blamed_23 : decode cX6_blamed 23 = .ok (.isub, 1) := by decide +kernel
theorem dX6_blamed_24 : decode cX6_blamed 24 = .ok (.invokestatic 88, 3) := by decide +kernel
theorem dX6_blamed_27 : decode cX6_blamed 27 = .ok (.ifCond .ne 5, 3) := by decide +kernel
theorem dX6_blamed_30 : decode cX6_blamed 30 = .ok (.iconst (-1), 1) := by decide +kernel
theorem dX6_blamed_31 : decode cX6_blamed 31 = .ok (.ireturn, 1) := by decide +kernel
theorem dX6_blamed_32 : decode cX6_blamed 32 = .ok (.aload_n 0, 1) := by decide +kernel
theorem dX6_blamed_33 : decode cX6_blamed 33 = .ok (.getfield 10, 3) := by decide +kernel
theorem dX6_blamed_36 : decode cX6_blamed 36 = .ok (.getfield 223, 3) := by decide +kernel
theorem dX6_blamed_39 : decode cX6_blamed 39 = .ok (.ifCond .ne 6, 3) := by decide +kernel
theorem dX6_blamed_42 : decode cX6_blamed 42 = .ok (.bipush (-2), 2) := by decide +kernel
theorem dX6_blamed_44 : decode cX6_blamed 44 = .ok (.ireturn, 1) := by decide +kernel
theorem dX6_blamed_45 : decode cX6_blamed 45 = .ok (.aload_n 0, 1) := by decide +kernel
theorem dX6_blamed_46 : decode cX6_blamed 46 = .ok (.iload_n 1, 1) := by decide +kernel
theorem dX6_blamed_47 : decode cX6_blamed 47 = .ok (.iconst 0, 1) := by decide +kernel
theorem dX6_blamed_48 : decode cX6_blamed 48 = .ok (.invokevirtual 226, 3) := by decide +kernel
theorem dX6_blamed_51 : decode cX6_blamed 51 = .ok (.aload_n 0, 1) := by decide +kernel
theorem dX6_blamed_52 : decode cX6_blamed 52 = .ok (.getfield 54, 3) := by decide +kernel
theorem dX6_blamed_55 : decode cX6_blamed 55 = .ok (.iload_n 2, 1) := by decide +kernel
theorem dX6_blamed_56 : decode cX6_blamed 56 = .ok (.invokevirtual 233, 3) := by decide +kernel
theorem dX6_blamed_59 : decode cX6_blamed 59 = .ok (.ireturn, 1) := by decide +kernel
theorem dX6_checks_0 : decode cX6_checks 0 = .ok (.iload_n 1, 1) := by decide +kernel
theorem dX6_checks_1 : decode cX6_checks 1 = .ok (.iconst 0, 1) := by decide +kernel
theorem dX6_checks_2 : decode cX6_checks 2 = .ok (.bipush 99, 2) := by decide +kernel
theorem dX6_checks_4 : decode cX6_checks 4 = .ok (.invokestatic 88, 3) := by decide +kernel
theorem dX6_checks_7 : decode cX6_checks 7 = .ok (.ifCond .ne 5, 3) := by decide +kernel
theorem dX6_checks_10 : decode cX6_checks 10 = .ok (.iconst (-1), 1) := by decide +kernel
theorem dX6_checks_11 : decode cX6_checks 11 = .ok (.ireturn, 1) := by decide +kernel
theorem dX6_checks_12 : decode cX6_checks 12 = .ok (.iconst 0, 1) := by decide +kernel
theorem dX6_checks_13 : decode cX6_checks 13 = .ok (.istore_n 2, 1) := by decide +kernel
theorem dX6_checks_14 : decode cX6_checks 14 = .ok (.iconst 0, 1) := by decide +kernel
theorem dX6_checks_15 : decode cX6_checks 15 = .ok (.istore_n 3, 1) := by decide +kernel
theorem dX6_checks_16 : decode cX6_checks 16 = .ok (.iload_n 3, 1) := by decide +kernel
theorem dX6_checks_17 : decode cX6_checks 17 = .ok (.aload_n 0, 1) := by decide +kernel
theorem dX6_checks_18 : decode cX6_checks 18 = .ok (.getfield 10, 3) := by decide +kernel
theorem dX6_checks_21 : decode cX6_checks 21 = .ok (.getfield 202, 3) := by decide +kernel
theorem dX6_checks_24 : decode cX6_checks 24 = .ok (.if_icmp .ge 66, 3) := by decide +kernel
theorem dX6_checks_27 : decode cX6_checks 27 = .ok (.aload_n 0, 1) := by decide +kernel
theorem dX6_checks_28 : decode cX6_checks 28 = .ok (.getfield 26, 3) := by decide +kernel
theorem dX6_checks_31 : decode cX6_checks 31 = .ok (.aload_n 0, 1) := by decide +kernel
theorem dX6_checks_32 : decode cX6_checks 32 = .ok (.getfield 10, 3) := by decide +kernel
theorem dX6_checks_35 : decode cX6_checks 35 = .ok (.iload_n 3, 1) := by decide +kernel
theorem dX6_checks_36 : decode cX6_checks 36 = .ok (.aload_n 0, 1) := by decide +kernel
theorem dX6_checks_37 : decode cX6_checks 37 = .ok (.getfield 30, 3) := by decide +kernel
theorem dX6_checks_40 : decode cX6_checks 40 = .ok (.iconst 0, 1) := by decide +kernel
theorem dX6_checks_41 : decode cX6_checks 41 = .ok (.iaload, 1) := by decide +kernel
theorem dX6_checks_42 : decode cX6_checks 42 = .ok (.invokevirtual 184, 3) := by decide +kernel
theorem dX6_checks_45 : decode cX6_checks 45 = .ok (.istore 4, 2) := by decide +kernel
theorem dX6_checks_47 : decode cX6_checks 47 = .ok (.iload 4, 2) := by decide +kernel
theorem dX6_checks_49 : decode cX6_checks 49 = .ok (.ifCond .lt 35, 3) := by decide +kernel
theorem dX6_checks_52 : decode cX6_checks 52 = .ok (.iload_n 2, 1) := by decide +kernel
theorem dX6_checks_53 : decode cX6_checks 53 = .ok (.aload_n 0, 1) := by decide +kernel
theorem dX6_checks_54 : decode cX6_checks 54 = .ok (.getfield 10, 3) := by decide +kernel
theorem dX6_checks_57 : decode cX6_checks 57 = .ok (.iload_n 3, 1) := by decide +kernel
theorem dX6_checks_58 : decode cX6_checks 58 = .ok (.iload 4, 2) := by decide +kernel
theorem dX6_checks_60 : decode cX6_checks 60 = .ok (.invokevirtual 171, 3) := by decide +kernel
theorem dX6_checks_63 : decode cX6_checks 63 = .ok (.aload_n 0, 1) := by decide +kernel
theorem dX6_checks_64 : decode cX6_checks 64 = .ok (.getfield 10, 3) := by decide +kernel
theorem dX6_checks_67 : decode cX6_checks 67 = .ok (.iload 4, 2) := by decide +kernel
theorem dX6_checks_69 : decode cX6_checks 69 = .ok (.aload_n 0, 1) := by decide +kernel
theorem dX6_checks_70 : decode cX6_checks 70 = .ok (.getfield 26, 3) := by decide +kernel
theorem dX6_checks_73 : decode cX6_checks 73 = .ok (.getfield 187, 3) := by decide +kernel
theorem dX6_checks_76 : decode cX6_checks 76 = .ok (.invokevirtual 167, 3) := by decide +kernel
theorem dX6_checks_79 : decode cX6_checks 79 = .ok (.imul, 1) := by decide +kernel
theorem dX6_checks_80 : decode cX6_checks 80 = .ok (.invokestatic 236, 3) := by decide +kernel
theorem dX6_checks_83 : decode cX6_checks 83 = .ok (.istore_n 2, 1) := by decide +kernel
theorem dX6_checks_84 : decode cX6_checks 84 = .ok (.iinc 3 1, 3) := by decide +kernel
theorem dX6_checks_87 : decode cX6_checks 87 = .ok (.goto (-71), 3) := by decide +kernel
theorem dX6_checks_90 : decode cX6_checks 90 = .ok (.iconst 0, 1) := by decide +kernel
theorem dX6_checks_91 : decode cX6_checks 91 = .ok (.istore_n 3, 1) := by decide +kernel
theorem dX6_checks_92 : decode cX6_checks 92 = .ok (.iload_n 3, 1) := by decide +kernel
theorem dX6_checks_93 : decode cX6_checks 93 = .ok (.bipush 10, 2) := by decide +kernel
theorem dX6_checks_95 : decode cX6_checks 95 = .ok (.if_icmp .ge 21, 3) := by decide +kernel
theorem dX6_checks_98 : decode cX6_checks 98 = .ok (.iload_n 3, 1) := by decide +kernel
theorem dX6_checks_99 : decode cX6_checks 99 = .ok (.iload_n 1, 1) := by decide +kernel
theorem dX6_checks_100 : decode cX6_checks 100 = .ok (.imul, 1) := by decide +kernel
theorem dX6_checks_101 : decode cX6_checks 101 = .ok (.bipush 10, 2) := by decide +kernel
theorem dX6_checks_103 : decode cX6_checks 103 = .ok (.iload_n 3, 1) := by decide +kernel
theorem dX6_checks_104 : decode cX6_checks 104 = .ok (.isub, 1) := by decide +kernel
theorem dX6_checks_105 : decode cX6_checks 105 = .ok (.iload_n 2, 1) := by decide +kernel
theorem dX6_checks_106 : decode cX6_checks 106 = .ok (.imul, 1) := by decide +kernel
theorem dX6_checks_107 : decode cX6_checks 107 = .ok (.if_icmp .ge 9, 3) := by decide +kernel
theorem dX6_checks_110 : decode cX6_checks 110 = .ok (.iinc 3 1, 3) := by decide +kernel
theorem dX6_checks_113 : decode cX6_checks 113 = .ok (.goto (-21), 3) := by decide +kernel
theorem dX6_checks_116 : decode cX6_checks 116 = .ok (.iload_n 3, 1) := by decide +kernel
theorem dX6_checks_117 : decode cX6_checks 117 = .ok (.ireturn, 1) := by decide +kernel
theorem dX6_trial_0 : decode cX6_trial 0 = .ok (.iload_n 1, 1) := by decide +kernel
theorem dX6_trial_1 : decode cX6_trial 1 = .ok (.iconst 0, 1) := by decide +kernel
theorem dX6_trial_2 : decode cX6_trial 2 = .ok (.bipush 7, 2) := by decide +kernel
theorem dX6_trial_4 : decode cX6_trial 4 = .ok (.invokestatic 88, 3) := by decide +kernel
theorem dX6_trial_7 : decode cX6_trial 7 = .ok (.ifCond .eq 14, 3) := by decide +kernel
theorem dX6_trial_10 : decode cX6_trial 10 = .ok (.iload_n 2, 1) := by decide +kernel
theorem dX6_trial_11 : decode cX6_trial 11 = .ok (.bipush (-99), 2) := by decide +kernel
theorem dX6_trial_13 : decode cX6_trial 13 = .ok (.bipush 99, 2) := by decide +kernel
theorem dX6_trial_15 : decode cX6_trial 15 = .ok (.invokestatic 88, 3) := by decide +kernel
theorem dX6_trial_18 : decode cX6_trial 18 = .ok (.ifCond .ne 5, 3) := by decide +kernel
theorem dX6_trial_21 : decode cX6_trial 21 = .ok (.iconst (-1), 1) := by decide +kernel
theorem dX6_trial_22 : decode cX6_trial 22 = .ok (.ireturn, 1) := by decide +kernel
theorem dX6_trial_23 : decode cX6_trial 23 = .ok (.aload_n 0, 1) := by decide +kernel
theorem dX6_trial_24 : decode cX6_trial 24 = .ok (.getfield 47, 3) := by decide +kernel
theorem dX6_trial_27 : decode cX6_trial 27 = .ok (.iload_n 1, 1) := by decide +kernel
theorem dX6_trial_28 : decode cX6_trial 28 = .ok (.iload_n 2, 1) := by decide +kernel
theorem dX6_trial_29 : decode cX6_trial 29 = .ok (.invokevirtual 239, 3) := by decide +kernel
theorem dX6_trial_32 : decode cX6_trial 32 = .ok (.ifCond .eq 13, 3) := by decide +kernel
theorem dX6_trial_35 : decode cX6_trial 35 = .ok (.aload_n 0, 1) := by decide +kernel
theorem dX6_trial_36 : decode cX6_trial 36 = .ok (.getfield 47, 3) := by decide +kernel
theorem dX6_trial_39 : decode cX6_trial 39 = .ok (.getfield 243, 3) := by decide +kernel
theorem dX6_trial_42 : decode cX6_trial 42 = .ok (.goto 5, 3) := by decide +kernel
theorem dX6_trial_45 : decode cX6_trial 45 = .ok (.bipush (-3), 2) := by decide +kernel
theorem dX6_trial_47 : decode cX6_trial 47 = .ok (.ireturn, 1) := by decide +kernel
theorem dX6_joined_0 : decode cX6_joined 0 = .ok (.iload_n 1, 1) := by decide +kernel
theorem dX6_joined_1 : decode cX6_joined 1 = .ok (.iconst 0, 1) := by decide +kernel
theorem dX6_joined_2 : decode cX6_joined 2 = .ok (.sipush 255, 3) := by decide +kernel
theorem dX6_joined_5 : decode cX6_joined 5 = .ok (.invokestatic 88, 3) := by decide +kernel
theorem dX6_joined_8 : decode cX6_joined 8 = .ok (.ifCond .eq 12, 3) := by decide +kernel
theorem dX6_joined_11 : decode cX6_joined 11 = .ok (.iload_n 2, 1) := by decide +kernel
theorem dX6_joined_12 : decode cX6_joined 12 = .ok (.iconst 0, 1) := by decide +kernel
theorem dX6_joined_13 : decode cX6_joined 13 = .ok (.iconst 1, 1) := by decide +kernel
theorem dX6_joined_14 : decode cX6_joined 14 = .ok (.invokestatic 88, 3) := by decide +kernel
theorem dX6_joined_17 : decode cX6_joined 17 = .ok (.ifCond .ne 6, 3) := by decide +kernel
theorem dX6_joined_20 : decode cX6_joined 20 = .ok (.ldc 246, 2) := by decide +kernel
theorem dX6_joined_22 : decode cX6_joined 22 = .ok (.ireturn, 1) := by decide +kernel
theorem dX6_joined_23 : decode cX6_joined 23 = .ok (.aload_n 0, 1) := by decide +kernel
theorem dX6_joined_24 : decode cX6_joined 24 = .ok (.getfield 47, 3) := by decide +kernel
theorem dX6_joined_27 : decode cX6_joined 27 = .ok (.iload_n 1, 1) := by decide +kernel
theorem dX6_joined_28 : decode cX6_joined 28 = .ok (.iload_n 2, 1) := by decide +kernel
theorem dX6_joined_29 : decode cX6_joined 29 = .ok (.invokevirtual 247, 3) := by decide +kernel
theorem dX6_joined_32 : decode cX6_joined 32 = .ok (.ireturn, 1) := by decide +kernel
theorem dX6_parts_0 : decode cX6_parts 0 = .ok (.aload_n 0, 1) := by decide +kernel
theorem dX6_parts_1 : decode cX6_parts 1 = .ok (.getfield 47, 3) := by decide +kernel
theorem dX6_parts_4 : decode cX6_parts 4 = .ok (.invokevirtual 250, 3) := by decide +kernel
theorem dX6_parts_7 : decode cX6_parts 7 = .ok (.ireturn, 1) := by decide +kernel
theorem dX6_ahead_0 : decode cX6_ahead 0 = .ok (.iload_n 1, 1) := by decide +kernel
theorem dX6_ahead_1 : decode cX6_ahead 1 = .ok (.iconst 0, 1) := by decide +kernel
theorem dX6_ahead_2 : decode cX6_ahead 2 = .ok (.bipush 7, 2) := by decide +kernel
theorem dX6_ahead_4 : decode cX6_ahead 4 = .ok (.invokestatic 88, 3) := by decide +kernel
theorem dX6_ahead_7 : decode cX6_ahead 7 = .ok (.ifCond .eq 12, 3) := by decide +kernel
theorem dX6_ahead_10 : decode cX6_ahead 10 = .ok (.iload_n 2, 1) := by decide +kernel
theorem dX6_ahead_11 : decode cX6_ahead 11 = .ok (.iconst 0, 1) := by decide +kernel
theorem dX6_ahead_12 : decode cX6_ahead 12 = .ok (.iconst 1, 1) := by decide +kernel
theorem dX6_ahead_13 : decode cX6_ahead 13 = .ok (.invokestatic 88, 3) := by decide +kernel
theorem dX6_ahead_16 : decode cX6_ahead 16 = .ok (.ifCond .ne 6, 3) := by decide +kernel
theorem dX6_ahead_19 : decode cX6_ahead 19 = .ok (.ldc 246, 2) := by decide +kernel
theorem dX6_ahead_21 : decode cX6_ahead 21 = .ok (.ireturn, 1) := by decide +kernel
theorem dX6_ahead_22 : decode cX6_ahead 22 = .ok (.iconst 1, 1) := by decide +kernel
theorem dX6_ahead_23 : decode cX6_ahead 23 = .ok (.iload_n 1, 1) := by decide +kernel
theorem dX6_ahead_24 : decode cX6_ahead 24 = .ok (.ishl, 1) := by decide +kernel
theorem dX6_ahead_25 : decode cX6_ahead 25 = .ok (.istore_n 3, 1) := by decide +kernel
theorem dX6_ahead_26 : decode cX6_ahead 26 = .ok (.aload_n 0, 1) := by decide +kernel
theorem dX6_ahead_27 : decode cX6_ahead 27 = .ok (.getfield 47, 3) := by decide +kernel
theorem dX6_ahead_30 : decode cX6_ahead 30 = .ok (.aload_n 0, 1) := by decide +kernel
theorem dX6_ahead_31 : decode cX6_ahead 31 = .ok (.getfield 47, 3) := by decide +kernel
theorem dX6_ahead_34 : decode cX6_ahead 34 = .ok (.iload_n 3, 1) := by decide +kernel
theorem dX6_ahead_35 : decode cX6_ahead 35 = .ok (.invokevirtual 253, 3) := by decide +kernel
theorem dX6_ahead_38 : decode cX6_ahead 38 = .ok (.ifCond .le 7, 3) := by decide +kernel
theorem dX6_ahead_41 : decode cX6_ahead 41 = .ok (.iload_n 3, 1) := by decide +kernel
theorem dX6_ahead_42 : decode cX6_ahead 42 = .ok (.goto 6, 3) := by decide +kernel
theorem dX6_ahead_45 : decode cX6_ahead 45 = .ok (.sipush 255, 3) := by decide +kernel
theorem dX6_ahead_48 : decode cX6_ahead 48 = .ok (.iload_n 2, 1) := by decide +kernel
theorem dX6_ahead_49 : decode cX6_ahead 49 = .ok (.invokevirtual 247, 3) := by decide +kernel
theorem dX6_ahead_52 : decode cX6_ahead 52 = .ok (.ireturn, 1) := by decide +kernel
theorem dX6_halves_0 : decode cX6_halves 0 = .ok (.iload_n 1, 1) := by decide +kernel
theorem dX6_halves_1 : decode cX6_halves 1 = .ok (.invokestatic 164, 3) := by decide +kernel
theorem dX6_halves_4 : decode cX6_halves 4 = .ok (.ifCond .ne 6, 3) := by decide +kernel
theorem dX6_halves_7 : decode cX6_halves 7 = .ok (.ldc 246, 2) := by decide +kernel
theorem dX6_halves_9 : decode cX6_halves 9 = .ok (.ireturn, 1) := by decide +kernel
theorem dX6_halves_10 : decode cX6_halves 10 = .ok (.aload_n 0, 1) := by decide +kernel
theorem dX6_halves_11 : decode cX6_halves 11 = .ok (.getfield 58, 3) := by decide +kernel
theorem dX6_halves_14 : decode cX6_halves 14 = .ok (.aload_n 0, 1) := by decide +kernel
theorem dX6_halves_15 : decode cX6_halves 15 = .ok (.getfield 10, 3) := by decide +kernel
theorem dX6_halves_18 : decode cX6_halves 18 = .ok (.invokevirtual 109, 3) := by decide +kernel
theorem dX6_halves_21 : decode cX6_halves 21 = .ok (.iconst 0, 1) := by decide +kernel
theorem dX6_halves_22 : decode cX6_halves 22 = .ok (.istore_n 2, 1) := by decide +kernel
theorem dX6_halves_23 : decode cX6_halves 23 = .ok (.iconst 0, 1) := by decide +kernel
theorem dX6_halves_24 : decode cX6_halves 24 = .ok (.istore_n 3, 1) := by decide +kernel
theorem dX6_halves_25 : decode cX6_halves 25 = .ok (.iload_n 3, 1) := by decide +kernel
theorem dX6_halves_26 : decode cX6_halves 26 = .ok (.aload_n 0, 1) := by decide +kernel
theorem dX6_halves_27 : decode cX6_halves 27 = .ok (.getfield 58, 3) := by decide +kernel
theorem dX6_halves_30 : decode cX6_halves 30 = .ok (.getfield 202, 3) := by decide +kernel
theorem dX6_halves_33 : decode cX6_halves 33 = .ok (.if_icmp .ge 61, 3) := by decide +kernel
theorem dX6_halves_36 : decode cX6_halves 36 = .ok (.aload_n 0, 1) := by decide +kernel
theorem dX6_halves_37 : decode cX6_halves 37 = .ok (.aload_n 0, 1) := by decide +kernel
theorem dX6_halves_38 : decode cX6_halves 38 = .ok (.getfield 64, 3) := by decide +kernel
theorem dX6_halves_41 : decode cX6_halves 41 = .ok (.ldc_w 256, 3) := by decide +kernel
theorem dX6_halves_44 : decode cX6_halves 44 = .ok (.imul, 1) := by decide +kernel
theorem dX6_halves_45 : decode cX6_halves 45 = .ok (.sipush 12345, 3) := by decide +kernel
theorem dX6_halves_48 : decode cX6_halves 48 = .ok (.iadd, 1) := by decide +kernel
theorem dX6_halves_49 : decode cX6_halves 49 = .ok (.putfield 64, 3) := by decide +kernel
theorem dX6_halves_52 : decode cX6_halves 52 = .ok (.aload_n 0, 1) := by decide +kernel
theorem dX6_halves_53 : decode cX6_halves 53 = .ok (.getfield 64, 3) := by decide +kernel
theorem dX6_halves_56 : decode cX6_halves 56 = .ok (.bipush 16, 2) := by decide +kernel
theorem dX6_halves_58 : decode cX6_halves 58 = .ok (.iushr, 1) := by decide +kernel
theorem dX6_halves_59 : decode cX6_halves 59 = .ok (.istore 4, 2) := by decide +kernel
theorem dX6_halves_61 : decode cX6_halves 61 = .ok (.iload 4, 2) := by decide +kernel
theorem dX6_halves_63 : decode cX6_halves 63 = .ok (.iconst 1, 1) := by decide +kernel
theorem dX6_halves_64 : decode cX6_halves 64 = .ok (.iand, 1) := by decide +kernel
theorem dX6_halves_65 : decode cX6_halves 65 = .ok (.iconst 1, 1) := by decide +kernel
theorem dX6_halves_66 : decode cX6_halves 66 = .ok (.if_icmp .ne 12, 3) := by decide +kernel
theorem dX6_halves_69 : decode cX6_halves 69 = .ok (.iload_n 2, 1) := by decide +kernel
theorem dX6_halves_70 : decode cX6_halves 70 = .ok (.iconst 1, 1) := by decide +kernel
theorem dX6_halves_71 : decode cX6_halves 71 = .ok (.iload_n 3, 1) := by decide +kernel
theorem dX6_halves_72 : decode cX6_halves 72 = .ok (.ishl, 1) := by decide +kernel
theorem dX6_halves_73 : decode cX6_halves 73 = .ok (.ior, 1) := by decide +kernel
theorem dX6_halves_74 : decode cX6_halves 74 = .ok (.istore_n 2, 1) := by decide +kernel
theorem dX6_halves_75 : decode cX6_halves 75 = .ok (.goto 13, 3) := by decide +kernel
theorem dX6_halves_78 : decode cX6_halves 78 = .ok (.aload_n 0, 1) := by decide +kernel
theorem dX6_halves_79 : decode cX6_halves 79 = .ok (.getfield 58, 3) := by decide +kernel
theorem dX6_halves_82 : decode cX6_halves 82 = .ok (.getfield 127, 3) := by decide +kernel
theorem dX6_halves_85 : decode cX6_halves 85 = .ok (.iload_n 3, 1) := by decide +kernel
theorem dX6_halves_86 : decode cX6_halves 86 = .ok (.iconst 0, 1) := by decide +kernel
theorem dX6_halves_87 : decode cX6_halves 87 = .ok (.iastore, 1) := by decide +kernel
theorem dX6_halves_88 : decode cX6_halves 88 = .ok (.iinc 3 1, 3) := by decide +kernel
theorem dX6_halves_91 : decode cX6_halves 91 = .ok (.goto (-66), 3) := by decide +kernel
theorem dX6_halves_94 : decode cX6_halves 94 = .ok (.aload_n 0, 1) := by decide +kernel
theorem dX6_halves_95 : decode cX6_halves 95 = .ok (.iload_n 1, 1) := by decide +kernel
theorem dX6_halves_96 : decode cX6_halves 96 = .ok (.invokevirtual 215, 3) := by decide +kernel
theorem dX6_halves_99 : decode cX6_halves 99 = .ok (.istore_n 3, 1) := by decide +kernel
theorem dX6_halves_100 : decode cX6_halves 100 = .ok (.iconst 0, 1) := by decide +kernel
theorem dX6_halves_101 : decode cX6_halves 101 = .ok (.istore 4, 2) := by decide +kernel
theorem dX6_halves_103 : decode cX6_halves 103 = .ok (.iconst 0, 1) := by decide +kernel
theorem dX6_halves_104 : decode cX6_halves 104 = .ok (.istore 5, 2) := by decide +kernel
theorem dX6_halves_106 : decode cX6_halves 106 = .ok (.iload 5, 2) := by decide +kernel
theorem dX6_halves_108 : decode cX6_halves 108 = .ok (.aload_n 0, 1) := by decide +kernel
theorem dX6_halves_109 : decode cX6_halves 109 = .ok (.getfield 58, 3) := by decide +kernel
theorem dX6_halves_112 : decode cX6_halves 112 = .ok (.getfield 202, 3) := by decide +kernel
theorem dX6_halves_115 : decode cX6_halves 115 = .ok (.if_icmp .ge 33, 3) := by decide +kernel
theorem dX6_halves_118 : decode cX6_halves 118 = .ok (.iload_n 2, 1) := by decide +kernel
theorem dX6_halves_119 : decode cX6_halves 119 = .ok (.iload 5, 2) := by decide +kernel
theorem dX6_halves_121 : decode cX6_halves 121 = .ok (.ishr, 1) := by decide +kernel
theorem dX6_halves_122 : decode cX6_halves 122 = .ok (.iconst 1, 1) := by decide +kernel
theorem dX6_halves_123 : decode cX6_halves 123 = .ok (.iand, 1) := by decide +kernel
theorem dX6_halves_124 : decode cX6_halves 124 = .ok (.ifCond .ne 18, 3) := by decide +kernel
theorem dX6_halves_127 : decode cX6_halves 127 = .ok (.iload 4, 2) := by decide +kernel
theorem dX6_halves_129 : decode cX6_halves 129 = .ok (.aload_n 0, 1) := by decide +kernel
theorem dX6_halves_130 : decode cX6_halves 130 = .ok (.getfield 61, 3) := by decide +kernel
theorem dX6_halves_133 : decode cX6_halves 133 = .ok (.getfield 130, 3) := by decide +kernel
theorem dX6_halves_136 : decode cX6_halves 136 = .ok (.iload 5, 2) := by decide +kernel
theorem dX6_halves_138 : decode cX6_halves 138 = .ok (.iaload, 1) := by decide +kernel
theorem dX6_halves_139 : decode cX6_halves 139 = .ok (.iadd, 1) := by decide +kernel
theorem dX6_halves_140 : decode cX6_halves 140 = .ok (.istore 4, 2) := by decide +kernel
theorem dX6_halves_142 : decode cX6_halves 142 = .ok (.iinc 5 1, 3) := by decide +kernel
theorem dX6_halves_145 : decode cX6_halves 145 = .ok (.goto (-39), 3) := by decide +kernel
theorem dX6_halves_148 : decode cX6_halves 148 = .ok (.iload_n 3, 1) := by decide +kernel
theorem dX6_halves_149 : decode cX6_halves 149 = .ok (.iconst 2, 1) := by decide +kernel
theorem dX6_halves_150 : decode cX6_halves 150 = .ok (.iload 4, 2) := by decide +kernel
theorem dX6_halves_152 : decode cX6_halves 152 = .ok (.imul, 1) := by decide +kernel
theorem dX6_halves_153 : decode cX6_halves 153 = .ok (.isub, 1) := by decide +kernel
theorem dX6_halves_154 : decode cX6_halves 154 = .ok (.ireturn, 1) := by decide +kernel
theorem dX6_lot_0 : decode cX6_lot 0 = .ok (.aload_n 0, 1) := by decide +kernel
theorem dX6_lot_1 : decode cX6_lot 1 = .ok (.getfield 64, 3) := by decide +kernel
theorem dX6_lot_4 : decode cX6_lot 4 = .ok (.istore_n 2, 1) := by decide +kernel
theorem dX6_lot_5 : decode cX6_lot 5 = .ok (.aload_n 0, 1) := by decide +kernel
theorem dX6_lot_6 : decode cX6_lot 6 = .ok (.iload_n 1, 1) := by decide +kernel
theorem dX6_lot_7 : decode cX6_lot 7 = .ok (.putfield 64, 3) := by decide +kernel
theorem dX6_lot_10 : decode cX6_lot 10 = .ok (.iload_n 2, 1) := by decide +kernel
theorem dX6_lot_11 : decode cX6_lot 11 = .ok (.ireturn, 1) := by decide +kernel
theorem dX6_rate_0 : decode cX6_rate 0 = .ok (.aload_n 0, 1) := by decide +kernel
theorem dX6_rate_1 : decode cX6_rate 1 = .ok (.iload_n 2, 1) := by decide +kernel
theorem dX6_rate_2 : decode cX6_rate 2 = .ok (.invokevirtual 117, 3) := by decide +kernel
theorem dX6_rate_5 : decode cX6_rate 5 = .ok (.ifCond .ne 6, 3) := by decide +kernel
theorem dX6_rate_8 : decode cX6_rate 8 = .ok (.ldc 246, 2) := by decide +kernel
theorem dX6_rate_10 : decode cX6_rate 10 = .ok (.ireturn, 1) := by decide +kernel
theorem dX6_rate_11 : decode cX6_rate 11 = .ok (.iload_n 1, 1) := by decide +kernel
theorem dX6_rate_12 : decode cX6_rate 12 = .ok (.tableswitch 76 0 5 #[40, 46, 52, 58, 64, 70], 40) := by decide +kernel
theorem dX6_rate_52 : decode cX6_rate 52 = .ok (.aload_n 0, 1) := by decide +kernel
theorem dX6_rate_53 : decode cX6_rate 53 = .ok (.iload_n 2, 1) := by decide +kernel
theorem dX6_rate_54 : decode cX6_rate 54 = .ok (.invokevirtual 257, 3) := by decide +kernel
theorem dX6_rate_57 : decode cX6_rate 57 = .ok (.ireturn, 1) := by decide +kernel
theorem dX6_rate_58 : decode cX6_rate 58 = .ok (.aload_n 0, 1) := by decide +kernel
theorem dX6_rate_59 : decode cX6_rate 59 = .ok (.iload_n 2, 1) := by decide +kernel
theorem dX6_rate_60 : decode cX6_rate 60 = .ok (.invokevirtual 260, 3) := by decide +kernel
theorem dX6_rate_63 : decode cX6_rate 63 = .ok (.ireturn, 1) := by decide +kernel
theorem dX6_rate_64 : decode cX6_rate 64 = .ok (.aload_n 0, 1) := by decide +kernel
theorem dX6_rate_65 : decode cX6_rate 65 = .ok (.iload_n 2, 1) := by decide +kernel
theorem dX6_rate_66 : decode cX6_rate 66 = .ok (.invokevirtual 263, 3) := by decide +kernel
theorem dX6_rate_69 : decode cX6_rate 69 = .ok (.ireturn, 1) := by decide +kernel
theorem dX6_rate_70 : decode cX6_rate 70 = .ok (.aload_n 0, 1) := by decide +kernel
theorem dX6_rate_71 : decode cX6_rate 71 = .ok (.iload_n 2, 1) := by decide +kernel
theorem dX6_rate_72 : decode cX6_rate 72 = .ok (.invokevirtual 266, 3) := by decide +kernel
theorem dX6_rate_75 : decode cX6_rate 75 = .ok (.ireturn, 1) := by decide +kernel
theorem dX6_rate_76 : decode cX6_rate 76 = .ok (.aload_n 0, 1) := by decide +kernel
theorem dX6_rate_77 : decode cX6_rate 77 = .ok (.iload_n 2, 1) := by decide +kernel
theorem dX6_rate_78 : decode cX6_rate 78 = .ok (.invokevirtual 269, 3) := by decide +kernel
theorem dX6_rate_81 : decode cX6_rate 81 = .ok (.ireturn, 1) := by decide +kernel
theorem dX6_rate_82 : decode cX6_rate 82 = .ok (.aload_n 0, 1) := by decide +kernel
theorem dX6_rate_83 : decode cX6_rate 83 = .ok (.iload_n 2, 1) := by decide +kernel
theorem dX6_rate_84 : decode cX6_rate 84 = .ok (.invokevirtual 272, 3) := by decide +kernel
theorem dX6_rate_87 : decode cX6_rate 87 = .ok (.ireturn, 1) := by decide +kernel
theorem dX6_rate_88 : decode cX6_rate 88 = .ok (.ldc 246, 2) := by decide +kernel
theorem dX6_rate_90 : decode cX6_rate 90 = .ok (.ireturn, 1) := by decide +kernel
theorem dX6_keep_0 : decode cX6_keep 0 = .ok (.iload_n 1, 1) := by decide +kernel
theorem dX6_keep_1 : decode cX6_keep 1 = .ok (.iconst 0, 1) := by decide +kernel
theorem dX6_keep_2 : decode cX6_keep 2 = .ok (.iconst 1, 1) := by decide +kernel
theorem dX6_keep_3 : decode cX6_keep 3 = .ok (.invokestatic 88, 3) := by decide +kernel
theorem dX6_keep_6 : decode cX6_keep 6 = .ok (.ifCond .ne 5, 3) := by decide +kernel
theorem dX6_keep_9 : decode cX6_keep 9 = .ok (.iconst (-1), 1) := by decide +kernel
theorem dX6_keep_10 : decode cX6_keep 10 = .ok (.ireturn, 1) := by decide +kernel
theorem dX6_keep_11 : decode cX6_keep 11 = .ok (.aload_n 0, 1) := by decide +kernel
theorem dX6_keep_12 : decode cX6_keep 12 = .ok (.iload_n 1, 1) := by decide +kernel
theorem dX6_keep_13 : decode cX6_keep 13 = .ok (.invokevirtual 275, 3) := by decide +kernel
theorem dX6_keep_16 : decode cX6_keep 16 = .ok (.astore_n 2, 1) := by decide +kernel
theorem dX6_keep_17 : decode cX6_keep 17 = .ok (.aload_n 2, 1) := by decide +kernel
theorem dX6_keep_18 : decode cX6_keep 18 = .ok (.iconst 1, 1) := by decide +kernel
theorem dX6_keep_19 : decode cX6_keep 19 = .ok (.putfield 113, 3) := by decide +kernel
theorem dX6_keep_22 : decode cX6_keep 22 = .ok (.aload_n 2, 1) := by decide +kernel
theorem dX6_keep_23 : decode cX6_keep 23 = .ok (.aload_n 0, 1) := by decide +kernel
theorem dX6_keep_24 : decode cX6_keep 24 = .ok (.getfield 64, 3) := by decide +kernel
theorem dX6_keep_27 : decode cX6_keep 27 = .ok (.putfield 279, 3) := by decide +kernel
theorem dX6_keep_30 : decode cX6_keep 30 = .ok (.aload_n 2, 1) := by decide +kernel
theorem dX6_keep_31 : decode cX6_keep 31 = .ok (.getfield 280, 3) := by decide +kernel
theorem dX6_keep_34 : decode cX6_keep 34 = .ok (.aload_n 0, 1) := by decide +kernel
theorem dX6_keep_35 : decode cX6_keep 35 = .ok (.getfield 26, 3) := by decide +kernel
theorem dX6_keep_38 : decode cX6_keep 38 = .ok (.invokevirtual 283, 3) := by decide +kernel
theorem dX6_keep_41 : decode cX6_keep 41 = .ok (.aload_n 0, 1) := by decide +kernel
theorem dX6_keep_42 : decode cX6_keep 42 = .ok (.getfield 26, 3) := by decide +kernel
theorem dX6_keep_45 : decode cX6_keep 45 = .ok (.getfield 187, 3) := by decide +kernel
theorem dX6_keep_48 : decode cX6_keep 48 = .ok (.ireturn, 1) := by decide +kernel
theorem dX6_back_0 : decode cX6_back 0 = .ok (.iload_n 1, 1) := by decide +kernel
theorem dX6_back_1 : decode cX6_back 1 = .ok (.iconst 0, 1) := by decide +kernel
theorem dX6_back_2 : decode cX6_back 2 = .ok (.iconst 1, 1) := by decide +kernel
theorem dX6_back_3 : decode cX6_back 3 = .ok (.invokestatic 88, 3) := by decide +kernel
theorem dX6_back_6 : decode cX6_back 6 = .ok (.ifCond .ne 5, 3) := by decide +kernel
theorem dX6_back_9 : decode cX6_back 9 = .ok (.iconst (-1), 1) := by decide +kernel
theorem dX6_back_10 : decode cX6_back 10 = .ok (.ireturn, 1) := by decide +kernel
theorem dX6_back_11 : decode cX6_back 11 = .ok (.aload_n 0, 1) := by decide +kernel
theorem dX6_back_12 : decode cX6_back 12 = .ok (.iload_n 1, 1) := by decide +kernel
theorem dX6_back_13 : decode cX6_back 13 = .ok (.invokevirtual 275, 3) := by decide +kernel
theorem dX6_back_16 : decode cX6_back 16 = .ok (.astore_n 2, 1) := by decide +kernel
theorem dX6_back_17 : decode cX6_back 17 = .ok (.aload_n 2, 1) := by decide +kernel
theorem dX6_back_18 : decode cX6_back 18 = .ok (.getfield 113, 3) := by decide +kernel
theorem dX6_back_21 : decode cX6_back 21 = .ok (.ifCond .ne 6, 3) := by decide +kernel
theorem dX6_back_24 : decode cX6_back 24 = .ok (.bipush (-2), 2) := by decide +kernel
theorem dX6_back_26 : decode cX6_back 26 = .ok (.ireturn, 1) := by decide +kernel
theorem dX6_back_27 : decode cX6_back 27 = .ok (.aload_n 0, 1) := by decide +kernel
theorem dX6_back_28 : decode cX6_back 28 = .ok (.aload_n 2, 1) := by decide +kernel
theorem dX6_back_29 : decode cX6_back 29 = .ok (.getfield 279, 3) := by decide +kernel
theorem dX6_back_32 : decode cX6_back 32 = .ok (.putfield 64, 3) := by decide +kernel
theorem dX6_back_35 : decode cX6_back 35 = .ok (.aload_n 0, 1) := by decide +kernel
theorem dX6_back_36 : decode cX6_back 36 = .ok (.getfield 26, 3) := by decide +kernel
theorem dX6_back_39 : decode cX6_back 39 = .ok (.aload_n 2, 1) := by decide +kernel
theorem dX6_back_40 : decode cX6_back 40 = .ok (.getfield 280, 3) := by decide +kernel
theorem dX6_back_43 : decode cX6_back 43 = .ok (.invokevirtual 283, 3) := by decide +kernel
theorem dX6_back_46 : decode cX6_back 46 = .ok (.aload_n 0, 1) := by decide +kernel
theorem dX6_back_47 : decode cX6_back 47 = .ok (.getfield 26, 3) := by decide +kernel
theorem dX6_back_50 : decode cX6_back 50 = .ok (.getfield 187, 3) := by decide +kernel
theorem dX6_back_53 : decode cX6_back 53 = .ok (.ireturn, 1) := by decide +kernel
theorem dX6_count_0 : decode cX6_count 0 = .ok (.iload_n 1, 1) := by decide +kernel
theorem dX6_count_1 : decode cX6_count 1 = .ok (.tableswitch 63 0 3 #[31, 39, 47, 55], 31) := by decide +kernel
theorem dX6_count_32 : decode cX6_count 32 = .ok (.aload_n 0, 1) := by decide +kernel
theorem dX6_count_33 : decode cX6_count 33 = .ok (.getfield 10, 3) := by decide +kernel
theorem dX6_count_36 : decode cX6_count 36 = .ok (.getfield 202, 3) := by decide +kernel
theorem dX6_count_39 : decode cX6_count 39 = .ok (.ireturn, 1) := by decide +kernel
theorem dX6_count_40 : decode cX6_count 40 = .ok (.aload_n 0, 1) := by decide +kernel
theorem dX6_count_41 : decode cX6_count 41 = .ok (.getfield 10, 3) := by decide +kernel
theorem dX6_count_44 : decode cX6_count 44 = .ok (.getfield 223, 3) := by decide +kernel
theorem dX6_count_47 : decode cX6_count 47 = .ok (.ireturn, 1) := by decide +kernel
theorem dX6_count_48 : decode cX6_count 48 = .ok (.aload_n 0, 1) := by decide +kernel
theorem dX6_count_49 : decode cX6_count 49 = .ok (.getfield 47, 3) := by decide +kernel
theorem dX6_count_52 : decode cX6_count 52 = .ok (.getfield 243, 3) := by decide +kernel
theorem dX6_count_55 : decode cX6_count 55 = .ok (.ireturn, 1) := by decide +kernel
theorem dX6_count_56 : decode cX6_count 56 = .ok (.aload_n 0, 1) := by decide +kernel
theorem dX6_count_57 : decode cX6_count 57 = .ok (.getfield 19, 3) := by decide +kernel
theorem dX6_count_60 : decode cX6_count 60 = .ok (.getfield 96, 3) := by decide +kernel
theorem dX6_count_63 : decode cX6_count 63 = .ok (.ireturn, 1) := by decide +kernel
theorem dX6_count_64 : decode cX6_count 64 = .ok (.iconst (-1), 1) := by decide +kernel
theorem dX6_count_65 : decode cX6_count 65 = .ok (.ireturn, 1) := by decide +kernel
theorem dX6_trace_0 : decode cX6_trace 0 = .ok (.aload_n 0, 1) := by decide +kernel
theorem dX6_trace_1 : decode cX6_trace 1 = .ok (.getfield 68, 3) := by decide +kernel
theorem dX6_trace_4 : decode cX6_trace 4 = .ok (.lreturn, 1) := by decide +kernel
theorem dX6_within_0 : decode cX6_within 0 = .ok (.iload_n 0, 1) := by decide +kernel
theorem dX6_within_1 : decode cX6_within 1 = .ok (.iload_n 1, 1) := by decide +kernel
theorem dX6_within_2 : decode cX6_within 2 = .ok (.if_icmp .lt 12, 3) := by decide +kernel
theorem dX6_within_5 : decode cX6_within 5 = .ok (.iload_n 0, 1) := by decide +kernel
theorem dX6_within_6 : decode cX6_within 6 = .ok (.iload_n 2, 1) := by decide +kernel
theorem dX6_within_7 : decode cX6_within 7 = .ok (.if_icmp .gt 7, 3) := by decide +kernel
theorem dX6_within_10 : decode cX6_within 10 = .ok (.iconst 1, 1) := by decide +kernel
theorem dX6_within_11 : decode cX6_within 11 = .ok (.goto 4, 3) := by decide +kernel
theorem dX6_within_14 : decode cX6_within 14 = .ok (.iconst 0, 1) := by decide +kernel
theorem dX6_within_15 : decode cX6_within 15 = .ok (.ireturn, 1) := by decide +kernel
theorem dX6_isChild_0 : decode cX6_isChild 0 = .ok (.iload_n 1, 1) := by decide +kernel
theorem dX6_isChild_1 : decode cX6_isChild 1 = .ok (.iconst 0, 1) := by decide +kernel
theorem dX6_isChild_2 : decode cX6_isChild 2 = .ok (.aload_n 0, 1) := by decide +kernel
theorem dX6_isChild_3 : decode cX6_isChild 3 = .ok (.getfield 10, 3) := by decide +kernel
theorem dX6_isChild_6 : decode cX6_isChild 6 = .ok (.getfield 202, 3) := by decide +kernel
theorem dX6_isChild_9 : decode cX6_isChild 9 = .ok (.iconst 1, 1) := by decide +kernel
theorem dX6_isChild_10 : decode cX6_isChild 10 = .ok (.isub, 1) := by decide +kernel
theorem dX6_isChild_11 : decode cX6_isChild 11 = .ok (.invokestatic 88, 3) := by decide +kernel
theorem dX6_isChild_14 : decode cX6_isChild 14 = .ok (.ireturn, 1) := by decide +kernel
theorem dX6_isSort_0 : decode cX6_isSort 0 = .ok (.iload_n 1, 1) := by decide +kernel
theorem dX6_isSort_1 : decode cX6_isSort 1 = .ok (.iconst 0, 1) := by decide +kernel
theorem dX6_isSort_2 : decode cX6_isSort 2 = .ok (.aload_n 0, 1) := by decide +kernel
theorem dX6_isSort_3 : decode cX6_isSort 3 = .ok (.getfield 10, 3) := by decide +kernel
theorem dX6_isSort_6 : decode cX6_isSort 6 = .ok (.getfield 223, 3) := by decide +kernel
theorem dX6_isSort_9 : decode cX6_isSort 9 = .ok (.iconst 1, 1) := by decide +kernel
theorem dX6_isSort_10 : decode cX6_isSort 10 = .ok (.isub, 1) := by decide +kernel
theorem dX6_isSort_11 : decode cX6_isSort 11 = .ok (.invokestatic 88, 3) := by decide +kernel
theorem dX6_isSort_14 : decode cX6_isSort 14 = .ok (.ireturn, 1) := by decide +kernel
theorem dX6_isDay_0 : decode cX6_isDay 0 = .ok (.iload_n 0, 1) := by decide +kernel
theorem dX6_isDay_1 : decode cX6_isDay 1 = .ok (.iconst 0, 1) := by decide +kernel
theorem dX6_isDay_2 : decode cX6_isDay 2 = .ok (.bipush 99, 2) := by decide +kernel
theorem dX6_isDay_4 : decode cX6_isDay 4 = .ok (.invokestatic 88, 3) := by decide +kernel
theorem dX6_isDay_7 : decode cX6_isDay 7 = .ok (.ireturn, 1) := by decide +kernel
theorem dX6_imageOf_0 : decode cX6_imageOf 0 = .ok (.iload_n 1, 1) := by decide +kernel
theorem dX6_imageOf_1 : decode cX6_imageOf 1 = .ok (.ifCond .ne 10, 3) := by decide +kernel
theorem dX6_imageOf_4 : decode cX6_imageOf 4 = .ok (.aload_n 0, 1) := by decide +kernel
theorem dX6_imageOf_5 : decode cX6_imageOf 5 = .ok (.getfield 37, 3) := by decide +kernel
theorem dX6_imageOf_8 : decode cX6_imageOf 8 = .ok (.goto 7, 3) := by decide +kernel
theorem dX6_imageOf_11 : decode cX6_imageOf 11 = .ok (.aload_n 0, 1) := by decide +kernel
theorem dX6_imageOf_12 : decode cX6_imageOf 12 = .ok (.getfield 41, 3) := by decide +kernel
theorem dX6_imageOf_15 : decode cX6_imageOf 15 = .ok (.areturn, 1) := by decide +kernel
theorem dX6_pagesBetween_0 : decode cX6_pagesBetween 0 = .ok (.aload_n 0, 1) := by decide +kernel
theorem dX6_pagesBetween_1 : decode cX6_pagesBetween 1 = .ok (.getfield 61, 3) := by decide +kernel
theorem dX6_pagesBetween_4 : decode cX6_pagesBetween 4 = .ok (.aload_n 0, 1) := by decide +kernel
theorem dX6_pagesBetween_5 : decode cX6_pagesBetween 5 = .ok (.getfield 58, 3) := by decide +kernel
theorem dX6_pagesBetween_8 : decode cX6_pagesBetween 8 = .ok (.iconst 0, 1) := by decide +kernel
theorem dX6_pagesBetween_9 : decode cX6_pagesBetween 9 = .ok (.invokevirtual 84, 3) := by decide +kernel
theorem dX6_pagesBetween_12 : decode cX6_pagesBetween 12 = .ok (.iconst 0, 1) := by decide +kernel
theorem dX6_pagesBetween_13 : decode cX6_pagesBetween 13 = .ok (.istore_n 3, 1) := by decide +kernel
theorem dX6_pagesBetween_14 : decode cX6_pagesBetween 14 = .ok (.iconst 0, 1) := by decide +kernel
theorem dX6_pagesBetween_15 : decode cX6_pagesBetween 15 = .ok (.istore 4, 2) := by decide +kernel
theorem dX6_pagesBetween_17 : decode cX6_pagesBetween 17 = .ok (.iload 4, 2) := by decide +kernel
theorem dX6_pagesBetween_19 : decode cX6_pagesBetween 19 = .ok (.iload_n 2, 1) := by decide +kernel
theorem dX6_pagesBetween_20 : decode cX6_pagesBetween 20 = .ok (.if_icmp .ge 37, 3) := by decide +kernel
theorem dX6_pagesBetween_23 : decode cX6_pagesBetween 23 = .ok (.aload_n 0, 1) := by decide +kernel
theorem dX6_pagesBetween_24 : decode cX6_pagesBetween 24 = .ok (.getfield 61, 3) := by decide +kernel
theorem dX6_pagesBetween_27 : decode cX6_pagesBetween 27 = .ok (.aload_n 0, 1) := by decide +kernel
theorem dX6_pagesBetween_28 : decode cX6_pagesBetween 28 = .ok (.getfield 58, 3) := by decide +kernel
theorem dX6_pagesBetween_31 : decode cX6_pagesBetween 31 = .ok (.aload_n 0, 1) := by decide +kernel
theorem dX6_pagesBetween_32 : decode cX6_pagesBetween 32 = .ok (.getfield 30, 3) := by decide +kernel
theorem dX6_pagesBetween_35 : decode cX6_pagesBetween 35 = .ok (.invokevirtual 195, 3) := by decide +kernel
theorem dX6_pagesBetween_38 : decode cX6_pagesBetween 38 = .ok (.istore 5, 2) := by decide +kernel
theorem dX6_pagesBetween_40 : decode cX6_pagesBetween 40 = .ok (.iload 4, 2) := by decide +kernel
theorem dX6_pagesBetween_42 : decode cX6_pagesBetween 42 = .ok (.iload_n 1, 1) := by decide +kernel
theorem dX6_pagesBetween_43 : decode cX6_pagesBetween 43 = .ok (.if_icmp .lt 8, 3) := by decide +kernel
theorem dX6_pagesBetween_46 : decode cX6_pagesBetween 46 = .ok (.iload_n 3, 1) := by decide +kernel
theorem dX6_pagesBetween_47 : decode cX6_pagesBetween 47 = .ok (.iload 5, 2) := by decide +kernel
theorem dX6_pagesBetween_49 : decode cX6_pagesBetween 49 = .ok (.iadd, 1) := by decide +kernel
theorem dX6_pagesBetween_50 : decode cX6_pagesBetween 50 = .ok (.istore_n 3, 1) := by decide +kernel
theorem dX6_pagesBetween_51 : decode cX6_pagesBetween 51 = .ok (.iinc 4 1, 3) := by decide +kernel
theorem dX6_pagesBetween_54 : decode cX6_pagesBetween 54 = .ok (.goto (-37), 3) := by decide +kernel
theorem dX6_pagesBetween_57 : decode cX6_pagesBetween 57 = .ok (.iload_n 3, 1) := by decide +kernel
theorem dX6_pagesBetween_58 : decode cX6_pagesBetween 58 = .ok (.ireturn, 1) := by decide +kernel
theorem dX6_likingOn_0 : decode cX6_likingOn 0 = .ok (.aload_n 0, 1) := by decide +kernel
theorem dX6_likingOn_1 : decode cX6_likingOn 1 = .ok (.getfield 61, 3) := by decide +kernel
theorem dX6_likingOn_4 : decode cX6_likingOn 4 = .ok (.aload_n 0, 1) := by decide +kernel
theorem dX6_likingOn_5 : decode cX6_likingOn 5 = .ok (.getfield 58, 3) := by decide +kernel
theorem dX6_likingOn_8 : decode cX6_likingOn 8 = .ok (.iconst 0, 1) := by decide +kernel
theorem dX6_likingOn_9 : decode cX6_likingOn 9 = .ok (.invokevirtual 84, 3) := by decide +kernel
theorem dX6_likingOn_12 : decode cX6_likingOn 12 = .ok (.iconst 0, 1) := by decide +kernel
theorem dX6_likingOn_13 : decode cX6_likingOn 13 = .ok (.istore_n 2, 1) := by decide +kernel
theorem dX6_likingOn_14 : decode cX6_likingOn 14 = .ok (.iload_n 2, 1) := by decide +kernel
theorem dX6_likingOn_15 : decode cX6_likingOn 15 = .ok (.iload_n 1, 1) := by decide +kernel
theorem dX6_likingOn_16 : decode cX6_likingOn 16 = .ok (.if_icmp .ge 25, 3) := by decide +kernel
theorem dX6_likingOn_19 : decode cX6_likingOn 19 = .ok (.aload_n 0, 1) := by decide +kernel
theorem dX6_likingOn_20 : decode cX6_likingOn 20 = .ok (.getfield 61, 3) := by decide +kernel
theorem dX6_likingOn_23 : decode cX6_likingOn 23 = .ok (.aload_n 0, 1) := by decide +kernel
theorem dX6_likingOn_24 : decode cX6_likingOn 24 = .ok (.getfield 58, 3) := by decide +kernel
theorem dX6_likingOn_27 : decode cX6_likingOn 27 = .ok (.aload_n 0, 1) := by decide +kernel
theorem dX6_likingOn_28 : decode cX6_likingOn 28 = .ok (.getfield 30, 3) := by decide +kernel
theorem dX6_likingOn_31 : decode cX6_likingOn 31 = .ok (.invokevirtual 195, 3) := by decide +kernel
theorem dX6_likingOn_34 : decode cX6_likingOn 34 = .ok (.pop, 1) := by decide +kernel
theorem dX6_likingOn_35 : decode cX6_likingOn 35 = .ok (.iinc 2 1, 3) := by decide +kernel
theorem dX6_likingOn_38 : decode cX6_likingOn 38 = .ok (.goto (-24), 3) := by decide +kernel
theorem dX6_likingOn_41 : decode cX6_likingOn 41 = .ok (.aload_n 0, 1) := by decide +kernel
theorem dX6_likingOn_42 : decode cX6_likingOn 42 = .ok (.getfield 61, 3) := by decide +kernel
theorem dX6_likingOn_45 : decode cX6_likingOn 45 = .ok (.getfield 130, 3) := by decide +kernel
theorem dX6_likingOn_48 : decode cX6_likingOn 48 = .ok (.aload_n 0, 1) := by decide +kernel
theorem dX6_likingOn_49 : decode cX6_likingOn 49 = .ok (.getfield 58, 3) := by decide +kernel
theorem dX6_likingOn_52 : decode cX6_likingOn 52 = .ok (.getfield 202, 3) := by decide +kernel
theorem dX6_likingOn_55 : decode cX6_likingOn 55 = .ok (.invokestatic 205, 3) := by decide +kernel
theorem dX6_likingOn_58 : decode cX6_likingOn 58 = .ok (.ireturn, 1) := by decide +kernel
theorem dX6_fillJar_0 : decode cX6_fillJar 0 = .ok (.aload_n 0, 1) := by decide +kernel
theorem dX6_fillJar_1 : decode cX6_fillJar 1 = .ok (.getfield 58, 3) := by decide +kernel
theorem dX6_fillJar_4 : decode cX6_fillJar 4 = .ok (.aload_n 0, 1) := by decide +kernel
theorem dX6_fillJar_5 : decode cX6_fillJar 5 = .ok (.getfield 10, 3) := by decide +kernel
theorem dX6_fillJar_8 : decode cX6_fillJar 8 = .ok (.invokevirtual 109, 3) := by decide +kernel
theorem dX6_fillJar_11 : decode cX6_fillJar 11 = .ok (.aload_n 0, 1) := by decide +kernel
theorem dX6_fillJar_12 : decode cX6_fillJar 12 = .ok (.getfield 58, 3) := by decide +kernel
theorem dX6_fillJar_15 : decode cX6_fillJar 15 = .ok (.invokevirtual 212, 3) := by decide +kernel
theorem dX6_fillJar_18 : decode cX6_fillJar 18 = .ok (.aload_n 0, 1) := by decide +kernel
theorem dX6_fillJar_19 : decode cX6_fillJar 19 = .ok (.getfield 54, 3) := by decide +kernel
theorem dX6_fillJar_22 : decode cX6_fillJar 22 = .ok (.iload_n 1, 1) := by decide +kernel
theorem dX6_fillJar_23 : decode cX6_fillJar 23 = .ok (.putfield 286, 3) := by decide +kernel
theorem dX6_fillJar_26 : decode cX6_fillJar 26 = .ok (.aload_n 0, 1) := by decide +kernel
theorem dX6_fillJar_27 : decode cX6_fillJar 27 = .ok (.getfield 54, 3) := by decide +kernel
theorem dX6_fillJar_30 : decode cX6_fillJar 30 = .ok (.aload_n 0, 1) := by decide +kernel
theorem dX6_fillJar_31 : decode cX6_fillJar 31 = .ok (.getfield 58, 3) := by decide +kernel
theorem dX6_fillJar_34 : decode cX6_fillJar 34 = .ok (.getfield 202, 3) := by decide +kernel
theorem dX6_fillJar_37 : decode cX6_fillJar 37 = .ok (.putfield 289, 3) := by decide +kernel
theorem dX6_fillJar_40 : decode cX6_fillJar 40 = .ok (.iconst 0, 1) := by decide +kernel
theorem dX6_fillJar_41 : decode cX6_fillJar 41 = .ok (.istore_n 3, 1) := by decide +kernel
theorem dX6_fillJar_42 : decode cX6_fillJar 42 = .ok (.iload_n 3, 1) := by decide +kernel
theorem dX6_fillJar_43 : decode cX6_fillJar 43 = .ok (.aload_n 0, 1) := by decide +kernel
theorem dX6_fillJar_44 : decode cX6_fillJar 44 = .ok (.getfield 58, 3) := by decide +kernel
theorem dX6_fillJar_47 : decode cX6_fillJar 47 = .ok (.getfield 202, 3) := by decide +kernel
theorem dX6_fillJar_50 : decode cX6_fillJar 50 = .ok (.if_icmp .ge 113, 3) := by decide +kernel
theorem dX6_fillJar_53 : decode cX6_fillJar 53 = .ok (.aload_n 0, 1) := by decide +kernel
theorem dX6_fillJar_54 : decode cX6_fillJar 54 = .ok (.getfield 26, 3) := by decide +kernel
theorem dX6_fillJar_57 : decode cX6_fillJar 57 = .ok (.aload_n 0, 1) := by decide +kernel
theorem dX6_fillJar_58 : decode cX6_fillJar 58 = .ok (.getfield 58, 3) := by decide +kernel
theorem dX6_fillJar_61 : decode cX6_fillJar 61 = .ok (.iload_n 3, 1) := by decide +kernel
theorem dX6_fillJar_62 : decode cX6_fillJar 62 = .ok (.aload_n 0, 1) := by decide +kernel
theorem dX6_fillJar_63 : decode cX6_fillJar 63 = .ok (.getfield 30, 3) := by decide +kernel
theorem dX6_fillJar_66 : decode cX6_fillJar 66 = .ok (.iconst 0, 1) := by decide +kernel
theorem dX6_fillJar_67 : decode cX6_fillJar 67 = .ok (.iaload, 1) := by decide +kernel
theorem dX6_fillJar_68 : decode cX6_fillJar 68 = .ok (.invokevirtual 184, 3) := by decide +kernel
theorem dX6_fillJar_71 : decode cX6_fillJar 71 = .ok (.iconst 0, 1) := by decide +kernel
theorem dX6_fillJar_72 : decode cX6_fillJar 72 = .ok (.invokestatic 236, 3) := by decide +kernel
theorem dX6_fillJar_75 : decode cX6_fillJar 75 = .ok (.istore 4, 2) := by decide +kernel
theorem dX6_fillJar_77 : decode cX6_fillJar 77 = .ok (.aload_n 0, 1) := by decide +kernel
theorem dX6_fillJar_78 : decode cX6_fillJar 78 = .ok (.getfield 54, 3) := by decide +kernel
theorem dX6_fillJar_81 : decode cX6_fillJar 81 = .ok (.getfield 290, 3) := by decide +kernel
theorem dX6_fillJar_84 : decode cX6_fillJar 84 = .ok (.iload_n 3, 1) := by decide +kernel
theorem dX6_fillJar_85 : decode cX6_fillJar 85 = .ok (.aload_n 0, 1) := by decide +kernel
theorem dX6_fillJar_86 : decode cX6_fillJar 86 = .ok (.getfield 58, 3) := by decide +kernel
theorem dX6_fillJar_89 : decode cX6_fillJar 89 = .ok (.iload_n 3, 1) := by decide +kernel
theorem dX6_fillJar_90 : decode cX6_fillJar 90 = .ok (.iload 4, 2) := by decide +kernel
theorem dX6_fillJar_92 : decode cX6_fillJar 92 = .ok (.invokevirtual 171, 3) := by decide +kernel
theorem dX6_fillJar_95 : decode cX6_fillJar 95 = .ok (.iastore, 1) := by decide +kernel
theorem dX6_fillJar_96 : decode cX6_fillJar 96 = .ok (.aload_n 0, 1) := by decide +kernel
theorem dX6_fillJar_97 : decode cX6_fillJar 97 = .ok (.getfield 54, 3) := by decide +kernel
theorem dX6_fillJar_100 : decode cX6_fillJar 100 = .ok (.getfield 291, 3) := by decide +kernel
theorem dX6_fillJar_103 : decode cX6_fillJar 103 = .ok (.iload_n 3, 1) := by decide +kernel
theorem dX6_fillJar_104 : decode cX6_fillJar 104 = .ok (.aload_n 0, 1) := by decide +kernel
theorem dX6_fillJar_105 : decode cX6_fillJar 105 = .ok (.getfield 26, 3) := by decide +kernel
theorem dX6_fillJar_108 : decode cX6_fillJar 108 = .ok (.aload_n 0, 1) := by decide +kernel
theorem dX6_fillJar_109 : decode cX6_fillJar 109 = .ok (.getfield 58, 3) := by decide +kernel
theorem dX6_fillJar_112 : decode cX6_fillJar 112 = .ok (.iload_n 3, 1) := by decide +kernel
theorem dX6_fillJar_113 : decode cX6_fillJar 113 = .ok (.iload 4, 2) := by decide +kernel
theorem dX6_fillJar_115 : decode cX6_fillJar 115 = .ok (.invokevirtual 174, 3) := by decide +kernel
theorem dX6_fillJar_118 : decode cX6_fillJar 118 = .ok (.aload_n 0, 1) := by decide +kernel
theorem dX6_fillJar_119 : decode cX6_fillJar 119 = .ok (.getfield 30, 3) := by decide +kernel
theorem dX6_fillJar_122 : decode cX6_fillJar 122 = .ok (.iconst 0, 1) := by decide +kernel
theorem dX6_fillJar_123 : decode cX6_fillJar 123 = .ok (.iaload, 1) := by decide +kernel
theorem dX6_fillJar_124 : decode cX6_fillJar 124 = .ok (.isub, 1) := by decide +kernel
theorem dX6_fillJar_125 : decode cX6_fillJar 125 = .ok (.iastore, 1) := by decide +kernel
theorem dX6_fillJar_126 : decode cX6_fillJar 126 = .ok (.aload_n 0, 1) := by decide +kernel
theorem dX6_fillJar_127 : decode cX6_fillJar 127 = .ok (.getfield 54, 3) := by decide +kernel
theorem dX6_fillJar_130 : decode cX6_fillJar 130 = .ok (.getfield 294, 3) := by decide +kernel
theorem dX6_fillJar_133 : decode cX6_fillJar 133 = .ok (.iload_n 3, 1) := by decide +kernel
theorem dX6_fillJar_134 : decode cX6_fillJar 134 = .ok (.iload_n 2, 1) := by decide +kernel
theorem dX6_fillJar_135 : decode cX6_fillJar 135 = .ok (.aload_n 0, 1) := by decide +kernel
theorem dX6_fillJar_136 : decode cX6_fillJar 136 = .ok (.getfield 58, 3) := by decide +kernel
theorem dX6_fillJar_139 : decode cX6_fillJar 139 = .ok (.getfield 127, 3) := by decide +kernel
theorem dX6_fillJar_142 : decode cX6_fillJar 142 = .ok (.iload_n 3, 1) := by decide +kernel
theorem dX6_fillJar_143 : decode cX6_fillJar 143 = .ok (.iaload, 1) := by decide +kernel
theorem dX6_fillJar_144 : decode cX6_fillJar 144 = .ok (.imul, 1) := by decide +kernel
theorem dX6_fillJar_145 : decode cX6_fillJar 145 = .ok (.aload_n 0, 1) := by decide +kernel
theorem dX6_fillJar_146 : decode cX6_fillJar 146 = .ok (.getfield 26, 3) := by decide +kernel
theorem dX6_fillJar_149 : decode cX6_fillJar 149 = .ok (.getfield 199, 3) := by decide +kernel
theorem dX6_fillJar_152 : decode cX6_fillJar 152 = .ok (.imul, 1) := by decide +kernel
theorem dX6_fillJar_153 : decode cX6_fillJar 153 = .ok (.bipush 100, 2) := by decide +kernel
theorem dX6_fillJar_155 : decode cX6_fillJar 155 = .ok (.idiv, 1) := by decide +kernel
theorem dX6_fillJar_156 : decode cX6_fillJar 156 = .ok (.iastore, 1) := by decide +kernel
theorem dX6_fillJar_157 : decode cX6_fillJar 157 = .ok (.iinc 3 1, 3) := by decide +kernel
theorem dX6_fillJar_160 : decode cX6_fillJar 160 = .ok (.goto (-118), 3) := by decide +kernel
theorem dX6_fillJar_163 : decode cX6_fillJar 163 = .ok (.return_, 1) := by decide +kernel
theorem dX6_rateOfPay_0 : decode cX6_rateOfPay 0 = .ok (.aload_n 0, 1) := by decide +kernel
theorem dX6_rateOfPay_1 : decode cX6_rateOfPay 1 = .ok (.dup, 1) := by decide +kernel
theorem dX6_rateOfPay_2 : decode cX6_rateOfPay 2 = .ok (.getfield 68, 3) := by decide +kernel
theorem dX6_rateOfPay_5 : decode cX6_rateOfPay 5 = .ok (.lconst 1, 1) := by decide +kernel
theorem dX6_rateOfPay_6 : decode cX6_rateOfPay 6 = .ok (.ladd, 1) := by decide +kernel
theorem dX6_rateOfPay_7 : decode cX6_rateOfPay 7 = .ok (.putfield 68, 3) := by decide +kernel
theorem dX6_rateOfPay_10 : decode cX6_rateOfPay 10 = .ok (.aload_n 0, 1) := by decide +kernel
theorem dX6_rateOfPay_11 : decode cX6_rateOfPay 11 = .ok (.getfield 26, 3) := by decide +kernel
theorem dX6_rateOfPay_14 : decode cX6_rateOfPay 14 = .ok (.getfield 134, 3) := by decide +kernel
theorem dX6_rateOfPay_17 : decode cX6_rateOfPay 17 = .ok (.iload_n 1, 1) := by decide +kernel
theorem dX6_rateOfPay_18 : decode cX6_rateOfPay 18 = .ok (.iaload, 1) := by decide +kernel
theorem dX6_rateOfPay_19 : decode cX6_rateOfPay 19 = .ok (.ireturn, 1) := by decide +kernel
theorem dX6_rateOfTold_0 : decode cX6_rateOfTold 0 = .ok (.aload_n 0, 1) := by decide +kernel
theorem dX6_rateOfTold_1 : decode cX6_rateOfTold 1 = .ok (.dup, 1) := by decide +kernel
theorem dX6_rateOfTold_2 : decode cX6_rateOfTold 2 = .ok (.getfield 68, 3) := by decide +kernel
theorem dX6_rateOfTold_5 : decode cX6_rateOfTold 5 = .ok (.ldc2_w 297, 3) := by decide +kernel
theorem dX6_rateOfTold_8 : decode cX6_rateOfTold 8 = .ok (.ladd, 1) := by decide +kernel
theorem dX6_rateOfTold_9 : decode cX6_rateOfTold 9 = .ok (.putfield 68, 3) := by decide +kernel
theorem dX6_rateOfTold_12 : decode cX6_rateOfTold 12 = .ok (.aload_n 0, 1) := by decide +kernel
theorem dX6_rateOfTold_13 : decode cX6_rateOfTold 13 = .ok (.iload_n 1, 1) := by decide +kernel
theorem dX6_rateOfTold_14 : decode cX6_rateOfTold 14 = .ok (.invokevirtual 257, 3) := by decide +kernel
theorem dX6_rateOfTold_17 : decode cX6_rateOfTold 17 = .ok (.aload_n 0, 1) := by decide +kernel
theorem dX6_rateOfTold_18 : decode cX6_rateOfTold 18 = .ok (.getfield 26, 3) := by decide +kernel
theorem dX6_rateOfTold_21 : decode cX6_rateOfTold 21 = .ok (.getfield 130, 3) := by decide +kernel
theorem dX6_rateOfTold_24 : decode cX6_rateOfTold 24 = .ok (.iload_n 1, 1) := by decide +kernel
theorem dX6_rateOfTold_25 : decode cX6_rateOfTold 25 = .ok (.iaload, 1) := by decide +kernel
theorem dX6_rateOfTold_26 : decode cX6_rateOfTold 26 = .ok (.isub, 1) := by decide +kernel
theorem dX6_rateOfTold_27 : decode cX6_rateOfTold 27 = .ok (.ireturn, 1) := by decide +kernel
theorem dX6_rateOfUnforeseen_0 : decode cX6_rateOfUnforeseen 0 = .ok (.aload_n 0, 1) := by decide +kernel
theorem dX6_rateOfUnforeseen_1 : decode cX6_rateOfUnforeseen 1 = .ok (.dup, 1) := by decide +kernel
theorem dX6_rateOfUnforeseen_2 : decode cX6_rateOfUnforeseen 2 = .ok (.getfield 68, 3) := by decide +kernel
theorem dX6_rateOfUnforeseen_5 : decode cX6_rateOfUnforeseen 5 = .ok (.ldc2_w 299, 3) := by decide +kernel
theorem dX6_rateOfUnforeseen_8 : decode cX6_rateOfUnforeseen 8 = .ok (.ladd, 1) := by decide +kernel
theorem dX6_rateOfUnforeseen_9 : decode cX6_rateOfUnforeseen 9 = .ok (.putfield 68, 3) := by decide +kernel
theorem dX6_rateOfUnforeseen_12 : decode cX6_rateOfUnforeseen 12 = .ok (.aload_n 0, 1) := by decide +kernel
theorem dX6_rateOfUnforeseen_13 : decode cX6_rateOfUnforeseen 13 = .ok (.iload_n 1, 1) := by decide +kernel
theorem dX6_rateOfUnforeseen_14 : decode cX6_rateOfUnforeseen 14 = .ok (.invokevirtual 257, 3) := by decide +kernel
theorem dX6_rateOfUnforeseen_17 : decode cX6_rateOfUnforeseen 17 = .ok (.aload_n 0, 1) := by decide +kernel
theorem dX6_rateOfUnforeseen_18 : decode cX6_rateOfUnforeseen 18 = .ok (.getfield 26, 3) := by decide +kernel
theorem dX6_rateOfUnforeseen_21 : decode cX6_rateOfUnforeseen 21 = .ok (.getfield 130, 3) := by decide +kernel
theorem dX6_rateOfUnforeseen_24 : decode cX6_rateOfUnforeseen 24 = .ok (.iload_n 1, 1) := by decide +kernel
theorem dX6_rateOfUnforeseen_25 : decode cX6_rateOfUnforeseen 25 = .ok (.iaload, 1) := by decide +kernel
theorem dX6_rateOfUnforeseen_26 : decode cX6_rateOfUnforeseen 26 = .ok (.iadd, 1) := by decide +kernel
theorem dX6_rateOfUnforeseen_27 : decode cX6_rateOfUnforeseen 27 = .ok (.ireturn, 1) := by decide +kernel
theorem dX6_rateOfDoing_0 : decode cX6_rateOfDoing 0 = .ok (.aload_n 0, 1) := by decide +kernel
theorem dX6_rateOfDoing_1 : decode cX6_rateOfDoing 1 = .ok (.dup, 1) := by decide +kernel
theorem dX6_rateOfDoing_2 : decode cX6_rateOfDoing 2 = .ok (.getfield 68, 3) := by decide +kernel
theorem dX6_rateOfDoing_5 : decode cX6_rateOfDoing 5 = .ok (.ldc2_w 301, 3) := by decide +kernel
theorem dX6_rateOfDoing_8 : decode cX6_rateOfDoing 8 = .ok (.ladd, 1) := by decide +kernel
theorem dX6_rateOfDoing_9 : decode cX6_rateOfDoing 9 = .ok (.putfield 68, 3) := by decide +kernel
theorem dX6_rateOfDoing_12 : decode cX6_rateOfDoing 12 = .ok (.aload_n 0, 1) := by decide +kernel
theorem dX6_rateOfDoing_13 : decode cX6_rateOfDoing 13 = .ok (.iload_n 1, 1) := by decide +kernel
theorem dX6_rateOfDoing_14 : decode cX6_rateOfDoing 14 = .ok (.invokevirtual 260, 3) := by decide +kernel
theorem dX6_rateOfDoing_17 : decode cX6_rateOfDoing 17 = .ok (.aload_n 0, 1) := by decide +kernel
theorem dX6_rateOfDoing_18 : decode cX6_rateOfDoing 18 = .ok (.getfield 26, 3) := by decide +kernel
theorem dX6_rateOfDoing_21 : decode cX6_rateOfDoing 21 = .ok (.getfield 131, 3) := by decide +kernel
theorem dX6_rateOfDoing_24 : decode cX6_rateOfDoing 24 = .ok (.iload_n 1, 1) := by decide +kernel
theorem dX6_rateOfDoing_25 : decode cX6_rateOfDoing 25 = .ok (.iaload, 1) := by decide +kernel
theorem dX6_rateOfDoing_26 : decode cX6_rateOfDoing 26 = .ok (.iadd, 1) := by decide +kernel
theorem dX6_rateOfDoing_27 : decode cX6_rateOfDoing 27 = .ok (.ireturn, 1) := by decide +kernel
theorem dX6_rateOfWell_0 : decode cX6_rateOfWell 0 = .ok (.aload_n 0, 1) := by decide +kernel
theorem dX6_rateOfWell_1 : decode cX6_rateOfWell 1 = .ok (.dup, 1) := by decide +kernel
theorem dX6_rateOfWell_2 : decode cX6_rateOfWell 2 = .ok (.getfield 68, 3) := by decide +kernel
theorem dX6_rateOfWell_5 : decode cX6_rateOfWell 5 = .ok (.ldc2_w 303, 3) := by decide +kernel
theorem dX6_rateOfWell_8 : decode cX6_rateOfWell 8 = .ok (.ladd, 1) := by decide +kernel
theorem dX6_rateOfWell_9 : decode cX6_rateOfWell 9 = .ok (.putfield 68, 3) := by decide +kernel
theorem dX6_rateOfWell_12 : decode cX6_rateOfWell 12 = .ok (.iconst 2, 1) := by decide +kernel
theorem dX6_rateOfWell_13 : decode cX6_rateOfWell 13 = .ok (.aload_n 0, 1) := by decide +kernel
theorem dX6_rateOfWell_14 : decode cX6_rateOfWell 14 = .ok (.iload_n 1, 1) := by decide +kernel
theorem dX6_rateOfWell_15 : decode cX6_rateOfWell 15 = .ok (.invokevirtual 266, 3) := by decide +kernel
theorem dX6_rateOfWell_18 : decode cX6_rateOfWell 18 = .ok (.imul, 1) := by decide +kernel
theorem dX6_rateOfWell_19 : decode cX6_rateOfWell 19 = .ok (.ireturn, 1) := by decide +kernel
theorem dX6_rateOfCommon_0 : decode cX6_rateOfCommon 0 = .ok (.aload_n 0, 1) := by decide +kernel
theorem dX6_rateOfCommon_1 : decode cX6_rateOfCommon 1 = .ok (.dup, 1) := by decide +kernel
theorem dX6_rateOfCommon_2 : decode cX6_rateOfCommon 2 = .ok (.getfield 68, 3) := by decide +kernel
theorem dX6_rateOfCommon_5 : decode cX6_rateOfCommon 5 = .ok (.ldc2_w 305, 3) := by decide +kernel
theorem dX6_rateOfCommon_8 : decode cX6_rateOfCommon 8 = .ok (.ladd, 1) := by decide +kernel
theorem dX6_rateOfCommon_9 : decode cX6_rateOfCommon 9 = .ok (.putfield 68, 3) := by decide +kernel
theorem dX6_rateOfCommon_12 : decode cX6_rateOfCommon 12 = .ok (.aload_n 0, 1) := by decide +kernel
theorem dX6_rateOfCommon_13 : decode cX6_rateOfCommon 13 = .ok (.iload_n 1, 1) := by decide +kernel
theorem dX6_rateOfCommon_14 : decode cX6_rateOfCommon 14 = .ok (.invokevirtual 257, 3) := by decide +kernel
theorem dX6_rateOfCommon_17 : decode cX6_rateOfCommon 17 = .ok (.aload_n 0, 1) := by decide +kernel
theorem dX6_rateOfCommon_18 : decode cX6_rateOfCommon 18 = .ok (.getfield 26, 3) := by decide +kernel
theorem dX6_rateOfCommon_21 : decode cX6_rateOfCommon 21 = .ok (.getfield 199, 3) := by decide +kernel
theorem dX6_rateOfCommon_24 : decode cX6_rateOfCommon 24 = .ok (.iadd, 1) := by decide +kernel
theorem dX6_rateOfCommon_25 : decode cX6_rateOfCommon 25 = .ok (.ireturn, 1) := by decide +kernel
theorem dX7_init_0 : decode cX7_init 0 = .ok (.aload_n 0, 1) := by decide +kernel
theorem dX7_init_1 : decode cX7_init 1 = .ok (.invokespecial 1, 3) := by decide +kernel
theorem dX7_init_4 : decode cX7_init 4 = .ok (.aload_n 0, 1) := by decide +kernel
theorem dX7_init_5 : decode cX7_init 5 = .ok (.sipush 400, 3) := by decide +kernel
theorem dX7_init_8 : decode cX7_init 8 = .ok (.newarray .int, 2) := by decide +kernel
theorem dX7_init_10 : decode cX7_init 10 = .ok (.putfield 7, 3) := by decide +kernel
theorem dX7_init_13 : decode cX7_init 13 = .ok (.aload_n 0, 1) := by decide +kernel
theorem dX7_init_14 : decode cX7_init 14 = .ok (.bipush 84, 2) := by decide +kernel
theorem dX7_init_16 : decode cX7_init 16 = .ok (.newarray .int, 2) := by decide +kernel
theorem dX7_init_18 : decode cX7_init 18 = .ok (.putfield 13, 3) := by decide +kernel
theorem dX7_init_21 : decode cX7_init 21 = .ok (.aload_n 0, 1) := by decide +kernel
theorem dX7_init_22 : decode cX7_init 22 = .ok (.bipush 6, 2) := by decide +kernel
theorem dX7_init_24 : decode cX7_init 24 = .ok (.newarray .int, 2) := by decide +kernel
theorem dX7_init_26 : decode cX7_init 26 = .ok (.putfield 16, 3) := by decide +kernel
theorem dX7_init_29 : decode cX7_init 29 = .ok (.aload_n 0, 1) := by decide +kernel
theorem dX7_init_30 : decode cX7_init 30 = .ok (.bipush 27, 2) := by decide +kernel
theorem dX7_init_32 : decode cX7_init 32 = .ok (.newarray .int, 2) := by decide +kernel
theorem dX7_init_34 : decode cX7_init 34 = .ok (.putfield 19, 3) := by decide +kernel
theorem dX7_init_37 : decode cX7_init 37 = .ok (.aload_n 0, 1) := by decide +kernel
theorem dX7_init_38 : decode cX7_init 38 = .ok (.bipush 54, 2) := by decide +kernel
theorem dX7_init_40 : decode cX7_init 40 = .ok (.newarray .int, 2) := by decide +kernel
theorem dX7_init_42 : decode cX7_init 42 = .ok (.putfield 22, 3) := by decide +kernel
theorem dX7_init_45 : decode cX7_init 45 = .ok (.aload_n 0, 1) := by decide +kernel
theorem dX7_init_46 : decode cX7_init 46 = .ok (.iconst 2, 1) := by decide +kernel
theorem dX7_init_47 : decode cX7_init 47 = .ok (.newarray .boolean, 2) := by decide +kernel
theorem dX7_init_49 : decode cX7_init 49 = .ok (.putfield 25, 3) := by decide +kernel
theorem dX7_init_52 : decode cX7_init 52 = .ok (.aload_n 0, 1) := by decide +kernel
theorem dX7_init_53 : decode cX7_init 53 = .ok (.bipush 27, 2) := by decide +kernel
theorem dX7_init_55 : decode cX7_init 55 = .ok (.newarray .int, 2) := by decide +kernel
theorem dX7_init_57 : decode cX7_init 57 = .ok (.putfield 29, 3) := by decide +kernel
theorem dX7_init_60 : decode cX7_init 60 = .ok (.aload_n 0, 1) := by decide +kernel
theorem dX7_init_61 : decode cX7_init 61 = .ok (.bipush 84, 2) := by decide +kernel
theorem dX7_init_63 : decode cX7_init 63 = .ok (.newarray .int, 2) := by decide +kernel
theorem dX7_init_65 : decode cX7_init 65 = .ok (.putfield 32, 3) := by decide +kernel
theorem dX7_init_68 : decode cX7_init 68 = .ok (.aload_n 0, 1) := by decide +kernel
theorem dX7_init_69 : decode cX7_init 69 = .ok (.bipush 30, 2) := by decide +kernel
theorem dX7_init_71 : decode cX7_init 71 = .ok (.newarray .int, 2) := by decide +kernel
theorem dX7_init_73 : decode cX7_init 73 = .ok (.putfield 35, 3) := by decide +kernel
theorem dX7_init_76 : decode cX7_init 76 = .ok (.aload_n 0, 1) := by decide +kernel
theorem dX7_init_77 : decode cX7_init 77 = .ok (.bipush 30, 2) := by decide +kernel
theorem dX7_init_79 : decode cX7_init 79 = .ok (.newarray .int, 2) := by decide +kernel
theorem dX7_init_81 : decode cX7_init 81 = .ok (.putfield 38, 3) := by decide +kernel
theorem dX7_init_84 : decode cX7_init 84 = .ok (.aload_n 0, 1) := by decide +kernel
theorem dX7_init_85 : decode cX7_init 85 = .ok (.getfield 16, 3) := by decide +kernel
theorem dX7_init_88 : decode cX7_init 88 = .ok (.iconst 0, 1) := by decide +kernel
theorem dX7_init_89 : decode cX7_init 89 = .ok (.bipush 10, 2) := by decide +kernel
theorem dX7_init_91 : decode cX7_init 91 = .ok (.iastore, 1) := by decide +kernel
theorem dX7_init_92 : decode cX7_init 92 = .ok (.aload_n 0, 1) := by decide +kernel
theorem dX7_init_93 : decode cX7_init 93 = .ok (.getfield 16, 3) := by decide +kernel
theorem dX7_init_96 : decode cX7_init 96 = .ok (.iconst 1, 1) := by decide +kernel
theorem dX7_init_97 : decode cX7_init 97 = .ok (.iconst 1, 1) := by decide +kernel
theorem dX7_init_98 : decode cX7_init 98 = .ok (.iastore, 1) := by decide +kernel
theorem dX7_init_99 : decode cX7_init 99 = .ok (.aload_n 0, 1) := by decide +kernel
theorem dX7_init_100 : decode cX7_init 100 = .ok (.getfield 16, 3) := by decide +kernel
theorem dX7_init_103 : decode cX7_init 103 = .ok (.iconst 2, 1) := by decide +kernel
theorem dX7_init_104 : decode cX7_init 104 = .ok (.bipush 6, 2) := by decide +kernel
theorem dX7_init_106 : decode cX7_init 106 = .ok (.iastore, 1) := by decide +kernel
theorem dX7_init_107 : decode cX7_init 107 = .ok (.aload_n 0, 1) := by decide +kernel
theorem dX7_init_108 : decode cX7_init 108 = .ok (.getfield 16, 3) := by decide +kernel
theorem dX7_init_111 : decode cX7_init 111 = .ok (.iconst 3, 1) := by decide +kernel
theorem dX7_init_112 : decode cX7_init 112 = .ok (.iconst 2, 1) := by decide +kernel
theorem dX7_init_113 : decode cX7_init 113 = .ok (.iastore, 1) := by decide +kernel
theorem dX7_init_114 : decode cX7_init 114 = .ok (.aload_n 0, 1) := by decide +kernel
theorem dX7_init_115 : decode cX7_init 115 = .ok (.getfield 16, 3) := by decide +kernel
theorem dX7_init_118 : decode cX7_init 118 = .ok (.iconst 4, 1) := by decide +kernel
theorem dX7_init_119 : decode cX7_init 119 = .ok (.iconst 3, 1) := by decide +kernel
theorem dX7_init_120 : decode cX7_init 120 = .ok (.iastore, 1) := by decide +kernel
theorem dX7_init_121 : decode cX7_init 121 = .ok (.aload_n 0, 1) := by decide +kernel
theorem dX7_init_122 : decode cX7_init 122 = .ok (.getfield 16, 3) := by decide +kernel
theorem dX7_init_125 : decode cX7_init 125 = .ok (.iconst 5, 1) := by decide +kernel
theorem dX7_init_126 : decode cX7_init 126 = .ok (.iconst 1, 1) := by decide +kernel
theorem dX7_init_127 : decode cX7_init 127 = .ok (.iastore, 1) := by decide +kernel
theorem dX7_init_128 : decode cX7_init 128 = .ok (.aload_n 0, 1) := by decide +kernel
theorem dX7_init_129 : decode cX7_init 129 = .ok (.getfield 19, 3) := by decide +kernel
theorem dX7_init_132 : decode cX7_init 132 = .ok (.iconst 2, 1) := by decide +kernel
theorem dX7_init_133 : decode cX7_init 133 = .ok (.iconst 1, 1) := by decide +kernel
theorem dX7_init_134 : decode cX7_init 134 = .ok (.iastore, 1) := by decide +kernel
theorem dX7_init_135 : decode cX7_init 135 = .ok (.aload_n 0, 1) := by decide +kernel
theorem dX7_init_136 : decode cX7_init 136 = .ok (.invokevirtual 41, 3) := by decide +kernel
theorem dX7_init_139 : decode cX7_init 139 = .ok (.aload_n 0, 1) := by decide +kernel
theorem dX7_init_140 : decode cX7_init 140 = .ok (.invokevirtual 44, 3) := by decide +kernel
theorem dX7_init_143 : decode cX7_init 143 = .ok (.return_, 1) := by decide +kernel
theorem dX7_in_0 : decode cX7_in 0 = .ok (.iload_n 0, 1) := by decide +kernel
theorem dX7_in_1 : decode cX7_in 1 = .ok (.iload_n 1, 1) := by decide +kernel
theorem dX7_in_2 : decode cX7_in 2 = .ok (.if_icmp .lt 12, 3) := by decide +kernel
theorem dX7_in_5 : decode cX7_in 5 = .ok (.iload_n 0, 1) := by decide +kernel
theorem dX7_in_6 : decode cX7_in 6 = .ok (.iload_n 2, 1) := by decide +kernel
theorem dX7_in_7 : decode cX7_in 7 = .ok (.if_icmp .gt 7, 3) := by decide +kernel
theorem dX7_in_10 : decode cX7_in 10 = .ok (.iconst 1, 1) := by decide +kernel
theorem dX7_in_11 : decode cX7_in 11 = .ok (.goto 4, 3) := by decide +kernel
theorem dX7_in_14 : decode cX7_in 14 = .ok (.iconst 0, 1) := by decide +kernel
theorem dX7_in_15 : decode cX7_in 15 = .ok (.ireturn, 1) := by decide +kernel
theorem dX7_type_0 : decode cX7_type 0 = .ok (.aload_n 0, 1) := by decide +kernel
theorem dX7_type_1 : decode cX7_type 1 = .ok (.iconst 0, 1) := by decide +kernel
theorem dX7_type_2 : decode cX7_type 2 = .ok (.putfield 47, 3) := by decide +kernel
theorem dX7_type_5 : decode cX7_type 5 = .ok (.iload_n 3, 1) := by decide +kernel
theorem dX7_type_6 : decode cX7_type 6 = .ok (.iconst 1, 1) := by decide +kernel
theorem dX7_type_7 : decode cX7_type 7 = .ok (.bipush 8, 2) := by decide +kernel
theorem dX7_type_9 : decode cX7_type 9 = .ok (.invokestatic 51, 3) := by decide +kernel
theorem dX7_type_12 : decode cX7_type 12 = .ok (.ifCond .ne 5, 3) := by decide +kernel
theorem dX7_type_15 : decode cX7_type 15 = .ok (.iconst (-1), 1) := by decide +kernel
theorem dX7_type_16 : decode cX7_type 16 = .ok (.ireturn, 1) := by decide +kernel
theorem dX7_type_17 : decode cX7_type 17 = .ok (.aload_n 0, 1) := by decide +kernel
theorem dX7_type_18 : decode cX7_type 18 = .ok (.getfield 55, 3) := by decide +kernel
theorem dX7_type_21 : decode cX7_type 21 = .ok (.iload_n 3, 1) := by decide +kernel
theorem dX7_type_22 : decode cX7_type 22 = .ok (.iadd, 1) := by decide +kernel
theorem dX7_type_23 : decode cX7_type 23 = .ok (.sipush 400, 3) := by decide +kernel
theorem dX7_type_26 : decode cX7_type 26 = .ok (.if_icmp .le 6, 3) := by decide +kernel
theorem dX7_type_29 : decode cX7_type 29 = .ok (.bipush (-3), 2) := by decide +kernel
theorem dX7_type_31 : decode cX7_type 31 = .ok (.ireturn, 1) := by decide +kernel
theorem dX7_type_32 : decode cX7_type 32 = .ok (.iload_n 3, 1) := by decide +kernel
theorem dX7_type_33 : decode cX7_type 33 = .ok (.iconst 1, 1) := by decide +kernel
theorem dX7_type_34 : decode cX7_type 34 = .ok (.isub, 1) := by decide +kernel
theorem dX7_type_35 : decode cX7_type 35 = .ok (.istore 4, 2) := by decide +kernel
theorem dX7_type_37 : decode cX7_type 37 = .ok (.iload 4, 2) := by decide +kernel
theorem dX7_type_39 : decode cX7_type 39 = .ok (.ifCond .lt 40, 3) := by decide +kernel
theorem dX7_type_42 : decode cX7_type 42 = .ok (.aload_n 0, 1) := by decide +kernel
theorem dX7_type_43 : decode cX7_type 43 = .ok (.getfield 7, 3) := by decide +kernel
theorem dX7_type_46 : decode cX7_type 46 = .ok (.aload_n 0, 1) := by decide +kernel
theorem dX7_type_47 : decode cX7_type 47 = .ok (.getfield 55, 3) := by decide +kernel
theorem dX7_type_50 : decode cX7_type 50 = .ok (.lload_n 1, 1) := by decide +kernel
theorem dX7_type_51 : decode cX7_type 51 = .ok (.bipush 8, 2) := by decide +kernel
theorem dX7_type_53 : decode cX7_type 53 = .ok (.iload 4, 2) := by decide +kernel
theorem dX7_type_55 : decode cX7_type 55 = .ok (.imul, 1) := by decide +kernel
theorem dX7_type_56 : decode cX7_type 56 = .ok (.lshr, 1) := by decide +kernel
theorem dX7_type_57 : decode cX7_type 57 = .ok (.ldc2_w 58, 3) := by decide +kernel
theorem dX7_type_60 : decode cX7_type 60 = .ok (.land, 1) := by decide +kernel
theorem dX7_type_61 : decode cX7_type 61 = .ok (.l2i, 1) := by decide +kernel
theorem dX7_type_62 : decode cX7_type 62 = .ok (.iastore, 1) := by decide +kernel
theorem dX7_type_63 : decode cX7_type 63 = .ok (.aload_n 0, 1) := by decide +kernel
theorem dX7_type_64 : decode cX7_type 64 = .ok (.dup, 1) := by decide +kernel
theorem dX7_type_65 : decode cX7_type 65 = .ok (.getfield 55, 3) := by decide +kernel
theorem dX7_type_68 : decode cX7_type 68 = .ok (.iconst 1, 1) := by decide +kernel
theorem dX7_type_69 : decode cX7_type 69 = .ok (.iadd, 1) := by decide +kernel
theorem dX7_type_70 : decode cX7_type 70 = .ok (.putfield 55, 3) := by decide +kernel
theorem dX7_type_73 : decode cX7_type 73 = .ok (.iinc 4 (-1), 3) := by decide +kernel
theorem dX7_type_76 : decode cX7_type 76 = .ok (.goto (-39), 3) := by decide +kernel
theorem dX7_type_79 : decode cX7_type 79 = .ok (.aload_n 0, 1) := by decide +kernel
theorem dX7_type_80 : decode cX7_type 80 = .ok (.getfield 55, 3) := by decide +kernel
theorem dX7_type_83 : decode cX7_type 83 = .ok (.ireturn, 1) := by decide +kernel
theorem dX7_clear_0 : decode cX7_clear 0 = .ok (.aload_n 0, 1) := by decide +kernel
theorem dX7_clear_1 : decode cX7_clear 1 = .ok (.iconst 0, 1) := by decide +kernel
theorem dX7_clear_2 : decode cX7_clear 2 = .ok (.putfield 47, 3) := by decide +kernel
theorem dX7_clear_5 : decode cX7_clear 5 = .ok (.aload_n 0, 1) := by decide +kernel
theorem dX7_clear_6 : decode cX7_clear 6 = .ok (.getfield 55, 3) := by decide +kernel
theorem dX7_clear_9 : decode cX7_clear 9 = .ok (.istore_n 1, 1) := by decide +kernel
theorem dX7_clear_10 : decode cX7_clear 10 = .ok (.aload_n 0, 1) := by decide +kernel
theorem dX7_clear_11 : decode cX7_clear 11 = .ok (.iconst 0, 1) := by decide +kernel
theorem dX7_clear_12 : decode cX7_clear 12 = .ok (.putfield 55, 3) := by decide +kernel
theorem dX7_clear_15 : decode cX7_clear 15 = .ok (.iload_n 1, 1) := by decide +kernel
theorem dX7_clear_16 : decode cX7_clear 16 = .ok (.ireturn, 1) := by decide +kernel
theorem dX7_byteAt_0 : decode cX7_byteAt 0 = .ok (.iload_n 1, 1) := by decide +kernel
theorem dX7_byteAt_1 : decode cX7_byteAt 1 = .ok (.aload_n 0, 1) := by decide +kernel
theorem dX7_byteAt_2 : decode cX7_byteAt 2 = .ok (.getfield 55, 3) := by decide +kernel
theorem dX7_byteAt_5 : decode cX7_byteAt 5 = .ok (.if_icmp .ge 12, 3) := by decide +kernel
theorem dX7_byteAt_8 : decode cX7_byteAt 8 = .ok (.aload_n 0, 1) := by decide +kernel
theorem dX7_byteAt_9 : decode cX7_byteAt 9 = .ok (.getfield 7, 3) := by decide +kernel
theorem dX7_byteAt_12 : decode cX7_byteAt 12 = .ok (.iload_n 1, 1) := by decide +kernel
theorem dX7_byteAt_13 : decode cX7_byteAt 13 = .ok (.iaload, 1) := by decide +kernel
theorem dX7_byteAt_14 : decode cX7_byteAt 14 = .ok (.goto 4, 3) := by decide +kernel
theorem dX7_byteAt_17 : decode cX7_byteAt 17 = .ok (.iconst (-1), 1) := by decide +kernel
theorem dX7_byteAt_18 : decode cX7_byteAt 18 = .ok (.ireturn, 1) := by decide +kernel
theorem dX7_add_0 : decode cX7_add 0 = .ok (.iload_n 2, 1) := by decide +kernel
theorem dX7_add_1 : decode cX7_add 1 = .ok (.ifCond .ne 7, 3) := by decide +kernel
theorem dX7_add_4 : decode cX7_add 4 = .ok (.lload_n 0, 1) := by decide +kernel
theorem dX7_add_5 : decode cX7_add 5 = .ok (.goto 11, 3) := by decide +kernel
theorem dX7_add_8 : decode cX7_add 8 = .ok (.ldc2_w 60, 3) := by decide +kernel
theorem dX7_add_11 : decode cX7_add 11 = .ok (.lload_n 0, 1) := by decide +kernel
theorem dX7_add_12 : decode cX7_add 12 = .ok (.lmul, 1) := by decide +kernel
theorem dX7_add_13 : decode cX7_add 13 = .ok (.iload_n 2, 1) := by decide +kernel
theorem dX7_add_14 : decode cX7_add 14 = .ok (.i2l, 1) := by decide +kernel
theorem dX7_add_15 : decode cX7_add 15 = .ok (.ladd, 1) := by decide +kernel
theorem dX7_add_16 : decode cX7_add 16 = .ok (.lreturn, 1) := by decide +kernel
theorem dX7_named_0 : decode cX7_named 0 = .ok (.lconst 0, 1) := by decide +kernel
theorem dX7_named_1 : decode cX7_named 1 = .ok (.iload_n 0, 1) := by decide +kernel
theorem dX7_named_2 : decode cX7_named 2 = .ok (.invokestatic 62, 3) := by decide +kernel
theorem dX7_named_5 : decode cX7_named 5 = .ok (.iload_n 1, 1) := by decide +kernel
theorem dX7_named_6 : decode cX7_named 6 = .ok (.invokestatic 62, 3) := by decide +kernel
theorem dX7_named_9 : decode cX7_named 9 = .ok (.iload_n 2, 1) := by decide +kernel
theorem dX7_named_10 : decode cX7_named 10 = .ok (.invokestatic 62, 3) := by decide +kernel
theorem dX7_named_13 : decode cX7_named 13 = .ok (.iload_n 3, 1) := by decide +kernel
theorem dX7_named_14 : decode cX7_named 14 = .ok (.invokestatic 62, 3) := by decide +kernel
theorem dX7_named_17 : decode cX7_named 17 = .ok (.iload 4, 2) := by decide +kernel
theorem dX7_named_19 : decode cX7_named 19 = .ok (.invokestatic 62, 3) := by decide +kernel
theorem dX7_named_22 : decode cX7_named 22 = .ok (.lreturn, 1) := by decide +kernel
theorem dX7_wordOf_0 : decode cX7_wordOf 0 = .ok (.lload_n 0, 1) := by decide +kernel
theorem dX7_wordOf_1 : decode cX7_wordOf 1 = .ok (.bipush 99, 2) := by decide +kernel
theorem dX7_wordOf_3 : decode cX7_wordOf 3 = .ok (.bipush 104, 2) := by decide +kernel
theorem dX7_wordOf_5 : decode cX7_wordOf 5 = .ok (.bipush 105, 2) := by decide +kernel
theorem dX7_wordOf_7 : decode cX7_wordOf 7 = .ok (.bipush 108, 2) := by decide +kernel
theorem dX7_wordOf_9 : decode cX7_wordOf 9 = .ok (.bipush 100, 2) := by decide +kernel
theorem dX7_wordOf_11 : decode cX7_wordOf 11 = .ok (.invokestatic 66, 3) := by decide +kernel
theorem dX7_wordOf_14 : decode cX7_wordOf 14 = .ok (.lcmp, 1) := by decide +kernel
theorem dX7_wordOf_15 : decode cX7_wordOf 15 = .ok (.ifCond .ne 7, 3) := by decide +kernel
theorem dX7_wordOf_18 : decode cX7_wordOf 18 = .ok (.iconst 0, 1) := by decide +kernel
theorem dX7_wordOf_19 : decode cX7_wordOf 19 = .ok (.goto 47, 3) := by decide +kernel
theorem dX7_wordOf_22 : decode cX7_wordOf 22 = .ok (.lload_n 0, 1) := by decide +kernel
theorem dX7_wordOf_23 : decode cX7_wordOf 23 = .ok (.bipush 98, 2) := by decide +kernel
theorem dX7_wordOf_25 : decode cX7_wordOf 25 = .ok (.bipush 111, 2) := by decide +kernel
theorem dX7_wordOf_27 : decode cX7_wordOf 27 = .ok (.bipush 111, 2) := by decide +kernel
theorem dX7_wordOf_29 : decode cX7_wordOf 29 = .ok (.bipush 107, 2) := by decide +kernel
theorem dX7_wordOf_31 : decode cX7_wordOf 31 = .ok (.iconst 0, 1) := by decide +kernel
theorem dX7_wordOf_32 : decode cX7_wordOf 32 = .ok (.invokestatic 66, 3) := by decide +kernel
theorem dX7_wordOf_35 : decode cX7_wordOf 35 = .ok (.lcmp, 1) := by decide +kernel
theorem dX7_wordOf_36 : decode cX7_wordOf 36 = .ok (.ifCond .ne 7, 3) := by decide +kernel
theorem dX7_wordOf_39 : decode cX7_wordOf 39 = .ok (.iconst 1, 1) := by decide +kernel
theorem dX7_wordOf_40 : decode cX7_wordOf 40 = .ok (.goto 26, 3) := by decide +kernel
theorem dX7_wordOf_43 : decode cX7_wordOf 43 = .ok (.lload_n 0, 1) := by decide +kernel
theorem dX7_wordOf_44 : decode cX7_wordOf 44 = .ok (.bipush 112, 2) := by decide +kernel
theorem dX7_wordOf_46 : decode cX7_wordOf 46 = .ok (.bipush 108, 2) := by decide +kernel
theorem dX7_wordOf_48 : decode cX7_wordOf 48 = .ok (.bipush 97, 2) := by decide +kernel
theorem dX7_wordOf_50 : decode cX7_wordOf 50 = .ok (.bipush 110, 2) := by decide +kernel
theorem dX7_wordOf_52 : decode cX7_wordOf 52 = .ok (.iconst 0, 1) := by decide +kernel
theorem dX7_wordOf_53 : decode cX7_wordOf 53 = .ok (.invokestatic 66, 3) := by decide +kernel
theorem dX7_wordOf_56 : decode cX7_wordOf 56 = .ok (.lcmp, 1) := by decide +kernel
theorem dX7_wordOf_57 : decode cX7_wordOf 57 = .ok (.ifCond .ne 7, 3) := by decide +kernel
theorem dX7_wordOf_60 : decode cX7_wordOf 60 = .ok (.iconst 2, 1) := by decide +kernel
theorem dX7_wordOf_61 : decode cX7_wordOf 61 = .ok (.goto 5, 3) := by decide +kernel
theorem dX7_wordOf_64 : decode cX7_wordOf 64 = .ok (.bipush (-9), 2) := by decide +kernel
theorem dX7_wordOf_66 : decode cX7_wordOf 66 = .ok (.istore_n 2, 1) := by decide +kernel
theorem dX7_wordOf_67 : decode cX7_wordOf 67 = .ok (.iload_n 2, 1) := by decide +kernel
theorem dX7_wordOf_68 : decode cX7_wordOf 68 = .ok (.bipush (-9), 2) := by decide +kernel
theorem dX7_wordOf_70 : decode cX7_wordOf 70 = .ok (.if_icmp .eq 7, 3) := by decide +kernel
theorem dX7_wordOf_73 : decode cX7_wordOf 73 = .ok (.iload_n 2, 1) := by decide +kernel
theorem dX7_wordOf_74 : decode cX7_wordOf 74 = .ok (.goto 68, 3) := by decide +kernel
theorem dX7_wordOf_77 : decode cX7_wordOf 77 = .ok (.lload_n 0, 1) := by decide +kernel
theorem dX7_wordOf_78 : decode cX7_wordOf 78 = .ok (.bipush 97, 2) := by decide +kernel
theorem dX7_wordOf_80 : decode cX7_wordOf 80 = .ok (.bipush 102, 2) := by decide +kernel
theorem dX7_wordOf_82 : decode cX7_wordOf 82 = .ok (.bipush 116, 2) := by decide +kernel
theorem dX7_wordOf_84 : decode cX7_wordOf 84 = .ok (.bipush 101, 2) := by decide +kernel
theorem dX7_wordOf_86 : decode cX7_wordOf 86 = .ok (.bipush 114, 2) := by decide +kernel
theorem dX7_wordOf_88 : decode cX7_wordOf 88 = .ok (.invokestatic 66, 3) := by decide +kernel
theorem dX7_wordOf_91 : decode cX7_wordOf 91 = .ok (.lcmp, 1) := by decide +kernel
theorem dX7_wordOf_92 : decode cX7_wordOf 92 = .ok (.ifCond .ne 7, 3) := by decide +kernel
theorem dX7_wordOf_95 : decode cX7_wordOf 95 = .ok (.iconst 3, 1) := by decide +kernel
theorem dX7_wordOf_96 : decode cX7_wordOf 96 = .ok (.goto 46, 3) := by decide +kernel
theorem dX7_wordOf_99 : decode cX7_wordOf 99 = .ok (.lload_n 0, 1) := by decide +kernel
theorem dX7_wordOf_100 : decode cX7_wordOf 100 = .ok (.bipush 116, 2) := by decide +kernel
theorem dX7_wordOf_102 : decode cX7_wordOf 102 = .ok (.bipush 104, 2) := by decide +kernel
theorem dX7_wordOf_104 : decode cX7_wordOf 104 = .ok (.bipush 105, 2) := by decide +kernel
theorem dX7_wordOf_106 : decode cX7_wordOf 106 = .ok (.bipush 110, 2) := by decide +kernel
theorem dX7_wordOf_108 : decode cX7_wordOf 108 = .ok (.iconst 0, 1) := by decide +kernel
theorem dX7_wordOf_109 : decode cX7_wordOf 109 = .ok (.invokestatic 66, 3) := by decide +kernel
theorem dX7_wordOf_112 : decode cX7_wordOf 112 = .ok (.lcmp, 1) := by decide +kernel
theorem dX7_wordOf_113 : decode cX7_wordOf 113 = .ok (.ifCond .ne 7, 3) := by decide +kernel
theorem dX7_wordOf_116 : decode cX7_wordOf 116 = .ok (.iconst 4, 1) := by decide +kernel
theorem dX7_wordOf_117 : decode cX7_wordOf 117 = .ok (.goto 25, 3) := by decide +kernel
theorem dX7_wordOf_120 : decode cX7_wordOf 120 = .ok (.lload_n 0, 1) := by decide +kernel
theorem dX7_wordOf_121 : decode cX7_wordOf 121 = .ok (.bipush 112, 2) := by decide +kernel
theorem dX7_wordOf_123 : decode cX7_wordOf 123 = .ok (.bipush 97, 2) := by decide +kernel
theorem dX7_wordOf_125 : decode cX7_wordOf 125 = .ok (.bipush 121, 2) := by decide +kernel
theorem dX7_wordOf_127 : decode cX7_wordOf 127 = .ok (.iconst 0, 1) := by decide +kernel
theorem dX7_wordOf_128 : decode cX7_wordOf 128 = .ok (.iconst 0, 1) := by decide +kernel
theorem dX7_wordOf_129 : decode cX7_wordOf 129 = .ok (.invokestatic 66, 3) := by decide +kernel
theorem dX7_wordOf_132 : decode cX7_wordOf 132 = .ok (.lcmp, 1) := by decide +kernel
theorem dX7_wordOf_133 : decode cX7_wordOf 133 = .ok (.ifCond .ne 7, 3) := by decide +kernel
theorem dX7_wordOf_136 : decode cX7_wordOf 136 = .ok (.iconst 5, 1) := by decide +kernel
theorem dX7_wordOf_137 : decode cX7_wordOf 137 = .ok (.goto 5, 3) := by decide +kernel
theorem dX7_wordOf_140 : decode cX7_wordOf 140 = .ok (.bipush (-9), 2) := by decide +kernel
theorem dX7_wordOf_142 : decode cX7_wordOf 142 = .ok (.ireturn, 1) := by decide +kernel
theorem dX7_advances_0 : decode cX7_advances 0 = .ok (.aload_n 0, 1) := by decide +kernel
theorem dX7_advances_1 : decode cX7_advances 1 = .ok (.aload_n 0, 1) := by decide +kernel
theorem dX7_advances_2 : decode cX7_advances 2 = .ok (.getfield 70, 3) := by decide +kernel
theorem dX7_advances_5 : decode cX7_advances 5 = .ok (.invokevirtual 73, 3) := by decide +kernel
theorem dX7_advances_8 : decode cX7_advances 8 = .ok (.bipush 32, 2) := by decide +kernel
theorem dX7_advances_10 : decode cX7_advances 10 = .ok (.if_icmp .ne 16, 3) := by decide +kernel
theorem dX7_advances_13 : decode cX7_advances 13 = .ok (.aload_n 0, 1) := by decide +kernel
theorem dX7_advances_14 : decode cX7_advances 14 = .ok (.dup, 1) := by decide +kernel
theorem dX7_advances_15 : decode cX7_advances 15 = .ok (.getfield 70, 3) := by decide +kernel
theorem dX7_advances_18 : decode cX7_advances 18 = .ok (.iconst 1, 1) := by decide +kernel
theorem dX7_advances_19 : decode cX7_advances 19 = .ok (.iadd, 1) := by decide +kernel
theorem dX7_advances_20 : decode cX7_advances 20 = .ok (.putfield 70, 3) := by decide +kernel
theorem dX7_advances_23 : decode cX7_advances 23 = .ok (.goto (-23), 3) := by decide +kernel
theorem dX7_advances_26 : decode cX7_advances 26 = .ok (.aload_n 0, 1) := by decide +kernel
theorem dX7_advances_27 : decode cX7_advances 27 = .ok (.aload_n 0, 1) := by decide +kernel
theorem dX7_advances_28 : decode cX7_advances 28 = .ok (.getfield 70, 3) := by decide +kernel
theorem dX7_advances_31 : decode cX7_advances 31 = .ok (.putfield 77, 3) := by decide +kernel
theorem dX7_advances_34 : decode cX7_advances 34 = .ok (.aload_n 0, 1) := by decide +kernel
theorem dX7_advances_35 : decode cX7_advances 35 = .ok (.aload_n 0, 1) := by decide +kernel
theorem dX7_advances_36 : decode cX7_advances 36 = .ok (.getfield 70, 3) := by decide +kernel
theorem dX7_advances_39 : decode cX7_advances 39 = .ok (.invokevirtual 73, 3) := by decide +kernel
theorem dX7_advances_42 : decode cX7_advances 42 = .ok (.istore_n 1, 1) := by decide +kernel
theorem dX7_advances_43 : decode cX7_advances 43 = .ok (.iload_n 1, 1) := by decide +kernel
theorem dX7_advances_44 : decode cX7_advances 44 = .ok (.ifCond .ge 11, 3) := by decide +kernel
theorem dX7_advances_47 : decode cX7_advances 47 = .ok (.aload_n 0, 1) := by decide +kernel
theorem dX7_advances_48 : decode cX7_advances 48 = .ok (.iconst 0, 1) := by decide +kernel
theorem dX7_advances_49 : decode cX7_advances 49 = .ok (.putfield 80, 3) := by decide +kernel
theorem dX7_advances_52 : decode cX7_advances 52 = .ok (.goto 258, 3) := by decide +kernel
theorem dX7_advances_55 : decode cX7_advances 55 = .ok (.iload_n 1, 1) := by decide +kernel
theorem dX7_advances_56 : decode cX7_advances 56 = .ok (.bipush 97, 2) := by decide +kernel
theorem dX7_advances_58 : decode cX7_advances 58 = .ok (.bipush 122, 2) := by decide +kernel
theorem dX7_advances_60 : decode cX7_advances 60 = .ok (.invokestatic 51, 3) := by decide +kernel
theorem dX7_advances_63 : decode cX7_advances 63 = .ok (.ifCond .eq 96, 3) := by decide +kernel
theorem dX7_advances_66 : decode cX7_advances 66 = .ok (.lconst 0, 1) := by decide +kernel
theorem dX7_advances_67 : decode cX7_advances 67 = .ok (.lstore_n 2, 1) := by decide +kernel
theorem dX7_advances_68 : decode cX7_advances 68 = .ok (.aload_n 0, 1) := by decide +kernel
theorem dX7_advances_69 : decode cX7_advances 69 = .ok (.aload_n 0, 1) := by decide +kernel
theorem dX7_advances_70 : decode cX7_advances 70 = .ok (.getfield 70, 3) := by decide +kernel
theorem dX7_advances_73 : decode cX7_advances 73 = .ok (.invokevirtual 73, 3) := by decide +kernel
theorem dX7_advances_76 : decode cX7_advances 76 = .ok (.bipush 97, 2) := by decide +kernel
theorem dX7_advances_78 : decode cX7_advances 78 = .ok (.bipush 122, 2) := by decide +kernel
theorem dX7_advances_80 : decode cX7_advances 80 = .ok (.invokestatic 51, 3) := by decide +kernel
theorem dX7_advances_83 : decode cX7_advances 83 = .ok (.ifCond .eq 47, 3) := by decide +kernel
theorem dX7_advances_86 : decode cX7_advances 86 = .ok (.aload_n 0, 1) := by decide +kernel
theorem dX7_advances_87 : decode cX7_advances 87 = .ok (.getfield 70, 3) := by decide +kernel
theorem dX7_advances_90 : decode cX7_advances 90 = .ok (.aload_n 0, 1) := by decide +kernel
theorem dX7_advances_91 : decode cX7_advances 91 = .ok (.getfield 77, 3) := by decide +kernel
theorem dX7_advances_94 : decode cX7_advances 94 = .ok (.isub, 1) := by decide +kernel
theorem dX7_advances_95 : decode cX7_advances 95 = .ok (.bipush 6, 2) := by decide +kernel
theorem dX7_advances_97 : decode cX7_advances 97 = .ok (.if_icmp .ge 18, 3) := by decide +kernel
theorem dX7_advances_100 : decode cX7_advances 100 = .ok (.lload_n 2, 1) := by decide +kernel
theorem dX7_advances_101 : decode cX7_advances 101 = .ok (.aload_n 0, 1) := by decide +kernel
theorem dX7_advances_102 : decode cX7_advances 102 = .ok (.aload_n 0, 1) := by decide +kernel
theorem dX7_advances_103 : decode cX7_advances 103 = .ok (.getfield 70, 3) := by decide +kernel
theorem dX7_advances_106 : decode cX7_advances 106 = .ok (.invokevirtual 73, 3) := by decide +kernel
theorem dX7_advances_109 : decode cX7_advances 109 = .ok (.invokestatic 62, 3) := by decide +kernel
theorem dX7_advances_112 : decode cX7_advances 112 = .ok (.goto 4, 3) := by decide +kernel
theorem dX7_advances_115 : decode cX7_advances 115 = .ok (.lload_n 2, 1) := by decide +kernel
theorem dX7_advances_116 : decode cX7_advances 116 = .ok (.lstore_n 2, 1) := by decide +kernel
theorem dX7_advances_117 : decode cX7_advances 117 = .ok (.aload_n 0, 1) := by decide +kernel
theorem dX7_advances_118 : decode cX7_advances 118 = .ok (.dup, 1) := by decide +kernel
theorem dX7_advances_119 : decode cX7_advances 119 = .ok (.getfield 70, 3) := by decide +kernel
theorem dX7_advances_122 : decode cX7_advances 122 = .ok (.iconst 1, 1) := by decide +kernel
theorem dX7_advances_123 : decode cX7_advances 123 = .ok (.iadd, 1) := by decide +kernel
theorem dX7_advances_124 : decode cX7_advances 124 = .ok (.putfield 70, 3) := by decide +kernel
theorem dX7_advances_127 : decode cX7_advances 127 = .ok (.goto (-59), 3) := by decide +kernel
theorem dX7_advances_130 : decode cX7_advances 130 = .ok (.aload_n 0, 1) := by decide +kernel
theorem dX7_advances_131 : decode cX7_advances 131 = .ok (.lload_n 2, 1) := by decide +kernel
theorem dX7_advances_132 : decode cX7_advances 132 = .ok (.invokestatic 83, 3) := by decide +kernel
theorem dX7_advances_135 : decode cX7_advances 135 = .ok (.putfield 87, 3) := by decide +kernel
theorem dX7_advances_138 : decode cX7_advances 138 = .ok (.aload_n 0, 1) := by decide +kernel
theorem dX7_advances_139 : decode cX7_advances 139 = .ok (.aload_n 0, 1) := by decide +kernel
theorem dX7_advances_140 : decode cX7_advances 140 = .ok (.getfield 87, 3) := by decide +kernel
theorem dX7_advances_143 : decode cX7_advances 143 = .ok (.bipush (-9), 2) := by decide +kernel
theorem dX7_advances_145 : decode cX7_advances 145 = .ok (.if_icmp .ne 7, 3) := by decide +kernel
theorem dX7_advances_148 : decode cX7_advances 148 = .ok (.iconst 4, 1) := by decide +kernel
theorem dX7_advances_149 : decode cX7_advances 149 = .ok (.goto 4, 3) := by decide +kernel
theorem dX7_advances_152 : decode cX7_advances 152 = .ok (.iconst 1, 1) := by decide +kernel
theorem dX7_advances_153 : decode cX7_advances 153 = .ok (.putfield 80, 3) := by decide +kernel
theorem dX7_advances_156 : decode cX7_advances 156 = .ok (.goto 154, 3) := by decide +kernel
theorem dX7_advances_159 : decode cX7_advances 159 = .ok (.iload_n 1, 1) := by decide +kernel
theorem dX7_advances_160 : decode cX7_advances 160 = .ok (.bipush 48, 2) := by decide +kernel
theorem dX7_advances_162 : decode cX7_advances 162 = .ok (.bipush 57, 2) := by decide +kernel
theorem dX7_advances_164 : decode cX7_advances 164 = .ok (.invokestatic 51, 3) := by decide +kernel
theorem dX7_advances_167 : decode cX7_advances 167 = .ok (.ifCond .eq 118, 3) := by decide +kernel
theorem dX7_advances_170 : decode cX7_advances 170 = .ok (.aload_n 0, 1) := by decide +kernel
theorem dX7_advances_171 : decode cX7_advances 171 = .ok (.iconst 0, 1) := by decide +kernel
theorem dX7_advances_172 : decode cX7_advances 172 = .ok (.putfield 87, 3) := by decide +kernel
theorem dX7_advances_175 : decode cX7_advances 175 = .ok (.aload_n 0, 1) := by decide +kernel
theorem dX7_advances_176 : decode cX7_advances 176 = .ok (.aload_n 0, 1) := by decide +kernel
theorem dX7_advances_177 : decode cX7_advances 177 = .ok (.getfield 70, 3) := by decide +kernel
theorem dX7_advances_180 : decode cX7_advances 180 = .ok (.invokevirtual 73, 3) := by decide +kernel
theorem dX7_advances_183 : decode cX7_advances 183 = .ok (.bipush 48, 2) := by decide +kernel
theorem dX7_advances_185 : decode cX7_advances 185 = .ok (.bipush 57, 2) := by decide +kernel
theorem dX7_advances_187 : decode cX7_advances 187 = .ok (.invokestatic 51, 3) := by decide +kernel
theorem dX7_advances_190 : decode cX7_advances 190 = .ok (.ifCond .eq 55, 3) := by decide +kernel
theorem dX7_advances_193 : decode cX7_advances 193 = .ok (.aload_n 0, 1) := by decide +kernel
theorem dX7_advances_194 : decode cX7_advances 194 = .ok (.aload_n 0, 1) := by decide +kernel
theorem dX7_advances_195 : decode cX7_advances 195 = .ok (.getfield 87, 3) := by decide +kernel
theorem dX7_advances_198 : decode cX7_advances 198 = .ok (.bipush 100, 2) := by decide +kernel
theorem dX7_advances_200 : decode cX7_advances 200 = .ok (.if_icmp .le 10, 3) := by decide +kernel
theorem dX7_advances_203 : decode cX7_advances 203 = .ok (.aload_n 0, 1) := by decide +kernel
theorem dX7_advances_204 : decode cX7_advances 204 = .ok (.getfield 87, 3) := by decide +kernel
theorem dX7_advances_207 : decode cX7_advances 207 = .ok (.goto 22, 3) := by decide +kernel
theorem dX7_advances_210 : decode cX7_advances 210 = .ok (.bipush 10, 2) := by decide +kernel
theorem dX7_advances_212 : decode cX7_advances 212 = .ok (.aload_n 0, 1) := by decide +kernel
theorem dX7_advances_213 : decode cX7_advances 213 = .ok (.getfield 87, 3) := by decide +kernel
theorem dX7_advances_216 : decode cX7_advances 216 = .ok (.imul, 1) := by decide +kernel
theorem dX7_advances_217 : decode cX7_advances 217 = .ok (.aload_n 0, 1) := by decide +kernel
theorem dX7_advances_218 : decode cX7_advances 218 = .ok (.aload_n 0, 1) := by decide +kernel
theorem dX7_advances_219 : decode cX7_advances 219 = .ok (.getfield 70, 3) := by decide +kernel
theorem dX7_advances_222 : decode cX7_advances 222 = .ok (.invokevirtual 73, 3) := by decide +kernel
theorem dX7_advances_225 : decode cX7_advances 225 = .ok (.iadd, 1) := by decide +kernel
theorem dX7_advances_226 : decode cX7_advances 226 = .ok (.bipush 48, 2) := by decide +kernel
theorem dX7_advances_228 : decode cX7_advances 228 = .ok (.isub, 1) := by decide +kernel
theorem dX7_advances_229 : decode cX7_advances 229 = .ok (.putfield 87, 3) := by decide +kernel
theorem dX7_advances_232 : decode cX7_advances 232 = .ok (.aload_n 0, 1) := by decide +kernel
theorem dX7_advances_233 : decode cX7_advances 233 = .ok (.dup, 1) := by decide +kernel
theorem dX7_advances_234 : decode cX7_advances 234 = .ok (.getfield 70, 3) := by decide +kernel
theorem dX7_advances_237 : decode cX7_advances 237 = .ok (.iconst 1, 1) := by decide +kernel
theorem dX7_advances_238 : decode cX7_advances 238 = .ok (.iadd, 1) := by decide +kernel
theorem dX7_advances_239 : decode cX7_advances 239 = .ok (.putfield 70, 3) := by decide +kernel
theorem dX7_advances_242 : decode cX7_advances 242 = .ok (.goto (-67), 3) := by decide +kernel
theorem dX7_advances_245 : decode cX7_advances 245 = .ok (.aload_n 0, 1) := by decide +kernel
theorem dX7_advances_246 : decode cX7_advances 246 = .ok (.aload_n 0, 1) := by decide +kernel
theorem dX7_advances_247 : decode cX7_advances 247 = .ok (.getfield 87, 3) := by decide +kernel
theorem dX7_advances_250 : decode cX7_advances 250 = .ok (.bipush 100, 2) := by decide +kernel
theorem dX7_advances_252 : decode cX7_advances 252 = .ok (.if_icmp .gt 22, 3) := by decide +kernel
theorem dX7_advances_255 : decode cX7_advances 255 = .ok (.iload_n 1, 1) := by decide +kernel
theorem dX7_advances_256 : decode cX7_advances 256 = .ok (.bipush 48, 2) := by decide +kernel
theorem dX7_advances_258 : decode cX7_advances 258 = .ok (.if_icmp .ne 20, 3) := by decide +kernel
theorem dX7_advances_261 : decode cX7_advances 261 = .ok (.aload_n 0, 1) := by decide +kernel
theorem dX7_advances_262 : decode cX7_advances 262 = .ok (.getfield 70, 3) := by decide +kernel
theorem dX7_advances_265 : decode cX7_advances 265 = .ok (.aload_n 0, 1) := by decide +kernel
theorem dX7_advances_266 : decode cX7_advances 266 = .ok (.getfield 77, 3) := by decide +kernel
theorem dX7_advances_269 : decode cX7_advances 269 = .ok (.isub, 1) := by decide +kernel
theorem dX7_advances_270 : decode cX7_advances 270 = .ok (.iconst 1, 1) := by decide +kernel
theorem dX7_advances_271 : decode cX7_advances 271 = .ok (.if_icmp .le 7, 3) := by decide +kernel
theorem dX7_advances_274 : decode cX7_advances 274 = .ok (.iconst 4, 1) := by decide +kernel
theorem dX7_advances_275 : decode cX7_advances 275 = .ok (.goto 4, 3) := by decide +kernel
theorem dX7_advances_278 : decode cX7_advances 278 = .ok (.iconst 2, 1) := by decide +kernel
theorem dX7_advances_279 : decode cX7_advances 279 = .ok (.putfield 80, 3) := by decide +kernel
theorem dX7_advances_282 : decode cX7_advances 282 = .ok (.goto 28, 3) := by decide +kernel
theorem dX7_advances_285 : decode cX7_advances 285 = .ok (.aload_n 0, 1) := by decide +kernel
theorem dX7_advances_286 : decode cX7_advances 286 = .ok (.dup, 1) := by decide +kernel
theorem dX7_advances_287 : decode cX7_advances 287 = .ok (.getfield 70, 3) := by decide +kernel
theorem dX7_advances_290 : decode cX7_advances 290 = .ok (.iconst 1, 1) := by decide +kernel
theorem dX7_advances_291 : decode cX7_advances 291 = .ok (.iadd, 1) := by decide +kernel
theorem dX7_advances_292 : decode cX7_advances 292 = .ok (.putfield 70, 3) := by decide +kernel
theorem dX7_advances_295 : decode cX7_advances 295 = .ok (.aload_n 0, 1) := by decide +kernel
theorem dX7_advances_296 : decode cX7_advances 296 = .ok (.iload_n 1, 1) := by decide +kernel
theorem dX7_advances_297 : decode cX7_advances 297 = .ok (.bipush 59, 2) := by decide +kernel
theorem dX7_advances_299 : decode cX7_advances 299 = .ok (.if_icmp .ne 7, 3) := by decide +kernel
theorem dX7_advances_302 : decode cX7_advances 302 = .ok (.iconst 3, 1) := by decide +kernel
theorem dX7_advances_303 : decode cX7_advances 303 = .ok (.goto 4, 3) := by decide +kernel
theorem dX7_advances_306 : decode cX7_advances 306 = .ok (.iconst 4, 1) := by decide +kernel
theorem dX7_advances_307 : decode cX7_advances 307 = .ok (.putfield 80, 3) := by decide +kernel
theorem dX7_advances_310 : decode cX7_advances 310 = .ok (.return_, 1) := by decide +kernel
theorem dX7_isWell_0 : decode cX7_isWell 0 = .ok (.aload_n 0, 1) := by decide +kernel
theorem dX7_isWell_1 : decode cX7_isWell 1 = .ok (.getfield 90, 3) := by decide +kernel
theorem dX7_isWell_4 : decode cX7_isWell 4 = .ok (.ifCond .ge 7, 3) := by decide +kernel
theorem dX7_isWell_7 : decode cX7_isWell 7 = .ok (.iconst 1, 1) := by decide +kernel
theorem dX7_isWell_8 : decode cX7_isWell 8 = .ok (.goto 4, 3) := by decide +kernel
theorem dX7_isWell_11 : decode cX7_isWell 11 = .ok (.iconst 0, 1) := by decide +kernel
theorem dX7_isWell_12 : decode cX7_isWell 12 = .ok (.ireturn, 1) := by decide +kernel
theorem dX7_takes_0 : decode cX7_takes 0 = .ok (.aload_n 0, 1) := by decide +kernel
theorem dX7_takes_1 : decode cX7_takes 1 = .ok (.invokevirtual 93, 3) := by decide +kernel
theorem dX7_takes_4 : decode cX7_takes 4 = .ok (.ifCond .ne 5, 3) := by decide +kernel
theorem dX7_takes_7 : decode cX7_takes 7 = .ok (.iconst 0, 1) := by decide +kernel
theorem dX7_takes_8 : decode cX7_takes 8 = .ok (.ireturn, 1) := by decide +kernel
theorem dX7_takes_9 : decode cX7_takes 9 = .ok (.iload_n 1, 1) := by decide +kernel
theorem dX7_takes_10 : decode cX7_takes 10 = .ok (.ifCond .ne 13, 3) := by decide +kernel
theorem dX7_takes_13 : decode cX7_takes 13 = .ok (.aload_n 0, 1) := by decide +kernel
theorem dX7_takes_14 : decode cX7_takes 14 = .ok (.aload_n 0, 1) := by decide +kernel
theorem dX7_takes_15 : decode cX7_takes 15 = .ok (.getfield 77, 3) := by decide +kernel
theorem dX7_takes_18 : decode cX7_takes 18 = .ok (.putfield 90, 3) := by decide +kernel
theorem dX7_takes_21 : decode cX7_takes 21 = .ok (.iconst 0, 1) := by decide +kernel
theorem dX7_takes_22 : decode cX7_takes 22 = .ok (.ireturn, 1) := by decide +kernel
theorem dX7_takes_23 : decode cX7_takes 23 = .ok (.aload_n 0, 1) := by decide +kernel
theorem dX7_takes_24 : decode cX7_takes 24 = .ok (.getfield 87, 3) := by decide +kernel
theorem dX7_takes_27 : decode cX7_takes 27 = .ok (.istore_n 2, 1) := by decide +kernel
theorem dX7_takes_28 : decode cX7_takes 28 = .ok (.aload_n 0, 1) := by decide +kernel
theorem dX7_takes_29 : decode cX7_takes 29 = .ok (.invokevirtual 97, 3) := by decide +kernel
theorem dX7_takes_32 : decode cX7_takes 32 = .ok (.iload_n 2, 1) := by decide +kernel
theorem dX7_takes_33 : decode cX7_takes 33 = .ok (.ireturn, 1) := by decide +kernel
theorem dX7_number_0 : decode cX7_number 0 = .ok (.aload_n 0, 1) := by decide +kernel
theorem dX7_number_1 : decode cX7_number 1 = .ok (.aload_n 0, 1) := by decide +kernel
theorem dX7_number_2 : decode cX7_number 2 = .ok (.getfield 80, 3) := by decide +kernel
theorem dX7_number_5 : decode cX7_number 5 = .ok (.iconst 2, 1) := by decide +kernel
theorem dX7_number_6 : decode cX7_number 6 = .ok (.if_icmp .ne 19, 3) := by decide +kernel
theorem dX7_number_9 : decode cX7_number 9 = .ok (.aload_n 0, 1) := by decide +kernel
theorem dX7_number_10 : decode cX7_number 10 = .ok (.getfield 87, 3) := by decide +kernel
theorem dX7_number_13 : decode cX7_number 13 = .ok (.iload_n 1, 1) := by decide +kernel
theorem dX7_number_14 : decode cX7_number 14 = .ok (.iload_n 2, 1) := by decide +kernel
theorem dX7_number_15 : decode cX7_number 15 = .ok (.invokestatic 51, 3) := by decide +kernel
theorem dX7_number_18 : decode cX7_number 18 = .ok (.ifCond .eq 7, 3) := by decide +kernel
theorem dX7_number_21 : decode cX7_number 21 = .ok (.iconst 1, 1) := by decide +kernel
theorem dX7_number_22 : decode cX7_number 22 = .ok (.goto 4, 3) := by decide +kernel
theorem dX7_number_25 : decode cX7_number 25 = .ok (.iconst 0, 1) := by decide +kernel
theorem dX7_number_26 : decode cX7_number 26 = .ok (.invokevirtual 100, 3) := by decide +kernel
theorem dX7_number_29 : decode cX7_number 29 = .ok (.ireturn, 1) := by decide +kernel
theorem dX7_takesWord_0 : decode cX7_takesWord 0 = .ok (.aload_n 0, 1) := by decide +kernel
theorem dX7_takesWord_1 : decode cX7_takesWord 1 = .ok (.invokevirtual 93, 3) := by decide +kernel
theorem dX7_takesWord_4 : decode cX7_takesWord 4 = .ok (.ifCond .eq 23, 3) := by decide +kernel
theorem dX7_takesWord_7 : decode cX7_takesWord 7 = .ok (.aload_n 0, 1) := by decide +kernel
theorem dX7_takesWord_8 : decode cX7_takesWord 8 = .ok (.getfield 80, 3) := by decide +kernel
theorem dX7_takesWord_11 : decode cX7_takesWord 11 = .ok (.iconst 1, 1) := by decide +kernel
theorem dX7_takesWord_12 : decode cX7_takesWord 12 = .ok (.if_icmp .ne 15, 3) := by decide +kernel
theorem dX7_takesWord_15 : decode cX7_takesWord 15 = .ok (.aload_n 0, 1) := by decide +kernel
theorem dX7_takesWord_16 : decode cX7_takesWord 16 = .ok (.getfield 87, 3) := by decide +kernel
theorem dX7_takesWord_19 : decode cX7_takesWord 19 = .ok (.iload_n 1, 1) := by decide +kernel
theorem dX7_takesWord_20 : decode cX7_takesWord 20 = .ok (.if_icmp .ne 7, 3) := by decide +kernel
theorem dX7_takesWord_23 : decode cX7_takesWord 23 = .ok (.iconst 1, 1) := by decide +kernel
theorem dX7_takesWord_24 : decode cX7_takesWord 24 = .ok (.goto 4, 3) := by decide +kernel
theorem dX7_takesWord_27 : decode cX7_takesWord 27 = .ok (.iconst 0, 1) := by decide +kernel
theorem dX7_takesWord_28 : decode cX7_takesWord 28 = .ok (.istore_n 2, 1) := by decide +kernel
theorem dX7_takesWord_29 : decode cX7_takesWord 29 = .ok (.iload_n 2, 1) := by decide +kernel
theorem dX7_takesWord_30 : decode cX7_takesWord 30 = .ok (.ifCond .eq 7, 3) := by decide +kernel
theorem dX7_takesWord_33 : decode cX7_takesWord 33 = .ok (.aload_n 0, 1) := by decide +kernel
theorem dX7_takesWord_34 : decode cX7_takesWord 34 = .ok (.invokevirtual 97, 3) := by decide +kernel
theorem dX7_takesWord_37 : decode cX7_takesWord 37 = .ok (.iload_n 2, 1) := by decide +kernel
theorem dX7_takesWord_38 : decode cX7_takesWord 38 = .ok (.ireturn, 1) := by decide +kernel
theorem dX7_drafts_0 : decode cX7_drafts 0 = .ok (.iconst 0, 1) := by decide +kernel
theorem dX7_drafts_1 : decode cX7_drafts 1 = .ok (.istore_n 1, 1) := by decide +kernel
theorem dX7_drafts_2 : decode cX7_drafts 2 = .ok (.iload_n 1, 1) := by decide +kernel
theorem dX7_drafts_3 : decode cX7_drafts 3 = .ok (.bipush 42, 2) := by decide +kernel
theorem dX7_drafts_5 : decode cX7_drafts 5 = .ok (.if_icmp .ge 29, 3) := by decide +kernel
theorem dX7_drafts_8 : decode cX7_drafts 8 = .ok (.aload_n 0, 1) := by decide +kernel
theorem dX7_drafts_9 : decode cX7_drafts 9 = .ok (.getfield 13, 3) := by decide +kernel
theorem dX7_drafts_12 : decode cX7_drafts 12 = .ok (.bipush 42, 2) := by decide +kernel
theorem dX7_drafts_14 : decode cX7_drafts 14 = .ok (.iload_n 1, 1) := by decide +kernel
theorem dX7_drafts_15 : decode cX7_drafts 15 = .ok (.iadd, 1) := by decide +kernel
theorem dX7_drafts_16 : decode cX7_drafts 16 = .ok (.iload_n 1, 1) := by decide +kernel
theorem dX7_drafts_17 : decode cX7_drafts 17 = .ok (.bipush 38, 2) := by decide +kernel
theorem dX7_drafts_19 : decode cX7_drafts 19 = .ok (.if_icmp .ne 7, 3) := by decide +kernel
theorem dX7_drafts_22 : decode cX7_drafts 22 = .ok (.iconst 1, 1) := by decide +kernel
theorem dX7_drafts_23 : decode cX7_drafts 23 = .ok (.goto 4, 3) := by decide +kernel
theorem dX7_drafts_26 : decode cX7_drafts 26 = .ok (.iconst 0, 1) := by decide +kernel
theorem dX7_drafts_27 : decode cX7_drafts 27 = .ok (.iastore, 1) := by decide +kernel
theorem dX7_drafts_28 : decode cX7_drafts 28 = .ok (.iinc 1 1, 3) := by decide +kernel
theorem dX7_drafts_31 : decode cX7_drafts 31 = .ok (.goto (-29), 3) := by decide +kernel
theorem dX7_drafts_34 : decode cX7_drafts 34 = .ok (.return_, 1) := by decide +kernel
theorem dX7_readsItem_0 : decode cX7_readsItem 0 = .ok (.iload_n 1, 1) := by decide +kernel
theorem dX7_readsItem_1 : decode cX7_readsItem 1 = .ok (.ifCond .ne 73, 3) := by decide +kernel
theorem dX7_readsItem_4 : decode cX7_readsItem 4 = .ok (.bipush 42, 2) := by decide +kernel
theorem dX7_readsItem_6 : decode cX7_readsItem 6 = .ok (.iconst 3, 1) := by decide +kernel
theorem dX7_readsItem_7 : decode cX7_readsItem 7 = .ok (.aload_n 0, 1) := by decide +kernel
theorem dX7_readsItem_8 : decode cX7_readsItem 8 = .ok (.getfield 13, 3) := by decide +kernel
end
section
theorem dX7_readsItem_11 : decode cX7_readsItem 11 = .ok (.bipush 82, 2) := by decide +kernel
theorem dX7_readsItem_13 : decode cX7_readsItem 13 = .ok (.iaload, 1) := by decide +kernel
theorem dX7_readsItem_14 : decode cX7_readsItem 14 = .ok (.imul, 1) := by decide +kernel
theorem dX7_readsItem_15 : decode cX7_readsItem 15 = .ok (.iadd, 1) := by decide +kernel
theorem dX7_readsItem_16 : decode cX7_readsItem 16 = .ok (.istore_n 2, 1) := by decide +kernel
theorem dX7_readsItem_17 : decode cX7_readsItem 17 = .ok (.aload_n 0, 1) := by decide +kernel
theorem dX7_readsItem_18 : decode cX7_readsItem 18 = .ok (.getfield 13, 3) := by decide +kernel
theorem dX7_readsItem_21 : decode cX7_readsItem 21 = .ok (.iload_n 2, 1) := by decide +kernel
theorem dX7_readsItem_22 : decode cX7_readsItem 22 = .ok (.aload_n 0, 1) := by decide +kernel
theorem dX7_readsItem_23 : decode cX7_readsItem 23 = .ok (.iconst 0, 1) := by decide +kernel
theorem dX7_readsItem_24 : decode cX7_readsItem 24 = .ok (.bipush 100, 2) := by decide +kernel
theorem dX7_readsItem_26 : decode cX7_readsItem 26 = .ok (.invokevirtual 104, 3) := by decide +kernel
theorem dX7_readsItem_29 : decode cX7_readsItem 29 = .ok (.iastore, 1) := by decide +kernel
theorem dX7_readsItem_30 : decode cX7_readsItem 30 = .ok (.aload_n 0, 1) := by decide +kernel
theorem dX7_readsItem_31 : decode cX7_readsItem 31 = .ok (.getfield 13, 3) := by decide +kernel
theorem dX7_readsItem_34 : decode cX7_readsItem 34 = .ok (.iload_n 2, 1) := by decide +kernel
theorem dX7_readsItem_35 : decode cX7_readsItem 35 = .ok (.iconst 1, 1) := by decide +kernel
theorem dX7_readsItem_36 : decode cX7_readsItem 36 = .ok (.iadd, 1) := by decide +kernel
theorem dX7_readsItem_37 : decode cX7_readsItem 37 = .ok (.aload_n 0, 1) := by decide +kernel
theorem dX7_readsItem_38 : decode cX7_readsItem 38 = .ok (.iconst 1, 1) := by decide +kernel
theorem dX7_readsItem_39 : decode cX7_readsItem 39 = .ok (.bipush 9, 2) := by decide +kernel
theorem dX7_readsItem_41 : decode cX7_readsItem 41 = .ok (.invokevirtual 104, 3) := by decide +kernel
theorem dX7_readsItem_44 : decode cX7_readsItem 44 = .ok (.iastore, 1) := by decide +kernel
theorem dX7_readsItem_45 : decode cX7_readsItem 45 = .ok (.aload_n 0, 1) := by decide +kernel
theorem dX7_readsItem_46 : decode cX7_readsItem 46 = .ok (.getfield 13, 3) := by decide +kernel
theorem dX7_readsItem_49 : decode cX7_readsItem 49 = .ok (.iload_n 2, 1) := by decide +kernel
theorem dX7_readsItem_50 : decode cX7_readsItem 50 = .ok (.iconst 2, 1) := by decide +kernel
theorem dX7_readsItem_51 : decode cX7_readsItem 51 = .ok (.iadd, 1) := by decide +kernel
theorem dX7_readsItem_52 : decode cX7_readsItem 52 = .ok (.aload_n 0, 1) := by decide +kernel
theorem dX7_readsItem_53 : decode cX7_readsItem 53 = .ok (.iconst 0, 1) := by decide +kernel
theorem dX7_readsItem_54 : decode cX7_readsItem 54 = .ok (.bipush 9, 2) := by decide +kernel
theorem dX7_readsItem_56 : decode cX7_readsItem 56 = .ok (.invokevirtual 104, 3) := by decide +kernel
theorem dX7_readsItem_59 : decode cX7_readsItem 59 = .ok (.iastore, 1) := by decide +kernel
theorem dX7_readsItem_60 : decode cX7_readsItem 60 = .ok (.aload_n 0, 1) := by decide +kernel
theorem dX7_readsItem_61 : decode cX7_readsItem 61 = .ok (.getfield 13, 3) := by decide +kernel
theorem dX7_readsItem_64 : decode cX7_readsItem 64 = .ok (.bipush 82, 2) := by decide +kernel
theorem dX7_readsItem_66 : decode cX7_readsItem 66 = .ok (.dup2, 1) := by decide +kernel
theorem dX7_readsItem_67 : decode cX7_readsItem 67 = .ok (.iaload, 1) := by decide +kernel
theorem dX7_readsItem_68 : decode cX7_readsItem 68 = .ok (.iconst 1, 1) := by decide +kernel
theorem dX7_readsItem_69 : decode cX7_readsItem 69 = .ok (.iadd, 1) := by decide +kernel
theorem dX7_readsItem_70 : decode cX7_readsItem 70 = .ok (.iastore, 1) := by decide +kernel
theorem dX7_readsItem_71 : decode cX7_readsItem 71 = .ok (.goto 204, 3) := by decide +kernel
theorem dX7_readsItem_74 : decode cX7_readsItem 74 = .ok (.iload_n 1, 1) := by decide +kernel
theorem dX7_readsItem_75 : decode cX7_readsItem 75 = .ok (.iconst 1, 1) := by decide +kernel
theorem dX7_readsItem_76 : decode cX7_readsItem 76 = .ok (.if_icmp .ne 67, 3) := by decide +kernel
theorem dX7_readsItem_79 : decode cX7_readsItem 79 = .ok (.bipush 66, 2) := by decide +kernel
theorem dX7_readsItem_81 : decode cX7_readsItem 81 = .ok (.iconst 3, 1) := by decide +kernel
theorem dX7_readsItem_82 : decode cX7_readsItem 82 = .ok (.aload_n 0, 1) := by decide +kernel
theorem dX7_readsItem_83 : decode cX7_readsItem 83 = .ok (.getfield 13, 3) := by decide +kernel
theorem dX7_readsItem_86 : decode cX7_readsItem 86 = .ok (.bipush 83, 2) := by decide +kernel
theorem dX7_readsItem_88 : decode cX7_readsItem 88 = .ok (.iaload, 1) := by decide +kernel
theorem dX7_readsItem_89 : decode cX7_readsItem 89 = .ok (.imul, 1) := by decide +kernel
theorem dX7_readsItem_90 : decode cX7_readsItem 90 = .ok (.iadd, 1) := by decide +kernel
theorem dX7_readsItem_91 : decode cX7_readsItem 91 = .ok (.istore_n 2, 1) := by decide +kernel
theorem dX7_readsItem_92 : decode cX7_readsItem 92 = .ok (.aload_n 0, 1) := by decide +kernel
theorem dX7_readsItem_93 : decode cX7_readsItem 93 = .ok (.getfield 13, 3) := by decide +kernel
theorem dX7_readsItem_96 : decode cX7_readsItem 96 = .ok (.iload_n 2, 1) := by decide +kernel
theorem dX7_readsItem_97 : decode cX7_readsItem 97 = .ok (.aload_n 0, 1) := by decide +kernel
theorem dX7_readsItem_98 : decode cX7_readsItem 98 = .ok (.iconst 1, 1) := by decide +kernel
theorem dX7_readsItem_99 : decode cX7_readsItem 99 = .ok (.bipush 9, 2) := by decide +kernel
theorem dX7_readsItem_101 : decode cX7_readsItem 101 = .ok (.invokevirtual 104, 3) := by decide +kernel
theorem dX7_readsItem_104 : decode cX7_readsItem 104 = .ok (.iastore, 1) := by decide +kernel
theorem dX7_readsItem_105 : decode cX7_readsItem 105 = .ok (.aload_n 0, 1) := by decide +kernel
theorem dX7_readsItem_106 : decode cX7_readsItem 106 = .ok (.getfield 13, 3) := by decide +kernel
theorem dX7_readsItem_109 : decode cX7_readsItem 109 = .ok (.iload_n 2, 1) := by decide +kernel
theorem dX7_readsItem_110 : decode cX7_readsItem 110 = .ok (.iconst 1, 1) := by decide +kernel
theorem dX7_readsItem_111 : decode cX7_readsItem 111 = .ok (.iadd, 1) := by decide +kernel
theorem dX7_readsItem_112 : decode cX7_readsItem 112 = .ok (.aload_n 0, 1) := by decide +kernel
theorem dX7_readsItem_113 : decode cX7_readsItem 113 = .ok (.iconst 0, 1) := by decide +kernel
theorem dX7_readsItem_114 : decode cX7_readsItem 114 = .ok (.bipush 9, 2) := by decide +kernel
theorem dX7_readsItem_116 : decode cX7_readsItem 116 = .ok (.invokevirtual 104, 3) := by decide +kernel
theorem dX7_readsItem_119 : decode cX7_readsItem 119 = .ok (.iastore, 1) := by decide +kernel
theorem dX7_readsItem_120 : decode cX7_readsItem 120 = .ok (.aload_n 0, 1) := by decide +kernel
theorem dX7_readsItem_121 : decode cX7_readsItem 121 = .ok (.getfield 13, 3) := by decide +kernel
theorem dX7_readsItem_124 : decode cX7_readsItem 124 = .ok (.iload_n 2, 1) := by decide +kernel
theorem dX7_readsItem_125 : decode cX7_readsItem 125 = .ok (.iconst 2, 1) := by decide +kernel
theorem dX7_readsItem_126 : decode cX7_readsItem 126 = .ok (.iadd, 1) := by decide +kernel
theorem dX7_readsItem_127 : decode cX7_readsItem 127 = .ok (.iconst 0, 1) := by decide +kernel
theorem dX7_readsItem_128 : decode cX7_readsItem 128 = .ok (.iastore, 1) := by decide +kernel
theorem dX7_readsItem_129 : decode cX7_readsItem 129 = .ok (.aload_n 0, 1) := by decide +kernel
theorem dX7_readsItem_130 : decode cX7_readsItem 130 = .ok (.getfield 13, 3) := by decide +kernel
theorem dX7_readsItem_133 : decode cX7_readsItem 133 = .ok (.bipush 83, 2) := by decide +kernel
theorem dX7_readsItem_135 : decode cX7_readsItem 135 = .ok (.dup2, 1) := by decide +kernel
theorem dX7_readsItem_136 : decode cX7_readsItem 136 = .ok (.iaload, 1) := by decide +kernel
theorem dX7_readsItem_137 : decode cX7_readsItem 137 = .ok (.iconst 1, 1) := by decide +kernel
theorem dX7_readsItem_138 : decode cX7_readsItem 138 = .ok (.iadd, 1) := by decide +kernel
theorem dX7_readsItem_139 : decode cX7_readsItem 139 = .ok (.iastore, 1) := by decide +kernel
theorem dX7_readsItem_140 : decode cX7_readsItem 140 = .ok (.goto 135, 3) := by decide +kernel
theorem dX7_readsItem_143 : decode cX7_readsItem 143 = .ok (.iload_n 1, 1) := by decide +kernel
theorem dX7_readsItem_144 : decode cX7_readsItem 144 = .ok (.iconst 2, 1) := by decide +kernel
theorem dX7_readsItem_145 : decode cX7_readsItem 145 = .ok (.if_icmp .ne 86, 3) := by decide +kernel
theorem dX7_readsItem_148 : decode cX7_readsItem 148 = .ok (.aload_n 0, 1) := by decide +kernel
theorem dX7_readsItem_149 : decode cX7_readsItem 149 = .ok (.getfield 13, 3) := by decide +kernel
theorem dX7_readsItem_152 : decode cX7_readsItem 152 = .ok (.bipush 78, 2) := by decide +kernel
theorem dX7_readsItem_154 : decode cX7_readsItem 154 = .ok (.aload_n 0, 1) := by decide +kernel
theorem dX7_readsItem_155 : decode cX7_readsItem 155 = .ok (.iconst 0, 1) := by decide +kernel
theorem dX7_readsItem_156 : decode cX7_readsItem 156 = .ok (.bipush 99, 2) := by decide +kernel
theorem dX7_readsItem_158 : decode cX7_readsItem 158 = .ok (.invokevirtual 104, 3) := by decide +kernel
theorem dX7_readsItem_161 : decode cX7_readsItem 161 = .ok (.iastore, 1) := by decide +kernel
theorem dX7_readsItem_162 : decode cX7_readsItem 162 = .ok (.aload_n 0, 1) := by decide +kernel
theorem dX7_readsItem_163 : decode cX7_readsItem 163 = .ok (.getfield 13, 3) := by decide +kernel
theorem dX7_readsItem_166 : decode cX7_readsItem 166 = .ok (.bipush 79, 2) := by decide +kernel
theorem dX7_readsItem_168 : decode cX7_readsItem 168 = .ok (.aload_n 0, 1) := by decide +kernel
theorem dX7_readsItem_169 : decode cX7_readsItem 169 = .ok (.aload_n 0, 1) := by decide +kernel
theorem dX7_readsItem_170 : decode cX7_readsItem 170 = .ok (.getfield 13, 3) := by decide +kernel
theorem dX7_readsItem_173 : decode cX7_readsItem 173 = .ok (.bipush 78, 2) := by decide +kernel
theorem dX7_readsItem_175 : decode cX7_readsItem 175 = .ok (.iaload, 1) := by decide +kernel
theorem dX7_readsItem_176 : decode cX7_readsItem 176 = .ok (.bipush 99, 2) := by decide +kernel
theorem dX7_readsItem_178 : decode cX7_readsItem 178 = .ok (.invokevirtual 104, 3) := by decide +kernel
theorem dX7_readsItem_181 : decode cX7_readsItem 181 = .ok (.iastore, 1) := by decide +kernel
theorem dX7_readsItem_182 : decode cX7_readsItem 182 = .ok (.aload_n 0, 1) := by decide +kernel
theorem dX7_readsItem_183 : decode cX7_readsItem 183 = .ok (.getfield 13, 3) := by decide +kernel
theorem dX7_readsItem_186 : decode cX7_readsItem 186 = .ok (.bipush 80, 2) := by decide +kernel
theorem dX7_readsItem_188 : decode cX7_readsItem 188 = .ok (.aload_n 0, 1) := by decide +kernel
theorem dX7_readsItem_189 : decode cX7_readsItem 189 = .ok (.iconst 3, 1) := by decide +kernel
theorem dX7_readsItem_190 : decode cX7_readsItem 190 = .ok (.invokevirtual 108, 3) := by decide +kernel
theorem dX7_readsItem_193 : decode cX7_readsItem 193 = .ok (.ifCond .eq 7, 3) := by decide +kernel
theorem dX7_readsItem_196 : decode cX7_readsItem 196 = .ok (.iconst 0, 1) := by decide +kernel
theorem dX7_readsItem_197 : decode cX7_readsItem 197 = .ok (.goto 4, 3) := by decide +kernel
theorem dX7_readsItem_200 : decode cX7_readsItem 200 = .ok (.iconst 1, 1) := by decide +kernel
theorem dX7_readsItem_201 : decode cX7_readsItem 201 = .ok (.iastore, 1) := by decide +kernel
theorem dX7_readsItem_202 : decode cX7_readsItem 202 = .ok (.aload_n 0, 1) := by decide +kernel
theorem dX7_readsItem_203 : decode cX7_readsItem 203 = .ok (.getfield 13, 3) := by decide +kernel
theorem dX7_readsItem_206 : decode cX7_readsItem 206 = .ok (.bipush 81, 2) := by decide +kernel
theorem dX7_readsItem_208 : decode cX7_readsItem 208 = .ok (.aload_n 0, 1) := by decide +kernel
theorem dX7_readsItem_209 : decode cX7_readsItem 209 = .ok (.iconst 4, 1) := by decide +kernel
theorem dX7_readsItem_210 : decode cX7_readsItem 210 = .ok (.invokevirtual 108, 3) := by decide +kernel
theorem dX7_readsItem_213 : decode cX7_readsItem 213 = .ok (.ifCond .eq 13, 3) := by decide +kernel
theorem dX7_readsItem_216 : decode cX7_readsItem 216 = .ok (.aload_n 0, 1) := by decide +kernel
theorem dX7_readsItem_217 : decode cX7_readsItem 217 = .ok (.iconst 0, 1) := by decide +kernel
theorem dX7_readsItem_218 : decode cX7_readsItem 218 = .ok (.bipush 20, 2) := by decide +kernel
theorem dX7_readsItem_220 : decode cX7_readsItem 220 = .ok (.invokevirtual 104, 3) := by decide +kernel
theorem dX7_readsItem_223 : decode cX7_readsItem 223 = .ok (.goto 4, 3) := by decide +kernel
theorem dX7_readsItem_226 : decode cX7_readsItem 226 = .ok (.iconst 0, 1) := by decide +kernel
theorem dX7_readsItem_227 : decode cX7_readsItem 227 = .ok (.iastore, 1) := by decide +kernel
theorem dX7_readsItem_228 : decode cX7_readsItem 228 = .ok (.goto 47, 3) := by decide +kernel
theorem dX7_readsItem_231 : decode cX7_readsItem 231 = .ok (.aload_n 0, 1) := by decide +kernel
theorem dX7_readsItem_232 : decode cX7_readsItem 232 = .ok (.iconst 0, 1) := by decide +kernel
theorem dX7_readsItem_233 : decode cX7_readsItem 233 = .ok (.aload_n 0, 1) := by decide +kernel
theorem dX7_readsItem_234 : decode cX7_readsItem 234 = .ok (.getfield 13, 3) := by decide +kernel
theorem dX7_readsItem_237 : decode cX7_readsItem 237 = .ok (.bipush 83, 2) := by decide +kernel
theorem dX7_readsItem_239 : decode cX7_readsItem 239 = .ok (.iaload, 1) := by decide +kernel
theorem dX7_readsItem_240 : decode cX7_readsItem 240 = .ok (.iconst 1, 1) := by decide +kernel
theorem dX7_readsItem_241 : decode cX7_readsItem 241 = .ok (.isub, 1) := by decide +kernel
theorem dX7_readsItem_242 : decode cX7_readsItem 242 = .ok (.invokevirtual 104, 3) := by decide +kernel
theorem dX7_readsItem_245 : decode cX7_readsItem 245 = .ok (.istore_n 2, 1) := by decide +kernel
theorem dX7_readsItem_246 : decode cX7_readsItem 246 = .ok (.aload_n 0, 1) := by decide +kernel
theorem dX7_readsItem_247 : decode cX7_readsItem 247 = .ok (.iconst 0, 1) := by decide +kernel
theorem dX7_readsItem_248 : decode cX7_readsItem 248 = .ok (.bipush 9, 2) := by decide +kernel
theorem dX7_readsItem_250 : decode cX7_readsItem 250 = .ok (.invokevirtual 104, 3) := by decide +kernel
theorem dX7_readsItem_253 : decode cX7_readsItem 253 = .ok (.istore_n 3, 1) := by decide +kernel
theorem dX7_readsItem_254 : decode cX7_readsItem 254 = .ok (.aload_n 0, 1) := by decide +kernel
theorem dX7_readsItem_255 : decode cX7_readsItem 255 = .ok (.invokevirtual 93, 3) := by decide +kernel
theorem dX7_readsItem_258 : decode cX7_readsItem 258 = .ok (.ifCond .eq 17, 3) := by decide +kernel
theorem dX7_readsItem_261 : decode cX7_readsItem 261 = .ok (.aload_n 0, 1) := by decide +kernel
theorem dX7_readsItem_262 : decode cX7_readsItem 262 = .ok (.getfield 13, 3) := by decide +kernel
theorem dX7_readsItem_265 : decode cX7_readsItem 265 = .ok (.bipush 66, 2) := by decide +kernel
theorem dX7_readsItem_267 : decode cX7_readsItem 267 = .ok (.iconst 3, 1) := by decide +kernel
theorem dX7_readsItem_268 : decode cX7_readsItem 268 = .ok (.iload_n 2, 1) := by decide +kernel
theorem dX7_readsItem_269 : decode cX7_readsItem 269 = .ok (.imul, 1) := by decide +kernel
theorem dX7_readsItem_270 : decode cX7_readsItem 270 = .ok (.iadd, 1) := by decide +kernel
theorem dX7_readsItem_271 : decode cX7_readsItem 271 = .ok (.iconst 2, 1) := by decide +kernel
theorem dX7_readsItem_272 : decode cX7_readsItem 272 = .ok (.iadd, 1) := by decide +kernel
theorem dX7_readsItem_273 : decode cX7_readsItem 273 = .ok (.iload_n 3, 1) := by decide +kernel
theorem dX7_readsItem_274 : decode cX7_readsItem 274 = .ok (.iastore, 1) := by decide +kernel
theorem dX7_readsItem_275 : decode cX7_readsItem 275 = .ok (.return_, 1) := by decide +kernel
theorem dX7_chart_0 : decode cX7_chart 0 = .ok (.aload_n 0, 1) := by decide +kernel
theorem dX7_chart_1 : decode cX7_chart 1 = .ok (.iconst 0, 1) := by decide +kernel
theorem dX7_chart_2 : decode cX7_chart 2 = .ok (.putfield 47, 3) := by decide +kernel
theorem dX7_chart_5 : decode cX7_chart 5 = .ok (.aload_n 0, 1) := by decide +kernel
theorem dX7_chart_6 : decode cX7_chart 6 = .ok (.iconst (-1), 1) := by decide +kernel
theorem dX7_chart_7 : decode cX7_chart 7 = .ok (.putfield 90, 3) := by decide +kernel
theorem dX7_chart_10 : decode cX7_chart 10 = .ok (.aload_n 0, 1) := by decide +kernel
theorem dX7_chart_11 : decode cX7_chart 11 = .ok (.iconst 0, 1) := by decide +kernel
theorem dX7_chart_12 : decode cX7_chart 12 = .ok (.putfield 70, 3) := by decide +kernel
theorem dX7_chart_15 : decode cX7_chart 15 = .ok (.iconst 0, 1) := by decide +kernel
theorem dX7_chart_16 : decode cX7_chart 16 = .ok (.istore_n 1, 1) := by decide +kernel
theorem dX7_chart_17 : decode cX7_chart 17 = .ok (.iconst 0, 1) := by decide +kernel
theorem dX7_chart_18 : decode cX7_chart 18 = .ok (.istore_n 2, 1) := by decide +kernel
theorem dX7_chart_19 : decode cX7_chart 19 = .ok (.aload_n 0, 1) := by decide +kernel
theorem dX7_chart_20 : decode cX7_chart 20 = .ok (.invokevirtual 41, 3) := by decide +kernel
theorem dX7_chart_23 : decode cX7_chart 23 = .ok (.aload_n 0, 1) := by decide +kernel
theorem dX7_chart_24 : decode cX7_chart 24 = .ok (.invokevirtual 97, 3) := by decide +kernel
theorem dX7_chart_27 : decode cX7_chart 27 = .ok (.aload_n 0, 1) := by decide +kernel
theorem dX7_chart_28 : decode cX7_chart 28 = .ok (.invokevirtual 93, 3) := by decide +kernel
theorem dX7_chart_31 : decode cX7_chart 31 = .ok (.ifCond .eq 174, 3) := by decide +kernel
theorem dX7_chart_34 : decode cX7_chart 34 = .ok (.aload_n 0, 1) := by decide +kernel
theorem dX7_chart_35 : decode cX7_chart 35 = .ok (.getfield 80, 3) := by decide +kernel
theorem dX7_chart_38 : decode cX7_chart 38 = .ok (.ifCond .eq 167, 3) := by decide +kernel
theorem dX7_chart_41 : decode cX7_chart 41 = .ok (.aload_n 0, 1) := by decide +kernel
theorem dX7_chart_42 : decode cX7_chart 42 = .ok (.getfield 87, 3) := by decide +kernel
theorem dX7_chart_45 : decode cX7_chart 45 = .ok (.ifCond .ne 23, 3) := by decide +kernel
theorem dX7_chart_48 : decode cX7_chart 48 = .ok (.aload_n 0, 1) := by decide +kernel
theorem dX7_chart_49 : decode cX7_chart 49 = .ok (.getfield 13, 3) := by decide +kernel
theorem dX7_chart_52 : decode cX7_chart 52 = .ok (.bipush 82, 2) := by decide +kernel
theorem dX7_chart_54 : decode cX7_chart 54 = .ok (.iaload, 1) := by decide +kernel
theorem dX7_chart_55 : decode cX7_chart 55 = .ok (.bipush 8, 2) := by decide +kernel
theorem dX7_chart_57 : decode cX7_chart 57 = .ok (.if_icmp .ge 7, 3) := by decide +kernel
theorem dX7_chart_60 : decode cX7_chart 60 = .ok (.iconst 1, 1) := by decide +kernel
theorem dX7_chart_61 : decode cX7_chart 61 = .ok (.goto 67, 3) := by decide +kernel
theorem dX7_chart_64 : decode cX7_chart 64 = .ok (.iconst 0, 1) := by decide +kernel
theorem dX7_chart_65 : decode cX7_chart 65 = .ok (.goto 63, 3) := by decide +kernel
theorem dX7_chart_68 : decode cX7_chart 68 = .ok (.aload_n 0, 1) := by decide +kernel
theorem dX7_chart_69 : decode cX7_chart 69 = .ok (.getfield 87, 3) := by decide +kernel
theorem dX7_chart_72 : decode cX7_chart 72 = .ok (.iconst 1, 1) := by decide +kernel
theorem dX7_chart_73 : decode cX7_chart 73 = .ok (.if_icmp .ne 22, 3) := by decide +kernel
theorem dX7_chart_76 : decode cX7_chart 76 = .ok (.aload_n 0, 1) := by decide +kernel
theorem dX7_chart_77 : decode cX7_chart 77 = .ok (.getfield 13, 3) := by decide +kernel
theorem dX7_chart_80 : decode cX7_chart 80 = .ok (.bipush 83, 2) := by decide +kernel
theorem dX7_chart_82 : decode cX7_chart 82 = .ok (.iaload, 1) := by decide +kernel
theorem dX7_chart_83 : decode cX7_chart 83 = .ok (.iconst 4, 1) := by decide +kernel
theorem dX7_chart_84 : decode cX7_chart 84 = .ok (.if_icmp .ge 7, 3) := by decide +kernel
theorem dX7_chart_87 : decode cX7_chart 87 = .ok (.iconst 1, 1) := by decide +kernel
theorem dX7_chart_88 : decode cX7_chart 88 = .ok (.goto 40, 3) := by decide +kernel
theorem dX7_chart_91 : decode cX7_chart 91 = .ok (.iconst 0, 1) := by decide +kernel
theorem dX7_chart_92 : decode cX7_chart 92 = .ok (.goto 36, 3) := by decide +kernel
theorem dX7_chart_95 : decode cX7_chart 95 = .ok (.aload_n 0, 1) := by decide +kernel
theorem dX7_chart_96 : decode cX7_chart 96 = .ok (.getfield 87, 3) := by decide +kernel
theorem dX7_chart_99 : decode cX7_chart 99 = .ok (.iconst 2, 1) := by decide +kernel
theorem dX7_chart_100 : decode cX7_chart 100 = .ok (.if_icmp .ne 15, 3) := by decide +kernel
theorem dX7_chart_103 : decode cX7_chart 103 = .ok (.iload_n 2, 1) := by decide +kernel
theorem dX7_chart_104 : decode cX7_chart 104 = .ok (.ifCond .ne 7, 3) := by decide +kernel
theorem dX7_chart_107 : decode cX7_chart 107 = .ok (.iconst 1, 1) := by decide +kernel
theorem dX7_chart_108 : decode cX7_chart 108 = .ok (.goto 20, 3) := by decide +kernel
theorem dX7_chart_111 : decode cX7_chart 111 = .ok (.iconst 0, 1) := by decide +kernel
theorem dX7_chart_112 : decode cX7_chart 112 = .ok (.goto 16, 3) := by decide +kernel
theorem dX7_chart_115 : decode cX7_chart 115 = .ok (.aload_n 0, 1) := by decide +kernel
theorem dX7_chart_116 : decode cX7_chart 116 = .ok (.getfield 87, 3) := by decide +kernel
theorem dX7_chart_119 : decode cX7_chart 119 = .ok (.iconst 5, 1) := by decide +kernel
theorem dX7_chart_120 : decode cX7_chart 120 = .ok (.if_icmp .ne 7, 3) := by decide +kernel
theorem dX7_chart_123 : decode cX7_chart 123 = .ok (.iconst 1, 1) := by decide +kernel
theorem dX7_chart_124 : decode cX7_chart 124 = .ok (.goto 4, 3) := by decide +kernel
theorem dX7_chart_127 : decode cX7_chart 127 = .ok (.iconst 0, 1) := by decide +kernel
theorem dX7_chart_128 : decode cX7_chart 128 = .ok (.istore_n 3, 1) := by decide +kernel
theorem dX7_chart_129 : decode cX7_chart 129 = .ok (.aload_n 0, 1) := by decide +kernel
theorem dX7_chart_130 : decode cX7_chart 130 = .ok (.aload_n 0, 1) := by decide +kernel
theorem dX7_chart_131 : decode cX7_chart 131 = .ok (.getfield 80, 3) := by decide +kernel
theorem dX7_chart_134 : decode cX7_chart 134 = .ok (.iconst 1, 1) := by decide +kernel
theorem dX7_chart_135 : decode cX7_chart 135 = .ok (.if_icmp .ne 11, 3) := by decide +kernel
theorem dX7_chart_138 : decode cX7_chart 138 = .ok (.iload_n 3, 1) := by decide +kernel
theorem dX7_chart_139 : decode cX7_chart 139 = .ok (.ifCond .eq 7, 3) := by decide +kernel
theorem dX7_chart_142 : decode cX7_chart 142 = .ok (.iconst 1, 1) := by decide +kernel
theorem dX7_chart_143 : decode cX7_chart 143 = .ok (.goto 4, 3) := by decide +kernel
theorem dX7_chart_146 : decode cX7_chart 146 = .ok (.iconst 0, 1) := by decide +kernel
theorem dX7_chart_147 : decode cX7_chart 147 = .ok (.invokevirtual 100, 3) := by decide +kernel
theorem dX7_chart_150 : decode cX7_chart 150 = .ok (.istore 4, 2) := by decide +kernel
theorem dX7_chart_152 : decode cX7_chart 152 = .ok (.aload_n 0, 1) := by decide +kernel
theorem dX7_chart_153 : decode cX7_chart 153 = .ok (.invokevirtual 93, 3) := by decide +kernel
theorem dX7_chart_156 : decode cX7_chart 156 = .ok (.ifCond .eq 25, 3) := by decide +kernel
theorem dX7_chart_159 : decode cX7_chart 159 = .ok (.iload_n 2, 1) := by decide +kernel
theorem dX7_chart_160 : decode cX7_chart 160 = .ok (.ifCond .ne 9, 3) := by decide +kernel
theorem dX7_chart_163 : decode cX7_chart 163 = .ok (.iload 4, 2) := by decide +kernel
theorem dX7_chart_165 : decode cX7_chart 165 = .ok (.iconst 2, 1) := by decide +kernel
theorem dX7_chart_166 : decode cX7_chart 166 = .ok (.if_icmp .ne 7, 3) := by decide +kernel
theorem dX7_chart_169 : decode cX7_chart 169 = .ok (.iconst 1, 1) := by decide +kernel
theorem dX7_chart_170 : decode cX7_chart 170 = .ok (.goto 4, 3) := by decide +kernel
theorem dX7_chart_173 : decode cX7_chart 173 = .ok (.iconst 0, 1) := by decide +kernel
theorem dX7_chart_174 : decode cX7_chart 174 = .ok (.istore_n 2, 1) := by decide +kernel
theorem dX7_chart_175 : decode cX7_chart 175 = .ok (.aload_n 0, 1) := by decide +kernel
theorem dX7_chart_176 : decode cX7_chart 176 = .ok (.iload 4, 2) := by decide +kernel
theorem dX7_chart_178 : decode cX7_chart 178 = .ok (.invokevirtual 112, 3) := by decide +kernel
theorem dX7_chart_181 : decode cX7_chart 181 = .ok (.aload_n 0, 1) := by decide +kernel
theorem dX7_chart_182 : decode cX7_chart 182 = .ok (.aload_n 0, 1) := by decide +kernel
theorem dX7_chart_183 : decode cX7_chart 183 = .ok (.getfield 80, 3) := by decide +kernel
theorem dX7_chart_186 : decode cX7_chart 186 = .ok (.iconst 3, 1) := by decide +kernel
theorem dX7_chart_187 : decode cX7_chart 187 = .ok (.if_icmp .ne 7, 3) := by decide +kernel
theorem dX7_chart_190 : decode cX7_chart 190 = .ok (.iconst 1, 1) := by decide +kernel
theorem dX7_chart_191 : decode cX7_chart 191 = .ok (.goto 4, 3) := by decide +kernel
theorem dX7_chart_194 : decode cX7_chart 194 = .ok (.iconst 0, 1) := by decide +kernel
theorem dX7_chart_195 : decode cX7_chart 195 = .ok (.invokevirtual 100, 3) := by decide +kernel
theorem dX7_chart_198 : decode cX7_chart 198 = .ok (.pop, 1) := by decide +kernel
theorem dX7_chart_199 : decode cX7_chart 199 = .ok (.iinc 1 1, 3) := by decide +kernel
theorem dX7_chart_202 : decode cX7_chart 202 = .ok (.goto (-175), 3) := by decide +kernel
theorem dX7_chart_205 : decode cX7_chart 205 = .ok (.aload_n 0, 1) := by decide +kernel
theorem dX7_chart_206 : decode cX7_chart 206 = .ok (.invokevirtual 93, 3) := by decide +kernel
theorem dX7_chart_209 : decode cX7_chart 209 = .ok (.ifCond .ne 11, 3) := by decide +kernel
theorem dX7_chart_212 : decode cX7_chart 212 = .ok (.bipush (-10), 2) := by decide +kernel
theorem dX7_chart_214 : decode cX7_chart 214 = .ok (.aload_n 0, 1) := by decide +kernel
theorem dX7_chart_215 : decode cX7_chart 215 = .ok (.getfield 90, 3) := by decide +kernel
theorem dX7_chart_218 : decode cX7_chart 218 = .ok (.isub, 1) := by decide +kernel
theorem dX7_chart_219 : decode cX7_chart 219 = .ok (.ireturn, 1) := by decide +kernel
theorem dX7_chart_220 : decode cX7_chart 220 = .ok (.aload_n 0, 1) := by decide +kernel
theorem dX7_chart_221 : decode cX7_chart 221 = .ok (.invokevirtual 44, 3) := by decide +kernel
theorem dX7_chart_224 : decode cX7_chart 224 = .ok (.aload_n 0, 1) := by decide +kernel
theorem dX7_chart_225 : decode cX7_chart 225 = .ok (.iconst 0, 1) := by decide +kernel
theorem dX7_chart_226 : decode cX7_chart 226 = .ok (.putfield 55, 3) := by decide +kernel
theorem dX7_chart_229 : decode cX7_chart 229 = .ok (.iload_n 1, 1) := by decide +kernel
theorem dX7_chart_230 : decode cX7_chart 230 = .ok (.ireturn, 1) := by decide +kernel
theorem dX7_adopts_0 : decode cX7_adopts 0 = .ok (.iconst 0, 1) := by decide +kernel
theorem dX7_adopts_1 : decode cX7_adopts 1 = .ok (.istore_n 1, 1) := by decide +kernel
theorem dX7_adopts_2 : decode cX7_adopts 2 = .ok (.iload_n 1, 1) := by decide +kernel
theorem dX7_adopts_3 : decode cX7_adopts 3 = .ok (.bipush 42, 2) := by decide +kernel
theorem dX7_adopts_5 : decode cX7_adopts 5 = .ok (.if_icmp .ge 24, 3) := by decide +kernel
theorem dX7_adopts_8 : decode cX7_adopts 8 = .ok (.aload_n 0, 1) := by decide +kernel
theorem dX7_adopts_9 : decode cX7_adopts 9 = .ok (.getfield 13, 3) := by decide +kernel
theorem dX7_adopts_12 : decode cX7_adopts 12 = .ok (.iload_n 1, 1) := by decide +kernel
theorem dX7_adopts_13 : decode cX7_adopts 13 = .ok (.aload_n 0, 1) := by decide +kernel
theorem dX7_adopts_14 : decode cX7_adopts 14 = .ok (.getfield 13, 3) := by decide +kernel
theorem dX7_adopts_17 : decode cX7_adopts 17 = .ok (.bipush 42, 2) := by decide +kernel
theorem dX7_adopts_19 : decode cX7_adopts 19 = .ok (.iload_n 1, 1) := by decide +kernel
theorem dX7_adopts_20 : decode cX7_adopts 20 = .ok (.iadd, 1) := by decide +kernel
theorem dX7_adopts_21 : decode cX7_adopts 21 = .ok (.iaload, 1) := by decide +kernel
theorem dX7_adopts_22 : decode cX7_adopts 22 = .ok (.iastore, 1) := by decide +kernel
theorem dX7_adopts_23 : decode cX7_adopts 23 = .ok (.iinc 1 1, 3) := by decide +kernel
theorem dX7_adopts_26 : decode cX7_adopts 26 = .ok (.goto (-24), 3) := by decide +kernel
theorem dX7_adopts_29 : decode cX7_adopts 29 = .ok (.aload_n 0, 1) := by decide +kernel
theorem dX7_adopts_30 : decode cX7_adopts 30 = .ok (.getfield 25, 3) := by decide +kernel
theorem dX7_adopts_33 : decode cX7_adopts 33 = .ok (.iconst 0, 1) := by decide +kernel
theorem dX7_adopts_34 : decode cX7_adopts 34 = .ok (.iconst 0, 1) := by decide +kernel
theorem dX7_adopts_35 : decode cX7_adopts 35 = .ok (.bastore, 1) := by decide +kernel
theorem dX7_adopts_36 : decode cX7_adopts 36 = .ok (.aload_n 0, 1) := by decide +kernel
theorem dX7_adopts_37 : decode cX7_adopts 37 = .ok (.getfield 25, 3) := by decide +kernel
theorem dX7_adopts_40 : decode cX7_adopts 40 = .ok (.iconst 1, 1) := by decide +kernel
theorem dX7_adopts_41 : decode cX7_adopts 41 = .ok (.iconst 0, 1) := by decide +kernel
theorem dX7_adopts_42 : decode cX7_adopts 42 = .ok (.bastore, 1) := by decide +kernel
theorem dX7_adopts_43 : decode cX7_adopts 43 = .ok (.aload_n 0, 1) := by decide +kernel
theorem dX7_adopts_44 : decode cX7_adopts 44 = .ok (.aload_n 0, 1) := by decide +kernel
theorem dX7_adopts_45 : decode cX7_adopts 45 = .ok (.getfield 19, 3) := by decide +kernel
theorem dX7_adopts_48 : decode cX7_adopts 48 = .ok (.invokevirtual 116, 3) := by decide +kernel
theorem dX7_adopts_51 : decode cX7_adopts 51 = .ok (.return_, 1) := by decide +kernel
theorem dX7_begins_0 : decode cX7_begins 0 = .ok (.aload_n 1, 1) := by decide +kernel
theorem dX7_begins_1 : decode cX7_begins 1 = .ok (.iconst 0, 1) := by decide +kernel
theorem dX7_begins_2 : decode cX7_begins 2 = .ok (.iconst 0, 1) := by decide +kernel
theorem dX7_begins_3 : decode cX7_begins 3 = .ok (.iastore, 1) := by decide +kernel
theorem dX7_begins_4 : decode cX7_begins 4 = .ok (.aload_n 1, 1) := by decide +kernel
theorem dX7_begins_5 : decode cX7_begins 5 = .ok (.iconst 1, 1) := by decide +kernel
theorem dX7_begins_6 : decode cX7_begins 6 = .ok (.bipush 100, 2) := by decide +kernel
theorem dX7_begins_8 : decode cX7_begins 8 = .ok (.iastore, 1) := by decide +kernel
theorem dX7_begins_9 : decode cX7_begins 9 = .ok (.iconst 0, 1) := by decide +kernel
theorem dX7_begins_10 : decode cX7_begins 10 = .ok (.istore_n 2, 1) := by decide +kernel
theorem dX7_begins_11 : decode cX7_begins 11 = .ok (.iload_n 2, 1) := by decide +kernel
theorem dX7_begins_12 : decode cX7_begins 12 = .ok (.bipush 8, 2) := by decide +kernel
theorem dX7_begins_14 : decode cX7_begins 14 = .ok (.if_icmp .ge 44, 3) := by decide +kernel
theorem dX7_begins_17 : decode cX7_begins 17 = .ok (.aload_n 1, 1) := by decide +kernel
theorem dX7_begins_18 : decode cX7_begins 18 = .ok (.iconst 3, 1) := by decide +kernel
theorem dX7_begins_19 : decode cX7_begins 19 = .ok (.iconst 3, 1) := by decide +kernel
theorem dX7_begins_20 : decode cX7_begins 20 = .ok (.iload_n 2, 1) := by decide +kernel
theorem dX7_begins_21 : decode cX7_begins 21 = .ok (.imul, 1) := by decide +kernel
theorem dX7_begins_22 : decode cX7_begins 22 = .ok (.iadd, 1) := by decide +kernel
theorem dX7_begins_23 : decode cX7_begins 23 = .ok (.aload_n 0, 1) := by decide +kernel
theorem dX7_begins_24 : decode cX7_begins 24 = .ok (.getfield 13, 3) := by decide +kernel
theorem dX7_begins_27 : decode cX7_begins 27 = .ok (.iconst 3, 1) := by decide +kernel
theorem dX7_begins_28 : decode cX7_begins 28 = .ok (.iload_n 2, 1) := by decide +kernel
theorem dX7_begins_29 : decode cX7_begins 29 = .ok (.imul, 1) := by decide +kernel
theorem dX7_begins_30 : decode cX7_begins 30 = .ok (.iaload, 1) := by decide +kernel
theorem dX7_begins_31 : decode cX7_begins 31 = .ok (.iastore, 1) := by decide +kernel
theorem dX7_begins_32 : decode cX7_begins 32 = .ok (.aload_n 1, 1) := by decide +kernel
theorem dX7_begins_33 : decode cX7_begins 33 = .ok (.iconst 3, 1) := by decide +kernel
theorem dX7_begins_34 : decode cX7_begins 34 = .ok (.iconst 3, 1) := by decide +kernel
theorem dX7_begins_35 : decode cX7_begins 35 = .ok (.iload_n 2, 1) := by decide +kernel
theorem dX7_begins_36 : decode cX7_begins 36 = .ok (.imul, 1) := by decide +kernel
theorem dX7_begins_37 : decode cX7_begins 37 = .ok (.iadd, 1) := by decide +kernel
theorem dX7_begins_38 : decode cX7_begins 38 = .ok (.iconst 1, 1) := by decide +kernel
theorem dX7_begins_39 : decode cX7_begins 39 = .ok (.iadd, 1) := by decide +kernel
theorem dX7_begins_40 : decode cX7_begins 40 = .ok (.iconst 0, 1) := by decide +kernel
theorem dX7_begins_41 : decode cX7_begins 41 = .ok (.iastore, 1) := by decide +kernel
theorem dX7_begins_42 : decode cX7_begins 42 = .ok (.aload_n 1, 1) := by decide +kernel
theorem dX7_begins_43 : decode cX7_begins 43 = .ok (.iconst 3, 1) := by decide +kernel
theorem dX7_begins_44 : decode cX7_begins 44 = .ok (.iconst 3, 1) := by decide +kernel
theorem dX7_begins_45 : decode cX7_begins 45 = .ok (.iload_n 2, 1) := by decide +kernel
theorem dX7_begins_46 : decode cX7_begins 46 = .ok (.imul, 1) := by decide +kernel
theorem dX7_begins_47 : decode cX7_begins 47 = .ok (.iadd, 1) := by decide +kernel
theorem dX7_begins_48 : decode cX7_begins 48 = .ok (.iconst 2, 1) := by decide +kernel
theorem dX7_begins_49 : decode cX7_begins 49 = .ok (.iadd, 1) := by decide +kernel
theorem dX7_begins_50 : decode cX7_begins 50 = .ok (.iconst 0, 1) := by decide +kernel
theorem dX7_begins_51 : decode cX7_begins 51 = .ok (.iastore, 1) := by decide +kernel
theorem dX7_begins_52 : decode cX7_begins 52 = .ok (.iinc 2 1, 3) := by decide +kernel
theorem dX7_begins_55 : decode cX7_begins 55 = .ok (.goto (-44), 3) := by decide +kernel
theorem dX7_begins_58 : decode cX7_begins 58 = .ok (.return_, 1) := by decide +kernel
theorem dX7_isChild_0 : decode cX7_isChild 0 = .ok (.iload_n 1, 1) := by decide +kernel
theorem dX7_isChild_1 : decode cX7_isChild 1 = .ok (.iconst 0, 1) := by decide +kernel
theorem dX7_isChild_2 : decode cX7_isChild 2 = .ok (.aload_n 0, 1) := by decide +kernel
theorem dX7_isChild_3 : decode cX7_isChild 3 = .ok (.getfield 13, 3) := by decide +kernel
theorem dX7_isChild_6 : decode cX7_isChild 6 = .ok (.bipush 40, 2) := by decide +kernel
theorem dX7_isChild_8 : decode cX7_isChild 8 = .ok (.iaload, 1) := by decide +kernel
theorem dX7_isChild_9 : decode cX7_isChild 9 = .ok (.iconst 1, 1) := by decide +kernel
theorem dX7_isChild_10 : decode cX7_isChild 10 = .ok (.isub, 1) := by decide +kernel
theorem dX7_isChild_11 : decode cX7_isChild 11 = .ok (.invokestatic 51, 3) := by decide +kernel
theorem dX7_isChild_14 : decode cX7_isChild 14 = .ok (.ireturn, 1) := by decide +kernel
theorem dX7_isSort_0 : decode cX7_isSort 0 = .ok (.iload_n 1, 1) := by decide +kernel
theorem dX7_isSort_1 : decode cX7_isSort 1 = .ok (.iconst 0, 1) := by decide +kernel
theorem dX7_isSort_2 : decode cX7_isSort 2 = .ok (.aload_n 0, 1) := by decide +kernel
theorem dX7_isSort_3 : decode cX7_isSort 3 = .ok (.getfield 13, 3) := by decide +kernel
theorem dX7_isSort_6 : decode cX7_isSort 6 = .ok (.bipush 41, 2) := by decide +kernel
theorem dX7_isSort_8 : decode cX7_isSort 8 = .ok (.iaload, 1) := by decide +kernel
theorem dX7_isSort_9 : decode cX7_isSort 9 = .ok (.iconst 1, 1) := by decide +kernel
theorem dX7_isSort_10 : decode cX7_isSort 10 = .ok (.isub, 1) := by decide +kernel
theorem dX7_isSort_11 : decode cX7_isSort 11 = .ok (.invokestatic 51, 3) := by decide +kernel
theorem dX7_isSort_14 : decode cX7_isSort 14 = .ok (.ireturn, 1) := by decide +kernel
theorem dX7_isDay_0 : decode cX7_isDay 0 = .ok (.iload_n 0, 1) := by decide +kernel
theorem dX7_isDay_1 : decode cX7_isDay 1 = .ok (.iconst 0, 1) := by decide +kernel
theorem dX7_isDay_2 : decode cX7_isDay 2 = .ok (.bipush 99, 2) := by decide +kernel
theorem dX7_isDay_4 : decode cX7_isDay 4 = .ok (.invokestatic 51, 3) := by decide +kernel
theorem dX7_isDay_7 : decode cX7_isDay 7 = .ok (.ireturn, 1) := by decide +kernel
theorem dX7_child_0 : decode cX7_child 0 = .ok (.aload_n 0, 1) := by decide +kernel
theorem dX7_child_1 : decode cX7_child 1 = .ok (.iconst 0, 1) := by decide +kernel
theorem dX7_child_2 : decode cX7_child 2 = .ok (.putfield 47, 3) := by decide +kernel
theorem dX7_child_5 : decode cX7_child 5 = .ok (.aload_n 0, 1) := by decide +kernel
theorem dX7_child_6 : decode cX7_child 6 = .ok (.iload_n 1, 1) := by decide +kernel
theorem dX7_child_7 : decode cX7_child 7 = .ok (.invokevirtual 120, 3) := by decide +kernel
theorem dX7_child_10 : decode cX7_child 10 = .ok (.ifCond .eq 12, 3) := by decide +kernel
theorem dX7_child_13 : decode cX7_child 13 = .ok (.iload_n 2, 1) := by decide +kernel
theorem dX7_child_14 : decode cX7_child 14 = .ok (.iconst 0, 1) := by decide +kernel
theorem dX7_child_15 : decode cX7_child 15 = .ok (.iconst 5, 1) := by decide +kernel
theorem dX7_child_16 : decode cX7_child 16 = .ok (.invokestatic 51, 3) := by decide +kernel
theorem dX7_child_19 : decode cX7_child 19 = .ok (.ifCond .ne 7, 3) := by decide +kernel
theorem dX7_child_22 : decode cX7_child 22 = .ok (.iconst (-1), 1) := by decide +kernel
theorem dX7_child_23 : decode cX7_child 23 = .ok (.goto 35, 3) := by decide +kernel
theorem dX7_child_26 : decode cX7_child 26 = .ok (.iload_n 2, 1) := by decide +kernel
theorem dX7_child_27 : decode cX7_child 27 = .ok (.iconst 3, 1) := by decide +kernel
theorem dX7_child_28 : decode cX7_child 28 = .ok (.if_icmp .ge 16, 3) := by decide +kernel
theorem dX7_child_31 : decode cX7_child 31 = .ok (.aload_n 0, 1) := by decide +kernel
theorem dX7_child_32 : decode cX7_child 32 = .ok (.getfield 13, 3) := by decide +kernel
theorem dX7_child_35 : decode cX7_child 35 = .ok (.iconst 3, 1) := by decide +kernel
theorem dX7_child_36 : decode cX7_child 36 = .ok (.iload_n 1, 1) := by decide +kernel
theorem dX7_child_37 : decode cX7_child 37 = .ok (.imul, 1) := by decide +kernel
theorem dX7_child_38 : decode cX7_child 38 = .ok (.iload_n 2, 1) := by decide +kernel
theorem dX7_child_39 : decode cX7_child 39 = .ok (.iadd, 1) := by decide +kernel
theorem dX7_child_40 : decode cX7_child 40 = .ok (.iaload, 1) := by decide +kernel
theorem dX7_child_41 : decode cX7_child 41 = .ok (.goto 17, 3) := by decide +kernel
theorem dX7_child_44 : decode cX7_child 44 = .ok (.aload_n 0, 1) := by decide +kernel
theorem dX7_child_45 : decode cX7_child 45 = .ok (.getfield 19, 3) := by decide +kernel
theorem dX7_child_48 : decode cX7_child 48 = .ok (.iconst 3, 1) := by decide +kernel
theorem dX7_child_49 : decode cX7_child 49 = .ok (.iconst 3, 1) := by decide +kernel
theorem dX7_child_50 : decode cX7_child 50 = .ok (.iload_n 1, 1) := by decide +kernel
theorem dX7_child_51 : decode cX7_child 51 = .ok (.imul, 1) := by decide +kernel
theorem dX7_child_52 : decode cX7_child 52 = .ok (.iadd, 1) := by decide +kernel
theorem dX7_child_53 : decode cX7_child 53 = .ok (.iload_n 2, 1) := by decide +kernel
theorem dX7_child_54 : decode cX7_child 54 = .ok (.iadd, 1) := by decide +kernel
theorem dX7_child_55 : decode cX7_child 55 = .ok (.iconst 3, 1) := by decide +kernel
theorem dX7_child_56 : decode cX7_child 56 = .ok (.isub, 1) := by decide +kernel
theorem dX7_child_57 : decode cX7_child 57 = .ok (.iaload, 1) := by decide +kernel
theorem dX7_child_58 : decode cX7_child 58 = .ok (.ireturn, 1) := by decide +kernel
theorem dX7_book_0 : decode cX7_book 0 = .ok (.aload_n 0, 1) := by decide +kernel
theorem dX7_book_1 : decode cX7_book 1 = .ok (.iconst 0, 1) := by decide +kernel
theorem dX7_book_2 : decode cX7_book 2 = .ok (.putfield 47, 3) := by decide +kernel
theorem dX7_book_5 : decode cX7_book 5 = .ok (.aload_n 0, 1) := by decide +kernel
theorem dX7_book_6 : decode cX7_book 6 = .ok (.iload_n 1, 1) := by decide +kernel
theorem dX7_book_7 : decode cX7_book 7 = .ok (.invokevirtual 123, 3) := by decide +kernel
theorem dX7_book_10 : decode cX7_book 10 = .ok (.ifCond .eq 28, 3) := by decide +kernel
theorem dX7_book_13 : decode cX7_book 13 = .ok (.iload_n 2, 1) := by decide +kernel
theorem dX7_book_14 : decode cX7_book 14 = .ok (.iconst 0, 1) := by decide +kernel
theorem dX7_book_15 : decode cX7_book 15 = .ok (.iconst 2, 1) := by decide +kernel
theorem dX7_book_16 : decode cX7_book 16 = .ok (.invokestatic 51, 3) := by decide +kernel
theorem dX7_book_19 : decode cX7_book 19 = .ok (.ifCond .eq 19, 3) := by decide +kernel
theorem dX7_book_22 : decode cX7_book 22 = .ok (.aload_n 0, 1) := by decide +kernel
theorem dX7_book_23 : decode cX7_book 23 = .ok (.getfield 13, 3) := by decide +kernel
theorem dX7_book_26 : decode cX7_book 26 = .ok (.bipush 24, 2) := by decide +kernel
theorem dX7_book_28 : decode cX7_book 28 = .ok (.iconst 3, 1) := by decide +kernel
theorem dX7_book_29 : decode cX7_book 29 = .ok (.iload_n 1, 1) := by decide +kernel
theorem dX7_book_30 : decode cX7_book 30 = .ok (.imul, 1) := by decide +kernel
theorem dX7_book_31 : decode cX7_book 31 = .ok (.iadd, 1) := by decide +kernel
theorem dX7_book_32 : decode cX7_book 32 = .ok (.iload_n 2, 1) := by decide +kernel
theorem dX7_book_33 : decode cX7_book 33 = .ok (.iadd, 1) := by decide +kernel
theorem dX7_book_34 : decode cX7_book 34 = .ok (.iaload, 1) := by decide +kernel
theorem dX7_book_35 : decode cX7_book 35 = .ok (.goto 4, 3) := by decide +kernel
theorem dX7_book_38 : decode cX7_book 38 = .ok (.iconst (-1), 1) := by decide +kernel
theorem dX7_book_39 : decode cX7_book 39 = .ok (.ireturn, 1) := by decide +kernel
theorem dX7_plan_0 : decode cX7_plan 0 = .ok (.aload_n 0, 1) := by decide +kernel
theorem dX7_plan_1 : decode cX7_plan 1 = .ok (.iconst 0, 1) := by decide +kernel
theorem dX7_plan_2 : decode cX7_plan 2 = .ok (.putfield 47, 3) := by decide +kernel
theorem dX7_plan_5 : decode cX7_plan 5 = .ok (.iload_n 1, 1) := by decide +kernel
theorem dX7_plan_6 : decode cX7_plan 6 = .ok (.iconst 0, 1) := by decide +kernel
theorem dX7_plan_7 : decode cX7_plan 7 = .ok (.iconst 3, 1) := by decide +kernel
theorem dX7_plan_8 : decode cX7_plan 8 = .ok (.invokestatic 51, 3) := by decide +kernel
theorem dX7_plan_11 : decode cX7_plan 11 = .ok (.ifCond .eq 15, 3) := by decide +kernel
theorem dX7_plan_14 : decode cX7_plan 14 = .ok (.aload_n 0, 1) := by decide +kernel
theorem dX7_plan_15 : decode cX7_plan 15 = .ok (.getfield 13, 3) := by decide +kernel
theorem dX7_plan_18 : decode cX7_plan 18 = .ok (.bipush 36, 2) := by decide +kernel
theorem dX7_plan_20 : decode cX7_plan 20 = .ok (.iload_n 1, 1) := by decide +kernel
theorem dX7_plan_21 : decode cX7_plan 21 = .ok (.iadd, 1) := by decide +kernel
theorem dX7_plan_22 : decode cX7_plan 22 = .ok (.iaload, 1) := by decide +kernel
theorem dX7_plan_23 : decode cX7_plan 23 = .ok (.goto 4, 3) := by decide +kernel
theorem dX7_plan_26 : decode cX7_plan 26 = .ok (.iconst (-1), 1) := by decide +kernel
theorem dX7_plan_27 : decode cX7_plan 27 = .ok (.ireturn, 1) := by decide +kernel
theorem dX7_tune_0 : decode cX7_tune 0 = .ok (.aload_n 0, 1) := by decide +kernel
theorem dX7_tune_1 : decode cX7_tune 1 = .ok (.iconst 0, 1) := by decide +kernel
theorem dX7_tune_2 : decode cX7_tune 2 = .ok (.putfield 47, 3) := by decide +kernel
theorem dX7_tune_5 : decode cX7_tune 5 = .ok (.iload_n 1, 1) := by decide +kernel
theorem dX7_tune_6 : decode cX7_tune 6 = .ok (.ifCond .ne 8, 3) := by decide +kernel
theorem dX7_tune_9 : decode cX7_tune 9 = .ok (.bipush 99, 2) := by decide +kernel
theorem dX7_tune_11 : decode cX7_tune 11 = .ok (.goto 20, 3) := by decide +kernel
theorem dX7_tune_14 : decode cX7_tune 14 = .ok (.iload_n 1, 1) := by decide +kernel
theorem dX7_tune_15 : decode cX7_tune 15 = .ok (.iconst 2, 1) := by decide +kernel
theorem dX7_tune_16 : decode cX7_tune 16 = .ok (.if_icmp .eq 8, 3) := by decide +kernel
theorem dX7_tune_19 : decode cX7_tune 19 = .ok (.iload_n 1, 1) := by decide +kernel
theorem dX7_tune_20 : decode cX7_tune 20 = .ok (.iconst 4, 1) := by decide +kernel
theorem dX7_tune_21 : decode cX7_tune 21 = .ok (.if_icmp .ne 8, 3) := by decide +kernel
theorem dX7_tune_24 : decode cX7_tune 24 = .ok (.bipush 20, 2) := by decide +kernel
theorem dX7_tune_26 : decode cX7_tune 26 = .ok (.goto 5, 3) := by decide +kernel
theorem dX7_tune_29 : decode cX7_tune 29 = .ok (.bipush 9, 2) := by decide +kernel
theorem dX7_tune_31 : decode cX7_tune 31 = .ok (.istore_n 3, 1) := by decide +kernel
theorem dX7_tune_32 : decode cX7_tune 32 = .ok (.iload_n 1, 1) := by decide +kernel
theorem dX7_tune_33 : decode cX7_tune 33 = .ok (.iconst 0, 1) := by decide +kernel
theorem dX7_tune_34 : decode cX7_tune 34 = .ok (.iconst 5, 1) := by decide +kernel
theorem dX7_tune_35 : decode cX7_tune 35 = .ok (.invokestatic 51, 3) := by decide +kernel
theorem dX7_tune_38 : decode cX7_tune 38 = .ok (.ifCond .eq 12, 3) := by decide +kernel
theorem dX7_tune_41 : decode cX7_tune 41 = .ok (.iload_n 2, 1) := by decide +kernel
theorem dX7_tune_42 : decode cX7_tune 42 = .ok (.iconst 0, 1) := by decide +kernel
theorem dX7_tune_43 : decode cX7_tune 43 = .ok (.iload_n 3, 1) := by decide +kernel
theorem dX7_tune_44 : decode cX7_tune 44 = .ok (.invokestatic 51, 3) := by decide +kernel
theorem dX7_tune_47 : decode cX7_tune 47 = .ok (.ifCond .ne 5, 3) := by decide +kernel
theorem dX7_tune_50 : decode cX7_tune 50 = .ok (.iconst (-1), 1) := by decide +kernel
theorem dX7_tune_51 : decode cX7_tune 51 = .ok (.ireturn, 1) := by decide +kernel
theorem dX7_tune_52 : decode cX7_tune 52 = .ok (.aload_n 0, 1) := by decide +kernel
theorem dX7_tune_53 : decode cX7_tune 53 = .ok (.getfield 16, 3) := by decide +kernel
theorem dX7_tune_56 : decode cX7_tune 56 = .ok (.iload_n 1, 1) := by decide +kernel
theorem dX7_tune_57 : decode cX7_tune 57 = .ok (.iaload, 1) := by decide +kernel
theorem dX7_tune_58 : decode cX7_tune 58 = .ok (.istore 4, 2) := by decide +kernel
theorem dX7_tune_60 : decode cX7_tune 60 = .ok (.aload_n 0, 1) := by decide +kernel
theorem dX7_tune_61 : decode cX7_tune 61 = .ok (.getfield 16, 3) := by decide +kernel
theorem dX7_tune_64 : decode cX7_tune 64 = .ok (.iload_n 1, 1) := by decide +kernel
theorem dX7_tune_65 : decode cX7_tune 65 = .ok (.iload_n 2, 1) := by decide +kernel
theorem dX7_tune_66 : decode cX7_tune 66 = .ok (.iastore, 1) := by decide +kernel
theorem dX7_tune_67 : decode cX7_tune 67 = .ok (.iload 4, 2) := by decide +kernel
theorem dX7_tune_69 : decode cX7_tune 69 = .ok (.ireturn, 1) := by decide +kernel
theorem dX7_givenOf_0 : decode cX7_givenOf 0 = .ok (.aload_n 0, 1) := by decide +kernel
theorem dX7_givenOf_1 : decode cX7_givenOf 1 = .ok (.getfield 13, 3) := by decide +kernel
theorem dX7_givenOf_4 : decode cX7_givenOf 4 = .ok (.bipush 24, 2) := by decide +kernel
theorem dX7_givenOf_6 : decode cX7_givenOf 6 = .ok (.iconst 3, 1) := by decide +kernel
theorem dX7_givenOf_7 : decode cX7_givenOf 7 = .ok (.iload_n 1, 1) := by decide +kernel
theorem dX7_givenOf_8 : decode cX7_givenOf 8 = .ok (.imul, 1) := by decide +kernel
theorem dX7_givenOf_9 : decode cX7_givenOf 9 = .ok (.iadd, 1) := by decide +kernel
theorem dX7_givenOf_10 : decode cX7_givenOf 10 = .ok (.iconst 2, 1) := by decide +kernel
theorem dX7_givenOf_11 : decode cX7_givenOf 11 = .ok (.iadd, 1) := by decide +kernel
theorem dX7_givenOf_12 : decode cX7_givenOf 12 = .ok (.iaload, 1) := by decide +kernel
theorem dX7_givenOf_13 : decode cX7_givenOf 13 = .ok (.istore_n 3, 1) := by decide +kernel
theorem dX7_givenOf_14 : decode cX7_givenOf 14 = .ok (.aload_n 0, 1) := by decide +kernel
theorem dX7_givenOf_15 : decode cX7_givenOf 15 = .ok (.getfield 13, 3) := by decide +kernel
theorem dX7_givenOf_18 : decode cX7_givenOf 18 = .ok (.bipush 37, 2) := by decide +kernel
theorem dX7_givenOf_20 : decode cX7_givenOf 20 = .ok (.iaload, 1) := by decide +kernel
theorem dX7_givenOf_21 : decode cX7_givenOf 21 = .ok (.aload_n 0, 1) := by decide +kernel
theorem dX7_givenOf_22 : decode cX7_givenOf 22 = .ok (.getfield 13, 3) := by decide +kernel
theorem dX7_givenOf_25 : decode cX7_givenOf 25 = .ok (.bipush 39, 2) := by decide +kernel
theorem dX7_givenOf_27 : decode cX7_givenOf 27 = .ok (.iaload, 1) := by decide +kernel
theorem dX7_givenOf_28 : decode cX7_givenOf 28 = .ok (.iadd, 1) := by decide +kernel
theorem dX7_givenOf_29 : decode cX7_givenOf 29 = .ok (.istore 4, 2) := by decide +kernel
theorem dX7_givenOf_31 : decode cX7_givenOf 31 = .ok (.aload_n 0, 1) := by decide +kernel
theorem dX7_givenOf_32 : decode cX7_givenOf 32 = .ok (.getfield 126, 3) := by decide +kernel
theorem dX7_givenOf_35 : decode cX7_givenOf 35 = .ok (.ifCond .ne 20, 3) := by decide +kernel
theorem dX7_givenOf_38 : decode cX7_givenOf 38 = .ok (.iload_n 2, 1) := by decide +kernel
theorem dX7_givenOf_39 : decode cX7_givenOf 39 = .ok (.aload_n 0, 1) := by decide +kernel
theorem dX7_givenOf_40 : decode cX7_givenOf 40 = .ok (.getfield 13, 3) := by decide +kernel
theorem dX7_givenOf_43 : decode cX7_givenOf 43 = .ok (.bipush 36, 2) := by decide +kernel
theorem dX7_givenOf_45 : decode cX7_givenOf 45 = .ok (.iaload, 1) := by decide +kernel
theorem dX7_givenOf_46 : decode cX7_givenOf 46 = .ok (.if_icmp .lt 9, 3) := by decide +kernel
theorem dX7_givenOf_49 : decode cX7_givenOf 49 = .ok (.iload_n 2, 1) := by decide +kernel
theorem dX7_givenOf_50 : decode cX7_givenOf 50 = .ok (.iload 4, 2) := by decide +kernel
theorem dX7_givenOf_52 : decode cX7_givenOf 52 = .ok (.if_icmp .lt 5, 3) := by decide +kernel
theorem dX7_givenOf_55 : decode cX7_givenOf 55 = .ok (.iconst 0, 1) := by decide +kernel
theorem dX7_givenOf_56 : decode cX7_givenOf 56 = .ok (.ireturn, 1) := by decide +kernel
theorem dX7_givenOf_57 : decode cX7_givenOf 57 = .ok (.iload_n 2, 1) := by decide +kernel
theorem dX7_givenOf_58 : decode cX7_givenOf 58 = .ok (.aload_n 0, 1) := by decide +kernel
theorem dX7_givenOf_59 : decode cX7_givenOf 59 = .ok (.getfield 13, 3) := by decide +kernel
theorem dX7_givenOf_62 : decode cX7_givenOf 62 = .ok (.bipush 37, 2) := by decide +kernel
theorem dX7_givenOf_64 : decode cX7_givenOf 64 = .ok (.iaload, 1) := by decide +kernel
theorem dX7_givenOf_65 : decode cX7_givenOf 65 = .ok (.if_icmp .ge 7, 3) := by decide +kernel
theorem dX7_givenOf_68 : decode cX7_givenOf 68 = .ok (.iload_n 3, 1) := by decide +kernel
theorem dX7_givenOf_69 : decode cX7_givenOf 69 = .ok (.goto 19, 3) := by decide +kernel
theorem dX7_givenOf_72 : decode cX7_givenOf 72 = .ok (.iload_n 3, 1) := by decide +kernel
theorem dX7_givenOf_73 : decode cX7_givenOf 73 = .ok (.iload 4, 2) := by decide +kernel
theorem dX7_givenOf_75 : decode cX7_givenOf 75 = .ok (.iload_n 2, 1) := by decide +kernel
theorem dX7_givenOf_76 : decode cX7_givenOf 76 = .ok (.isub, 1) := by decide +kernel
theorem dX7_givenOf_77 : decode cX7_givenOf 77 = .ok (.imul, 1) := by decide +kernel
theorem dX7_givenOf_78 : decode cX7_givenOf 78 = .ok (.aload_n 0, 1) := by decide +kernel
theorem dX7_givenOf_79 : decode cX7_givenOf 79 = .ok (.getfield 13, 3) := by decide +kernel
theorem dX7_givenOf_82 : decode cX7_givenOf 82 = .ok (.bipush 39, 2) := by decide +kernel
theorem dX7_givenOf_84 : decode cX7_givenOf 84 = .ok (.iaload, 1) := by decide +kernel
theorem dX7_givenOf_85 : decode cX7_givenOf 85 = .ok (.iconst 1, 1) := by decide +kernel
theorem dX7_givenOf_86 : decode cX7_givenOf 86 = .ok (.iadd, 1) := by decide +kernel
theorem dX7_givenOf_87 : decode cX7_givenOf 87 = .ok (.idiv, 1) := by decide +kernel
theorem dX7_givenOf_88 : decode cX7_givenOf 88 = .ok (.ireturn, 1) := by decide +kernel
theorem dX7_given_0 : decode cX7_given 0 = .ok (.aload_n 0, 1) := by decide +kernel
theorem dX7_given_1 : decode cX7_given 1 = .ok (.iconst 0, 1) := by decide +kernel
theorem dX7_given_2 : decode cX7_given 2 = .ok (.putfield 47, 3) := by decide +kernel
theorem dX7_given_5 : decode cX7_given 5 = .ok (.aload_n 0, 1) := by decide +kernel
theorem dX7_given_6 : decode cX7_given 6 = .ok (.iload_n 1, 1) := by decide +kernel
theorem dX7_given_7 : decode cX7_given 7 = .ok (.invokevirtual 123, 3) := by decide +kernel
theorem dX7_given_10 : decode cX7_given 10 = .ok (.ifCond .eq 19, 3) := by decide +kernel
theorem dX7_given_13 : decode cX7_given 13 = .ok (.iload_n 2, 1) := by decide +kernel
theorem dX7_given_14 : decode cX7_given 14 = .ok (.invokestatic 130, 3) := by decide +kernel
theorem dX7_given_17 : decode cX7_given 17 = .ok (.ifCond .eq 12, 3) := by decide +kernel
theorem dX7_given_20 : decode cX7_given 20 = .ok (.aload_n 0, 1) := by decide +kernel
theorem dX7_given_21 : decode cX7_given 21 = .ok (.iload_n 1, 1) := by decide +kernel
theorem dX7_given_22 : decode cX7_given 22 = .ok (.iload_n 2, 1) := by decide +kernel
theorem dX7_given_23 : decode cX7_given 23 = .ok (.invokevirtual 133, 3) := by decide +kernel
theorem dX7_given_26 : decode cX7_given 26 = .ok (.goto 4, 3) := by decide +kernel
theorem dX7_given_29 : decode cX7_given 29 = .ok (.iconst (-1), 1) := by decide +kernel
theorem dX7_given_30 : decode cX7_given 30 = .ok (.ireturn, 1) := by decide +kernel
theorem dX7_pagesOf_0 : decode cX7_pagesOf 0 = .ok (.bipush 6, 2) := by decide +kernel
theorem dX7_pagesOf_2 : decode cX7_pagesOf 2 = .ok (.aload_n 0, 1) := by decide +kernel
theorem dX7_pagesOf_3 : decode cX7_pagesOf 3 = .ok (.getfield 13, 3) := by decide +kernel
theorem dX7_pagesOf_6 : decode cX7_pagesOf 6 = .ok (.iconst 3, 1) := by decide +kernel
theorem dX7_pagesOf_7 : decode cX7_pagesOf 7 = .ok (.iload_n 1, 1) := by decide +kernel
theorem dX7_pagesOf_8 : decode cX7_pagesOf 8 = .ok (.imul, 1) := by decide +kernel
theorem dX7_pagesOf_9 : decode cX7_pagesOf 9 = .ok (.iconst 1, 1) := by decide +kernel
theorem dX7_pagesOf_10 : decode cX7_pagesOf 10 = .ok (.iadd, 1) := by decide +kernel
theorem dX7_pagesOf_11 : decode cX7_pagesOf 11 = .ok (.iaload, 1) := by decide +kernel
theorem dX7_pagesOf_12 : decode cX7_pagesOf 12 = .ok (.imul, 1) := by decide +kernel
theorem dX7_pagesOf_13 : decode cX7_pagesOf 13 = .ok (.aload_n 0, 1) := by decide +kernel
theorem dX7_pagesOf_14 : decode cX7_pagesOf 14 = .ok (.getfield 13, 3) := by decide +kernel
theorem dX7_pagesOf_17 : decode cX7_pagesOf 17 = .ok (.bipush 24, 2) := by decide +kernel
theorem dX7_pagesOf_19 : decode cX7_pagesOf 19 = .ok (.iconst 3, 1) := by decide +kernel
theorem dX7_pagesOf_20 : decode cX7_pagesOf 20 = .ok (.iload_n 2, 1) := by decide +kernel
theorem dX7_pagesOf_21 : decode cX7_pagesOf 21 = .ok (.imul, 1) := by decide +kernel
theorem dX7_pagesOf_22 : decode cX7_pagesOf 22 = .ok (.iadd, 1) := by decide +kernel
theorem dX7_pagesOf_23 : decode cX7_pagesOf 23 = .ok (.iaload, 1) := by decide +kernel
theorem dX7_pagesOf_24 : decode cX7_pagesOf 24 = .ok (.idiv, 1) := by decide +kernel
theorem dX7_pagesOf_25 : decode cX7_pagesOf 25 = .ok (.ireturn, 1) := by decide +kernel
theorem dX7_joysOf_0 : decode cX7_joysOf 0 = .ok (.aload_n 0, 1) := by decide +kernel
theorem dX7_joysOf_1 : decode cX7_joysOf 1 = .ok (.getfield 13, 3) := by decide +kernel
theorem dX7_joysOf_4 : decode cX7_joysOf 4 = .ok (.bipush 24, 2) := by decide +kernel
theorem dX7_joysOf_6 : decode cX7_joysOf 6 = .ok (.iconst 3, 1) := by decide +kernel
theorem dX7_joysOf_7 : decode cX7_joysOf 7 = .ok (.iload_n 3, 1) := by decide +kernel
theorem dX7_joysOf_8 : decode cX7_joysOf 8 = .ok (.imul, 1) := by decide +kernel
theorem dX7_joysOf_9 : decode cX7_joysOf 9 = .ok (.iadd, 1) := by decide +kernel
theorem dX7_joysOf_10 : decode cX7_joysOf 10 = .ok (.iconst 1, 1) := by decide +kernel
theorem dX7_joysOf_11 : decode cX7_joysOf 11 = .ok (.iadd, 1) := by decide +kernel
theorem dX7_joysOf_12 : decode cX7_joysOf 12 = .ok (.iaload, 1) := by decide +kernel
theorem dX7_joysOf_13 : decode cX7_joysOf 13 = .ok (.aload_n 1, 1) := by decide +kernel
theorem dX7_joysOf_14 : decode cX7_joysOf 14 = .ok (.iconst 3, 1) := by decide +kernel
theorem dX7_joysOf_15 : decode cX7_joysOf 15 = .ok (.iconst 3, 1) := by decide +kernel
theorem dX7_joysOf_16 : decode cX7_joysOf 16 = .ok (.iload_n 2, 1) := by decide +kernel
theorem dX7_joysOf_17 : decode cX7_joysOf 17 = .ok (.imul, 1) := by decide +kernel
theorem dX7_joysOf_18 : decode cX7_joysOf 18 = .ok (.iadd, 1) := by decide +kernel
theorem dX7_joysOf_19 : decode cX7_joysOf 19 = .ok (.iaload, 1) := by decide +kernel
theorem dX7_joysOf_20 : decode cX7_joysOf 20 = .ok (.imul, 1) := by decide +kernel
theorem dX7_joysOf_21 : decode cX7_joysOf 21 = .ok (.bipush 10, 2) := by decide +kernel
theorem dX7_joysOf_23 : decode cX7_joysOf 23 = .ok (.idiv, 1) := by decide +kernel
theorem dX7_joysOf_24 : decode cX7_joysOf 24 = .ok (.ireturn, 1) := by decide +kernel
theorem dX7_starsOf_0 : decode cX7_starsOf 0 = .ok (.aload_n 0, 1) := by decide +kernel
theorem dX7_starsOf_1 : decode cX7_starsOf 1 = .ok (.iload_n 2, 1) := by decide +kernel
theorem dX7_starsOf_2 : decode cX7_starsOf 2 = .ok (.iload_n 3, 1) := by decide +kernel
theorem dX7_starsOf_3 : decode cX7_starsOf 3 = .ok (.invokevirtual 136, 3) := by decide +kernel
theorem dX7_starsOf_6 : decode cX7_starsOf 6 = .ok (.aload_n 0, 1) := by decide +kernel
theorem dX7_starsOf_7 : decode cX7_starsOf 7 = .ok (.iload_n 3, 1) := by decide +kernel
theorem dX7_starsOf_8 : decode cX7_starsOf 8 = .ok (.iload 4, 2) := by decide +kernel
theorem dX7_starsOf_10 : decode cX7_starsOf 10 = .ok (.invokevirtual 133, 3) := by decide +kernel
theorem dX7_starsOf_13 : decode cX7_starsOf 13 = .ok (.imul, 1) := by decide +kernel
theorem dX7_starsOf_14 : decode cX7_starsOf 14 = .ok (.aload_n 0, 1) := by decide +kernel
theorem dX7_starsOf_15 : decode cX7_starsOf 15 = .ok (.getfield 13, 3) := by decide +kernel
theorem dX7_starsOf_18 : decode cX7_starsOf 18 = .ok (.iconst 3, 1) := by decide +kernel
theorem dX7_starsOf_19 : decode cX7_starsOf 19 = .ok (.iload_n 2, 1) := by decide +kernel
theorem dX7_starsOf_20 : decode cX7_starsOf 20 = .ok (.imul, 1) := by decide +kernel
theorem dX7_starsOf_21 : decode cX7_starsOf 21 = .ok (.iconst 2, 1) := by decide +kernel
theorem dX7_starsOf_22 : decode cX7_starsOf 22 = .ok (.iadd, 1) := by decide +kernel
theorem dX7_starsOf_23 : decode cX7_starsOf 23 = .ok (.iaload, 1) := by decide +kernel
theorem dX7_starsOf_24 : decode cX7_starsOf 24 = .ok (.imul, 1) := by decide +kernel
theorem dX7_starsOf_25 : decode cX7_starsOf 25 = .ok (.aload_n 1, 1) := by decide +kernel
theorem dX7_starsOf_26 : decode cX7_starsOf 26 = .ok (.iconst 1, 1) := by decide +kernel
theorem dX7_starsOf_27 : decode cX7_starsOf 27 = .ok (.iaload, 1) := by decide +kernel
theorem dX7_starsOf_28 : decode cX7_starsOf 28 = .ok (.imul, 1) := by decide +kernel
theorem dX7_starsOf_29 : decode cX7_starsOf 29 = .ok (.bipush 100, 2) := by decide +kernel
theorem dX7_starsOf_31 : decode cX7_starsOf 31 = .ok (.idiv, 1) := by decide +kernel
theorem dX7_starsOf_32 : decode cX7_starsOf 32 = .ok (.ireturn, 1) := by decide +kernel
theorem dX7_wantOf_0 : decode cX7_wantOf 0 = .ok (.aload_n 0, 1) := by decide +kernel
theorem dX7_wantOf_1 : decode cX7_wantOf 1 = .ok (.aload_n 1, 1) := by decide +kernel
theorem dX7_wantOf_2 : decode cX7_wantOf 2 = .ok (.iload_n 2, 1) := by decide +kernel
theorem dX7_wantOf_3 : decode cX7_wantOf 3 = .ok (.iload_n 3, 1) := by decide +kernel
theorem dX7_wantOf_4 : decode cX7_wantOf 4 = .ok (.invokevirtual 139, 3) := by decide +kernel
theorem dX7_wantOf_7 : decode cX7_wantOf 7 = .ok (.aload_n 0, 1) := by decide +kernel
theorem dX7_wantOf_8 : decode cX7_wantOf 8 = .ok (.getfield 13, 3) := by decide +kernel
theorem dX7_wantOf_11 : decode cX7_wantOf 11 = .ok (.bipush 38, 2) := by decide +kernel
theorem dX7_wantOf_13 : decode cX7_wantOf 13 = .ok (.iaload, 1) := by decide +kernel
theorem dX7_wantOf_14 : decode cX7_wantOf 14 = .ok (.iconst 1, 1) := by decide +kernel
theorem dX7_wantOf_15 : decode cX7_wantOf 15 = .ok (.if_icmp .ne 15, 3) := by decide +kernel
theorem dX7_wantOf_18 : decode cX7_wantOf 18 = .ok (.aload_n 0, 1) := by decide +kernel
theorem dX7_wantOf_19 : decode cX7_wantOf 19 = .ok (.aload_n 1, 1) := by decide +kernel
theorem dX7_wantOf_20 : decode cX7_wantOf 20 = .ok (.iload_n 2, 1) := by decide +kernel
theorem dX7_wantOf_21 : decode cX7_wantOf 21 = .ok (.iload_n 3, 1) := by decide +kernel
theorem dX7_wantOf_22 : decode cX7_wantOf 22 = .ok (.iload 4, 2) := by decide +kernel
theorem dX7_wantOf_24 : decode cX7_wantOf 24 = .ok (.invokevirtual 143, 3) := by decide +kernel
theorem dX7_wantOf_27 : decode cX7_wantOf 27 = .ok (.goto 4, 3) := by decide +kernel
theorem dX7_wantOf_30 : decode cX7_wantOf 30 = .ok (.iconst 0, 1) := by decide +kernel
theorem dX7_wantOf_31 : decode cX7_wantOf 31 = .ok (.iadd, 1) := by decide +kernel
theorem dX7_wantOf_32 : decode cX7_wantOf 32 = .ok (.ireturn, 1) := by decide +kernel
theorem dX7_choiceOf_0 : decode cX7_choiceOf 0 = .ok (.bipush (-9), 2) := by decide +kernel
theorem dX7_choiceOf_2 : decode cX7_choiceOf 2 = .ok (.istore 4, 2) := by decide +kernel
theorem dX7_choiceOf_4 : decode cX7_choiceOf 4 = .ok (.aload_n 0, 1) := by decide +kernel
theorem dX7_choiceOf_5 : decode cX7_choiceOf 5 = .ok (.getfield 16, 3) := by decide +kernel
theorem dX7_choiceOf_8 : decode cX7_choiceOf 8 = .ok (.iconst 0, 1) := by decide +kernel
theorem dX7_choiceOf_9 : decode cX7_choiceOf 9 = .ok (.iaload, 1) := by decide +kernel
theorem dX7_choiceOf_10 : decode cX7_choiceOf 10 = .ok (.iconst 1, 1) := by decide +kernel
theorem dX7_choiceOf_11 : decode cX7_choiceOf 11 = .ok (.isub, 1) := by decide +kernel
theorem dX7_choiceOf_12 : decode cX7_choiceOf 12 = .ok (.istore 5, 2) := by decide +kernel
theorem dX7_choiceOf_14 : decode cX7_choiceOf 14 = .ok (.iconst 0, 1) := by decide +kernel
theorem dX7_choiceOf_15 : decode cX7_choiceOf 15 = .ok (.istore 6, 2) := by decide +kernel
theorem dX7_choiceOf_17 : decode cX7_choiceOf 17 = .ok (.iload 6, 2) := by decide +kernel
theorem dX7_choiceOf_19 : decode cX7_choiceOf 19 = .ok (.aload_n 0, 1) := by decide +kernel
theorem dX7_choiceOf_20 : decode cX7_choiceOf 20 = .ok (.getfield 13, 3) := by decide +kernel
theorem dX7_choiceOf_23 : decode cX7_choiceOf 23 = .ok (.bipush 41, 2) := by decide +kernel
theorem dX7_choiceOf_25 : decode cX7_choiceOf 25 = .ok (.iaload, 1) := by decide +kernel
theorem dX7_choiceOf_26 : decode cX7_choiceOf 26 = .ok (.if_icmp .ge 52, 3) := by decide +kernel
theorem dX7_choiceOf_29 : decode cX7_choiceOf 29 = .ok (.aload_n 0, 1) := by decide +kernel
theorem dX7_choiceOf_30 : decode cX7_choiceOf 30 = .ok (.aload_n 1, 1) := by decide +kernel
theorem dX7_choiceOf_31 : decode cX7_choiceOf 31 = .ok (.iload_n 2, 1) := by decide +kernel
theorem dX7_choiceOf_32 : decode cX7_choiceOf 32 = .ok (.iload 6, 2) := by decide +kernel
theorem dX7_choiceOf_34 : decode cX7_choiceOf 34 = .ok (.iload_n 3, 1) := by decide +kernel
theorem dX7_choiceOf_35 : decode cX7_choiceOf 35 = .ok (.invokevirtual 147, 3) := by decide +kernel
theorem dX7_choiceOf_38 : decode cX7_choiceOf 38 = .ok (.istore 7, 2) := by decide +kernel
theorem dX7_choiceOf_40 : decode cX7_choiceOf 40 = .ok (.iload 7, 2) := by decide +kernel
theorem dX7_choiceOf_42 : decode cX7_choiceOf 42 = .ok (.iload 5, 2) := by decide +kernel
theorem dX7_choiceOf_44 : decode cX7_choiceOf 44 = .ok (.if_icmp .le 8, 3) := by decide +kernel
theorem dX7_choiceOf_47 : decode cX7_choiceOf 47 = .ok (.iload 6, 2) := by decide +kernel
theorem dX7_choiceOf_49 : decode cX7_choiceOf 49 = .ok (.goto 5, 3) := by decide +kernel
theorem dX7_choiceOf_52 : decode cX7_choiceOf 52 = .ok (.iload 4, 2) := by decide +kernel
theorem dX7_choiceOf_54 : decode cX7_choiceOf 54 = .ok (.istore 4, 2) := by decide +kernel
theorem dX7_choiceOf_56 : decode cX7_choiceOf 56 = .ok (.iload 7, 2) := by decide +kernel
theorem dX7_choiceOf_58 : decode cX7_choiceOf 58 = .ok (.iload 5, 2) := by decide +kernel
theorem dX7_choiceOf_60 : decode cX7_choiceOf 60 = .ok (.if_icmp .le 8, 3) := by decide +kernel
theorem dX7_choiceOf_63 : decode cX7_choiceOf 63 = .ok (.iload 7, 2) := by decide +kernel
theorem dX7_choiceOf_65 : decode cX7_choiceOf 65 = .ok (.goto 5, 3) := by decide +kernel
theorem dX7_choiceOf_68 : decode cX7_choiceOf 68 = .ok (.iload 5, 2) := by decide +kernel
theorem dX7_choiceOf_70 : decode cX7_choiceOf 70 = .ok (.istore 5, 2) := by decide +kernel
theorem dX7_choiceOf_72 : decode cX7_choiceOf 72 = .ok (.iinc 6 1, 3) := by decide +kernel
theorem dX7_choiceOf_75 : decode cX7_choiceOf 75 = .ok (.goto (-58), 3) := by decide +kernel
theorem dX7_choiceOf_78 : decode cX7_choiceOf 78 = .ok (.iload 4, 2) := by decide +kernel
theorem dX7_choiceOf_80 : decode cX7_choiceOf 80 = .ok (.ireturn, 1) := by decide +kernel
theorem dX7_want_0 : decode cX7_want 0 = .ok (.aload_n 0, 1) := by decide +kernel
theorem dX7_want_1 : decode cX7_want 1 = .ok (.iconst 0, 1) := by decide +kernel
theorem dX7_want_2 : decode cX7_want 2 = .ok (.putfield 47, 3) := by decide +kernel
theorem dX7_want_5 : decode cX7_want 5 = .ok (.aload_n 0, 1) := by decide +kernel
theorem dX7_want_6 : decode cX7_want 6 = .ok (.iload_n 1, 1) := by decide +kernel
theorem dX7_want_7 : decode cX7_want 7 = .ok (.invokevirtual 120, 3) := by decide +kernel
theorem dX7_want_10 : decode cX7_want 10 = .ok (.ifCond .eq 20, 3) := by decide +kernel
theorem dX7_want_13 : decode cX7_want 13 = .ok (.aload_n 0, 1) := by decide +kernel
theorem dX7_want_14 : decode cX7_want 14 = .ok (.iload_n 2, 1) := by decide +kernel
theorem dX7_want_15 : decode cX7_want 15 = .ok (.invokevirtual 123, 3) := by decide +kernel
theorem dX7_want_18 : decode cX7_want 18 = .ok (.ifCond .eq 12, 3) := by decide +kernel
theorem dX7_want_21 : decode cX7_want 21 = .ok (.iload_n 3, 1) := by decide +kernel
theorem dX7_want_22 : decode cX7_want 22 = .ok (.iconst 0, 1) := by decide +kernel
theorem dX7_want_23 : decode cX7_want 23 = .ok (.iconst 3, 1) := by decide +kernel
theorem dX7_want_24 : decode cX7_want 24 = .ok (.invokestatic 51, 3) := by decide +kernel
theorem dX7_want_27 : decode cX7_want 27 = .ok (.ifCond .ne 5, 3) := by decide +kernel
theorem dX7_want_30 : decode cX7_want 30 = .ok (.iconst (-1), 1) := by decide +kernel
theorem dX7_want_31 : decode cX7_want 31 = .ok (.ireturn, 1) := by decide +kernel
theorem dX7_want_32 : decode cX7_want 32 = .ok (.iload_n 3, 1) := by decide +kernel
theorem dX7_want_33 : decode cX7_want 33 = .ok (.ifCond .ne 12, 3) := by decide +kernel
theorem dX7_want_36 : decode cX7_want 36 = .ok (.aload_n 0, 1) := by decide +kernel
theorem dX7_want_37 : decode cX7_want 37 = .ok (.iload_n 1, 1) := by decide +kernel
theorem dX7_want_38 : decode cX7_want 38 = .ok (.iload_n 2, 1) := by decide +kernel
theorem dX7_want_39 : decode cX7_want 39 = .ok (.invokevirtual 136, 3) := by decide +kernel
theorem dX7_want_42 : decode cX7_want 42 = .ok (.goto 61, 3) := by decide +kernel
theorem dX7_want_45 : decode cX7_want 45 = .ok (.iload_n 3, 1) := by decide +kernel
theorem dX7_want_46 : decode cX7_want 46 = .ok (.iconst 1, 1) := by decide +kernel
theorem dX7_want_47 : decode cX7_want 47 = .ok (.if_icmp .ne 16, 3) := by decide +kernel
theorem dX7_want_50 : decode cX7_want 50 = .ok (.aload_n 0, 1) := by decide +kernel
theorem dX7_want_51 : decode cX7_want 51 = .ok (.aload_n 0, 1) := by decide +kernel
theorem dX7_want_52 : decode cX7_want 52 = .ok (.getfield 19, 3) := by decide +kernel
theorem dX7_want_55 : decode cX7_want 55 = .ok (.iload_n 1, 1) := by decide +kernel
theorem dX7_want_56 : decode cX7_want 56 = .ok (.iload_n 2, 1) := by decide +kernel
theorem dX7_want_57 : decode cX7_want 57 = .ok (.invokevirtual 139, 3) := by decide +kernel
theorem dX7_want_60 : decode cX7_want 60 = .ok (.goto 43, 3) := by decide +kernel
theorem dX7_want_63 : decode cX7_want 63 = .ok (.iload_n 3, 1) := by decide +kernel
theorem dX7_want_64 : decode cX7_want 64 = .ok (.iconst 2, 1) := by decide +kernel
theorem dX7_want_65 : decode cX7_want 65 = .ok (.if_icmp .ne 22, 3) := by decide +kernel
theorem dX7_want_68 : decode cX7_want 68 = .ok (.aload_n 0, 1) := by decide +kernel
theorem dX7_want_69 : decode cX7_want 69 = .ok (.aload_n 0, 1) := by decide +kernel
theorem dX7_want_70 : decode cX7_want 70 = .ok (.getfield 19, 3) := by decide +kernel
theorem dX7_want_73 : decode cX7_want 73 = .ok (.iload_n 1, 1) := by decide +kernel
theorem dX7_want_74 : decode cX7_want 74 = .ok (.iload_n 2, 1) := by decide +kernel
theorem dX7_want_75 : decode cX7_want 75 = .ok (.aload_n 0, 1) := by decide +kernel
theorem dX7_want_76 : decode cX7_want 76 = .ok (.getfield 19, 3) := by decide +kernel
theorem dX7_want_79 : decode cX7_want 79 = .ok (.iconst 0, 1) := by decide +kernel
theorem dX7_want_80 : decode cX7_want 80 = .ok (.iaload, 1) := by decide +kernel
theorem dX7_want_81 : decode cX7_want 81 = .ok (.invokevirtual 143, 3) := by decide +kernel
theorem dX7_want_84 : decode cX7_want 84 = .ok (.goto 19, 3) := by decide +kernel
theorem dX7_want_87 : decode cX7_want 87 = .ok (.aload_n 0, 1) := by decide +kernel
theorem dX7_want_88 : decode cX7_want 88 = .ok (.aload_n 0, 1) := by decide +kernel
theorem dX7_want_89 : decode cX7_want 89 = .ok (.getfield 19, 3) := by decide +kernel
theorem dX7_want_92 : decode cX7_want 92 = .ok (.iload_n 1, 1) := by decide +kernel
theorem dX7_want_93 : decode cX7_want 93 = .ok (.iload_n 2, 1) := by decide +kernel
theorem dX7_want_94 : decode cX7_want 94 = .ok (.aload_n 0, 1) := by decide +kernel
theorem dX7_want_95 : decode cX7_want 95 = .ok (.getfield 19, 3) := by decide +kernel
theorem dX7_want_98 : decode cX7_want 98 = .ok (.iconst 0, 1) := by decide +kernel
theorem dX7_want_99 : decode cX7_want 99 = .ok (.iaload, 1) := by decide +kernel
theorem dX7_want_100 : decode cX7_want 100 = .ok (.invokevirtual 147, 3) := by decide +kernel
theorem dX7_want_103 : decode cX7_want 103 = .ok (.ireturn, 1) := by decide +kernel
theorem dX7_choice_0 : decode cX7_choice 0 = .ok (.aload_n 0, 1) := by decide +kernel
theorem dX7_choice_1 : decode cX7_choice 1 = .ok (.iconst 0, 1) := by decide +kernel
theorem dX7_choice_2 : decode cX7_choice 2 = .ok (.putfield 47, 3) := by decide +kernel
theorem dX7_choice_5 : decode cX7_choice 5 = .ok (.aload_n 0, 1) := by decide +kernel
theorem dX7_choice_6 : decode cX7_choice 6 = .ok (.iload_n 1, 1) := by decide +kernel
theorem dX7_choice_7 : decode cX7_choice 7 = .ok (.invokevirtual 120, 3) := by decide +kernel
theorem dX7_choice_10 : decode cX7_choice 10 = .ok (.ifCond .eq 21, 3) := by decide +kernel
theorem dX7_choice_13 : decode cX7_choice 13 = .ok (.aload_n 0, 1) := by decide +kernel
theorem dX7_choice_14 : decode cX7_choice 14 = .ok (.aload_n 0, 1) := by decide +kernel
theorem dX7_choice_15 : decode cX7_choice 15 = .ok (.getfield 19, 3) := by decide +kernel
theorem dX7_choice_18 : decode cX7_choice 18 = .ok (.iload_n 1, 1) := by decide +kernel
theorem dX7_choice_19 : decode cX7_choice 19 = .ok (.aload_n 0, 1) := by decide +kernel
theorem dX7_choice_20 : decode cX7_choice 20 = .ok (.getfield 19, 3) := by decide +kernel
theorem dX7_choice_23 : decode cX7_choice 23 = .ok (.iconst 0, 1) := by decide +kernel
theorem dX7_choice_24 : decode cX7_choice 24 = .ok (.iaload, 1) := by decide +kernel
theorem dX7_choice_25 : decode cX7_choice 25 = .ok (.invokevirtual 150, 3) := by decide +kernel
theorem dX7_choice_28 : decode cX7_choice 28 = .ok (.goto 4, 3) := by decide +kernel
theorem dX7_choice_31 : decode cX7_choice 31 = .ok (.iconst (-1), 1) := by decide +kernel
theorem dX7_choice_32 : decode cX7_choice 32 = .ok (.ireturn, 1) := by decide +kernel
theorem dX7_within_0 : decode cX7_within 0 = .ok (.iload_n 0, 1) := by decide +kernel
theorem dX7_within_1 : decode cX7_within 1 = .ok (.ifCond .ge 7, 3) := by decide +kernel
theorem dX7_within_4 : decode cX7_within 4 = .ok (.iconst 0, 1) := by decide +kernel
theorem dX7_within_5 : decode cX7_within 5 = .ok (.goto 15, 3) := by decide +kernel
theorem dX7_within_8 : decode cX7_within 8 = .ok (.iload_n 0, 1) := by decide +kernel
theorem dX7_within_9 : decode cX7_within 9 = .ok (.bipush 100, 2) := by decide +kernel
theorem dX7_within_11 : decode cX7_within 11 = .ok (.if_icmp .le 8, 3) := by decide +kernel
theorem dX7_within_14 : decode cX7_within 14 = .ok (.bipush 100, 2) := by decide +kernel
theorem dX7_within_16 : decode cX7_within 16 = .ok (.goto 4, 3) := by decide +kernel
theorem dX7_within_19 : decode cX7_within 19 = .ok (.iload_n 0, 1) := by decide +kernel
theorem dX7_within_20 : decode cX7_within 20 = .ok (.ireturn, 1) := by decide +kernel
theorem dX7_goesBy_0 : decode cX7_goesBy 0 = .ok (.aload_n 1, 1) := by decide +kernel
theorem dX7_goesBy_1 : decode cX7_goesBy 1 = .ok (.iconst 0, 1) := by decide +kernel
theorem dX7_goesBy_2 : decode cX7_goesBy 2 = .ok (.iaload, 1) := by decide +kernel
theorem dX7_goesBy_3 : decode cX7_goesBy 3 = .ok (.istore_n 2, 1) := by decide +kernel
theorem dX7_goesBy_4 : decode cX7_goesBy 4 = .ok (.iconst 0, 1) := by decide +kernel
theorem dX7_goesBy_5 : decode cX7_goesBy 5 = .ok (.istore_n 3, 1) := by decide +kernel
theorem dX7_goesBy_6 : decode cX7_goesBy 6 = .ok (.iconst 0, 1) := by decide +kernel
theorem dX7_goesBy_7 : decode cX7_goesBy 7 = .ok (.istore 4, 2) := by decide +kernel
theorem dX7_goesBy_9 : decode cX7_goesBy 9 = .ok (.iconst 0, 1) := by decide +kernel
theorem dX7_goesBy_10 : decode cX7_goesBy 10 = .ok (.istore 5, 2) := by decide +kernel
theorem dX7_goesBy_12 : decode cX7_goesBy 12 = .ok (.iload 5, 2) := by decide +kernel
theorem dX7_goesBy_14 : decode cX7_goesBy 14 = .ok (.aload_n 0, 1) := by decide +kernel
theorem dX7_goesBy_15 : decode cX7_goesBy 15 = .ok (.getfield 13, 3) := by decide +kernel
theorem dX7_goesBy_18 : decode cX7_goesBy 18 = .ok (.bipush 40, 2) := by decide +kernel
theorem dX7_goesBy_20 : decode cX7_goesBy 20 = .ok (.iaload, 1) := by decide +kernel
theorem dX7_goesBy_21 : decode cX7_goesBy 21 = .ok (.if_icmp .ge 200, 3) := by decide +kernel
theorem dX7_goesBy_24 : decode cX7_goesBy 24 = .ok (.aload_n 0, 1) := by decide +kernel
theorem dX7_goesBy_25 : decode cX7_goesBy 25 = .ok (.aload_n 1, 1) := by decide +kernel
theorem dX7_goesBy_26 : decode cX7_goesBy 26 = .ok (.iload 5, 2) := by decide +kernel
theorem dX7_goesBy_28 : decode cX7_goesBy 28 = .ok (.iload_n 2, 1) := by decide +kernel
theorem dX7_goesBy_29 : decode cX7_goesBy 29 = .ok (.invokevirtual 150, 3) := by decide +kernel
theorem dX7_goesBy_32 : decode cX7_goesBy 32 = .ok (.istore 6, 2) := by decide +kernel
theorem dX7_goesBy_34 : decode cX7_goesBy 34 = .ok (.iload 6, 2) := by decide +kernel
theorem dX7_goesBy_36 : decode cX7_goesBy 36 = .ok (.bipush (-9), 2) := by decide +kernel
theorem dX7_goesBy_38 : decode cX7_goesBy 38 = .ok (.if_icmp .eq 177, 3) := by decide +kernel
theorem dX7_goesBy_41 : decode cX7_goesBy 41 = .ok (.aload_n 0, 1) := by decide +kernel
theorem dX7_goesBy_42 : decode cX7_goesBy 42 = .ok (.iload 5, 2) := by decide +kernel
theorem dX7_goesBy_44 : decode cX7_goesBy 44 = .ok (.iload 6, 2) := by decide +kernel
theorem dX7_goesBy_46 : decode cX7_goesBy 46 = .ok (.invokevirtual 136, 3) := by decide +kernel
theorem dX7_goesBy_49 : decode cX7_goesBy 49 = .ok (.istore 7, 2) := by decide +kernel
theorem dX7_goesBy_51 : decode cX7_goesBy 51 = .ok (.iload 7, 2) := by decide +kernel
theorem dX7_goesBy_53 : decode cX7_goesBy 53 = .ok (.aload_n 0, 1) := by decide +kernel
theorem dX7_goesBy_54 : decode cX7_goesBy 54 = .ok (.iload 6, 2) := by decide +kernel
theorem dX7_goesBy_56 : decode cX7_goesBy 56 = .ok (.iload_n 2, 1) := by decide +kernel
theorem dX7_goesBy_57 : decode cX7_goesBy 57 = .ok (.invokevirtual 133, 3) := by decide +kernel
theorem dX7_goesBy_60 : decode cX7_goesBy 60 = .ok (.imul, 1) := by decide +kernel
theorem dX7_goesBy_61 : decode cX7_goesBy 61 = .ok (.istore 8, 2) := by decide +kernel
theorem dX7_goesBy_63 : decode cX7_goesBy 63 = .ok (.aload_n 0, 1) := by decide +kernel
theorem dX7_goesBy_64 : decode cX7_goesBy 64 = .ok (.aload_n 1, 1) := by decide +kernel
theorem dX7_goesBy_65 : decode cX7_goesBy 65 = .ok (.iload 5, 2) := by decide +kernel
theorem dX7_goesBy_67 : decode cX7_goesBy 67 = .ok (.iload 6, 2) := by decide +kernel
theorem dX7_goesBy_69 : decode cX7_goesBy 69 = .ok (.iload_n 2, 1) := by decide +kernel
theorem dX7_goesBy_70 : decode cX7_goesBy 70 = .ok (.invokevirtual 143, 3) := by decide +kernel
theorem dX7_goesBy_73 : decode cX7_goesBy 73 = .ok (.istore 9, 2) := by decide +kernel
theorem dX7_goesBy_75 : decode cX7_goesBy 75 = .ok (.iconst 3, 1) := by decide +kernel
theorem dX7_goesBy_76 : decode cX7_goesBy 76 = .ok (.iconst 3, 1) := by decide +kernel
theorem dX7_goesBy_77 : decode cX7_goesBy 77 = .ok (.iload 5, 2) := by decide +kernel
theorem dX7_goesBy_79 : decode cX7_goesBy 79 = .ok (.imul, 1) := by decide +kernel
theorem dX7_goesBy_80 : decode cX7_goesBy 80 = .ok (.iadd, 1) := by decide +kernel
theorem dX7_goesBy_81 : decode cX7_goesBy 81 = .ok (.istore 10, 2) := by decide +kernel
theorem dX7_goesBy_83 : decode cX7_goesBy 83 = .ok (.aload_n 1, 1) := by decide +kernel
theorem dX7_goesBy_84 : decode cX7_goesBy 84 = .ok (.iload 10, 2) := by decide +kernel
theorem dX7_goesBy_86 : decode cX7_goesBy 86 = .ok (.iaload, 1) := by decide +kernel
theorem dX7_goesBy_87 : decode cX7_goesBy 87 = .ok (.iload 7, 2) := by decide +kernel
theorem dX7_goesBy_89 : decode cX7_goesBy 89 = .ok (.ifCond .le 12, 3) := by decide +kernel
theorem dX7_goesBy_92 : decode cX7_goesBy 92 = .ok (.aload_n 0, 1) := by decide +kernel
theorem dX7_goesBy_93 : decode cX7_goesBy 93 = .ok (.getfield 16, 3) := by decide +kernel
theorem dX7_goesBy_96 : decode cX7_goesBy 96 = .ok (.iconst 1, 1) := by decide +kernel
theorem dX7_goesBy_97 : decode cX7_goesBy 97 = .ok (.iaload, 1) := by decide +kernel
theorem dX7_goesBy_98 : decode cX7_goesBy 98 = .ok (.goto 4, 3) := by decide +kernel
theorem dX7_goesBy_101 : decode cX7_goesBy 101 = .ok (.iconst 0, 1) := by decide +kernel
theorem dX7_goesBy_102 : decode cX7_goesBy 102 = .ok (.iadd, 1) := by decide +kernel
theorem dX7_goesBy_103 : decode cX7_goesBy 103 = .ok (.istore 11, 2) := by decide +kernel
theorem dX7_goesBy_105 : decode cX7_goesBy 105 = .ok (.aload_n 0, 1) := by decide +kernel
theorem dX7_goesBy_106 : decode cX7_goesBy 106 = .ok (.getfield 13, 3) := by decide +kernel
theorem dX7_goesBy_109 : decode cX7_goesBy 109 = .ok (.bipush 38, 2) := by decide +kernel
theorem dX7_goesBy_111 : decode cX7_goesBy 111 = .ok (.iaload, 1) := by decide +kernel
theorem dX7_goesBy_112 : decode cX7_goesBy 112 = .ok (.iconst 1, 1) := by decide +kernel
theorem dX7_goesBy_113 : decode cX7_goesBy 113 = .ok (.if_icmp .ne 33, 3) := by decide +kernel
theorem dX7_goesBy_116 : decode cX7_goesBy 116 = .ok (.iload 9, 2) := by decide +kernel
theorem dX7_goesBy_118 : decode cX7_goesBy 118 = .ok (.ifCond .le 28, 3) := by decide +kernel
theorem dX7_goesBy_121 : decode cX7_goesBy 121 = .ok (.iload 11, 2) := by decide +kernel
theorem dX7_goesBy_123 : decode cX7_goesBy 123 = .ok (.aload_n 0, 1) := by decide +kernel
theorem dX7_goesBy_124 : decode cX7_goesBy 124 = .ok (.getfield 16, 3) := by decide +kernel
theorem dX7_goesBy_127 : decode cX7_goesBy 127 = .ok (.iconst 2, 1) := by decide +kernel
theorem dX7_goesBy_128 : decode cX7_goesBy 128 = .ok (.iaload, 1) := by decide +kernel
theorem dX7_goesBy_129 : decode cX7_goesBy 129 = .ok (.iload 9, 2) := by decide +kernel
theorem dX7_goesBy_131 : decode cX7_goesBy 131 = .ok (.imul, 1) := by decide +kernel
theorem dX7_goesBy_132 : decode cX7_goesBy 132 = .ok (.aload_n 0, 1) := by decide +kernel
theorem dX7_goesBy_133 : decode cX7_goesBy 133 = .ok (.aload_n 1, 1) := by decide +kernel
theorem dX7_goesBy_134 : decode cX7_goesBy 134 = .ok (.iload 5, 2) := by decide +kernel
theorem dX7_goesBy_136 : decode cX7_goesBy 136 = .ok (.iload 6, 2) := by decide +kernel
theorem dX7_goesBy_138 : decode cX7_goesBy 138 = .ok (.iload_n 2, 1) := by decide +kernel
theorem dX7_goesBy_139 : decode cX7_goesBy 139 = .ok (.invokevirtual 147, 3) := by decide +kernel
theorem dX7_goesBy_142 : decode cX7_goesBy 142 = .ok (.idiv, 1) := by decide +kernel
theorem dX7_goesBy_143 : decode cX7_goesBy 143 = .ok (.isub, 1) := by decide +kernel
theorem dX7_goesBy_144 : decode cX7_goesBy 144 = .ok (.istore 11, 2) := by decide +kernel
theorem dX7_goesBy_146 : decode cX7_goesBy 146 = .ok (.aload_n 0, 1) := by decide +kernel
theorem dX7_goesBy_147 : decode cX7_goesBy 147 = .ok (.getfield 13, 3) := by decide +kernel
theorem dX7_goesBy_150 : decode cX7_goesBy 150 = .ok (.bipush 38, 2) := by decide +kernel
theorem dX7_goesBy_152 : decode cX7_goesBy 152 = .ok (.iaload, 1) := by decide +kernel
theorem dX7_goesBy_153 : decode cX7_goesBy 153 = .ok (.ifCond .ne 19, 3) := by decide +kernel
theorem dX7_goesBy_156 : decode cX7_goesBy 156 = .ok (.iload 8, 2) := by decide +kernel
theorem dX7_goesBy_158 : decode cX7_goesBy 158 = .ok (.ifCond .le 14, 3) := by decide +kernel
theorem dX7_goesBy_161 : decode cX7_goesBy 161 = .ok (.iload 11, 2) := by decide +kernel
theorem dX7_goesBy_163 : decode cX7_goesBy 163 = .ok (.aload_n 0, 1) := by decide +kernel
theorem dX7_goesBy_164 : decode cX7_goesBy 164 = .ok (.getfield 16, 3) := by decide +kernel
theorem dX7_goesBy_167 : decode cX7_goesBy 167 = .ok (.iconst 3, 1) := by decide +kernel
theorem dX7_goesBy_168 : decode cX7_goesBy 168 = .ok (.iaload, 1) := by decide +kernel
theorem dX7_goesBy_169 : decode cX7_goesBy 169 = .ok (.iadd, 1) := by decide +kernel
theorem dX7_goesBy_170 : decode cX7_goesBy 170 = .ok (.istore 11, 2) := by decide +kernel
theorem dX7_goesBy_172 : decode cX7_goesBy 172 = .ok (.aload_n 1, 1) := by decide +kernel
theorem dX7_goesBy_173 : decode cX7_goesBy 173 = .ok (.iload 10, 2) := by decide +kernel
theorem dX7_goesBy_175 : decode cX7_goesBy 175 = .ok (.iload 11, 2) := by decide +kernel
theorem dX7_goesBy_177 : decode cX7_goesBy 177 = .ok (.invokestatic 153, 3) := by decide +kernel
theorem dX7_goesBy_180 : decode cX7_goesBy 180 = .ok (.iastore, 1) := by decide +kernel
theorem dX7_goesBy_181 : decode cX7_goesBy 181 = .ok (.aload_n 1, 1) := by decide +kernel
theorem dX7_goesBy_182 : decode cX7_goesBy 182 = .ok (.iload 10, 2) := by decide +kernel
theorem dX7_goesBy_184 : decode cX7_goesBy 184 = .ok (.iconst 1, 1) := by decide +kernel
theorem dX7_goesBy_185 : decode cX7_goesBy 185 = .ok (.iadd, 1) := by decide +kernel
theorem dX7_goesBy_186 : decode cX7_goesBy 186 = .ok (.dup2, 1) := by decide +kernel
theorem dX7_goesBy_187 : decode cX7_goesBy 187 = .ok (.iaload, 1) := by decide +kernel
theorem dX7_goesBy_188 : decode cX7_goesBy 188 = .ok (.iload 7, 2) := by decide +kernel
theorem dX7_goesBy_190 : decode cX7_goesBy 190 = .ok (.iadd, 1) := by decide +kernel
theorem dX7_goesBy_191 : decode cX7_goesBy 191 = .ok (.iastore, 1) := by decide +kernel
theorem dX7_goesBy_192 : decode cX7_goesBy 192 = .ok (.aload_n 1, 1) := by decide +kernel
theorem dX7_goesBy_193 : decode cX7_goesBy 193 = .ok (.iload 10, 2) := by decide +kernel
theorem dX7_goesBy_195 : decode cX7_goesBy 195 = .ok (.iconst 2, 1) := by decide +kernel
theorem dX7_goesBy_196 : decode cX7_goesBy 196 = .ok (.iadd, 1) := by decide +kernel
theorem dX7_goesBy_197 : decode cX7_goesBy 197 = .ok (.dup2, 1) := by decide +kernel
theorem dX7_goesBy_198 : decode cX7_goesBy 198 = .ok (.iaload, 1) := by decide +kernel
theorem dX7_goesBy_199 : decode cX7_goesBy 199 = .ok (.iload 8, 2) := by decide +kernel
theorem dX7_goesBy_201 : decode cX7_goesBy 201 = .ok (.iadd, 1) := by decide +kernel
theorem dX7_goesBy_202 : decode cX7_goesBy 202 = .ok (.iastore, 1) := by decide +kernel
theorem dX7_goesBy_203 : decode cX7_goesBy 203 = .ok (.iload 4, 2) := by decide +kernel
theorem dX7_goesBy_205 : decode cX7_goesBy 205 = .ok (.iload 7, 2) := by decide +kernel
theorem dX7_goesBy_207 : decode cX7_goesBy 207 = .ok (.iadd, 1) := by decide +kernel
theorem dX7_goesBy_208 : decode cX7_goesBy 208 = .ok (.istore 4, 2) := by decide +kernel
theorem dX7_goesBy_210 : decode cX7_goesBy 210 = .ok (.iload_n 3, 1) := by decide +kernel
theorem dX7_goesBy_211 : decode cX7_goesBy 211 = .ok (.iload 8, 2) := by decide +kernel
theorem dX7_goesBy_213 : decode cX7_goesBy 213 = .ok (.iadd, 1) := by decide +kernel
theorem dX7_goesBy_214 : decode cX7_goesBy 214 = .ok (.istore_n 3, 1) := by decide +kernel
theorem dX7_goesBy_215 : decode cX7_goesBy 215 = .ok (.iinc 5 1, 3) := by decide +kernel
theorem dX7_goesBy_218 : decode cX7_goesBy 218 = .ok (.goto (-206), 3) := by decide +kernel
theorem dX7_goesBy_221 : decode cX7_goesBy 221 = .ok (.iconst 0, 1) := by decide +kernel
theorem dX7_goesBy_222 : decode cX7_goesBy 222 = .ok (.istore 5, 2) := by decide +kernel
theorem dX7_goesBy_224 : decode cX7_goesBy 224 = .ok (.iconst 0, 1) := by decide +kernel
theorem dX7_goesBy_225 : decode cX7_goesBy 225 = .ok (.istore 6, 2) := by decide +kernel
theorem dX7_goesBy_227 : decode cX7_goesBy 227 = .ok (.iload 6, 2) := by decide +kernel
theorem dX7_goesBy_229 : decode cX7_goesBy 229 = .ok (.aload_n 0, 1) := by decide +kernel
theorem dX7_goesBy_230 : decode cX7_goesBy 230 = .ok (.getfield 13, 3) := by decide +kernel
theorem dX7_goesBy_233 : decode cX7_goesBy 233 = .ok (.bipush 41, 2) := by decide +kernel
theorem dX7_goesBy_235 : decode cX7_goesBy 235 = .ok (.iaload, 1) := by decide +kernel
theorem dX7_goesBy_236 : decode cX7_goesBy 236 = .ok (.if_icmp .ge 29, 3) := by decide +kernel
theorem dX7_goesBy_239 : decode cX7_goesBy 239 = .ok (.iload 5, 2) := by decide +kernel
theorem dX7_goesBy_241 : decode cX7_goesBy 241 = .ok (.aload_n 0, 1) := by decide +kernel
theorem dX7_goesBy_242 : decode cX7_goesBy 242 = .ok (.iload 6, 2) := by decide +kernel
theorem dX7_goesBy_244 : decode cX7_goesBy 244 = .ok (.iload_n 2, 1) := by decide +kernel
theorem dX7_goesBy_245 : decode cX7_goesBy 245 = .ok (.invokevirtual 133, 3) := by decide +kernel
theorem dX7_goesBy_248 : decode cX7_goesBy 248 = .ok (.ifCond .le 7, 3) := by decide +kernel
theorem dX7_goesBy_251 : decode cX7_goesBy 251 = .ok (.iconst 1, 1) := by decide +kernel
theorem dX7_goesBy_252 : decode cX7_goesBy 252 = .ok (.goto 4, 3) := by decide +kernel
theorem dX7_goesBy_255 : decode cX7_goesBy 255 = .ok (.iconst 0, 1) := by decide +kernel
theorem dX7_goesBy_256 : decode cX7_goesBy 256 = .ok (.ior, 1) := by decide +kernel
theorem dX7_goesBy_257 : decode cX7_goesBy 257 = .ok (.istore 5, 2) := by decide +kernel
theorem dX7_goesBy_259 : decode cX7_goesBy 259 = .ok (.iinc 6 1, 3) := by decide +kernel
theorem dX7_goesBy_262 : decode cX7_goesBy 262 = .ok (.goto (-35), 3) := by decide +kernel
theorem dX7_goesBy_265 : decode cX7_goesBy 265 = .ok (.aload_n 0, 1) := by decide +kernel
theorem dX7_goesBy_266 : decode cX7_goesBy 266 = .ok (.getfield 13, 3) := by decide +kernel
theorem dX7_goesBy_269 : decode cX7_goesBy 269 = .ok (.bipush 40, 2) := by decide +kernel
theorem dX7_goesBy_271 : decode cX7_goesBy 271 = .ok (.iaload, 1) := by decide +kernel
theorem dX7_goesBy_272 : decode cX7_goesBy 272 = .ok (.ifCond .ne 7, 3) := by decide +kernel
theorem dX7_goesBy_275 : decode cX7_goesBy 275 = .ok (.iconst 0, 1) := by decide +kernel
theorem dX7_goesBy_276 : decode cX7_goesBy 276 = .ok (.goto 22, 3) := by decide +kernel
theorem dX7_goesBy_279 : decode cX7_goesBy 279 = .ok (.aload_n 0, 1) := by decide +kernel
theorem dX7_goesBy_280 : decode cX7_goesBy 280 = .ok (.getfield 16, 3) := by decide +kernel
theorem dX7_goesBy_283 : decode cX7_goesBy 283 = .ok (.iconst 4, 1) := by decide +kernel
theorem dX7_goesBy_284 : decode cX7_goesBy 284 = .ok (.iaload, 1) := by decide +kernel
theorem dX7_goesBy_285 : decode cX7_goesBy 285 = .ok (.iload_n 3, 1) := by decide +kernel
theorem dX7_goesBy_286 : decode cX7_goesBy 286 = .ok (.imul, 1) := by decide +kernel
theorem dX7_goesBy_287 : decode cX7_goesBy 287 = .ok (.bipush 10, 2) := by decide +kernel
theorem dX7_goesBy_289 : decode cX7_goesBy 289 = .ok (.aload_n 0, 1) := by decide +kernel
theorem dX7_goesBy_290 : decode cX7_goesBy 290 = .ok (.getfield 13, 3) := by decide +kernel
theorem dX7_goesBy_293 : decode cX7_goesBy 293 = .ok (.bipush 40, 2) := by decide +kernel
theorem dX7_goesBy_295 : decode cX7_goesBy 295 = .ok (.iaload, 1) := by decide +kernel
theorem dX7_goesBy_296 : decode cX7_goesBy 296 = .ok (.imul, 1) := by decide +kernel
theorem dX7_goesBy_297 : decode cX7_goesBy 297 = .ok (.idiv, 1) := by decide +kernel
theorem dX7_goesBy_298 : decode cX7_goesBy 298 = .ok (.istore 6, 2) := by decide +kernel
theorem dX7_goesBy_300 : decode cX7_goesBy 300 = .ok (.aload_n 1, 1) := by decide +kernel
theorem dX7_goesBy_301 : decode cX7_goesBy 301 = .ok (.iconst 1, 1) := by decide +kernel
theorem dX7_goesBy_302 : decode cX7_goesBy 302 = .ok (.aload_n 1, 1) := by decide +kernel
theorem dX7_goesBy_303 : decode cX7_goesBy 303 = .ok (.iconst 1, 1) := by decide +kernel
theorem dX7_goesBy_304 : decode cX7_goesBy 304 = .ok (.iaload, 1) := by decide +kernel
theorem dX7_goesBy_305 : decode cX7_goesBy 305 = .ok (.iload 6, 2) := by decide +kernel
theorem dX7_goesBy_307 : decode cX7_goesBy 307 = .ok (.isub, 1) := by decide +kernel
theorem dX7_goesBy_308 : decode cX7_goesBy 308 = .ok (.iload 5, 2) := by decide +kernel
theorem dX7_goesBy_310 : decode cX7_goesBy 310 = .ok (.ifCond .eq 7, 3) := by decide +kernel
theorem dX7_goesBy_313 : decode cX7_goesBy 313 = .ok (.iconst 0, 1) := by decide +kernel
theorem dX7_goesBy_314 : decode cX7_goesBy 314 = .ok (.goto 9, 3) := by decide +kernel
theorem dX7_goesBy_317 : decode cX7_goesBy 317 = .ok (.aload_n 0, 1) := by decide +kernel
theorem dX7_goesBy_318 : decode cX7_goesBy 318 = .ok (.getfield 16, 3) := by decide +kernel
theorem dX7_goesBy_321 : decode cX7_goesBy 321 = .ok (.iconst 5, 1) := by decide +kernel
theorem dX7_goesBy_322 : decode cX7_goesBy 322 = .ok (.iaload, 1) := by decide +kernel
theorem dX7_goesBy_323 : decode cX7_goesBy 323 = .ok (.iadd, 1) := by decide +kernel
theorem dX7_goesBy_324 : decode cX7_goesBy 324 = .ok (.invokestatic 153, 3) := by decide +kernel
theorem dX7_goesBy_327 : decode cX7_goesBy 327 = .ok (.iastore, 1) := by decide +kernel
theorem dX7_goesBy_328 : decode cX7_goesBy 328 = .ok (.aload_n 1, 1) := by decide +kernel
theorem dX7_goesBy_329 : decode cX7_goesBy 329 = .ok (.iconst 0, 1) := by decide +kernel
theorem dX7_goesBy_330 : decode cX7_goesBy 330 = .ok (.dup2, 1) := by decide +kernel
theorem dX7_goesBy_331 : decode cX7_goesBy 331 = .ok (.iaload, 1) := by decide +kernel
theorem dX7_goesBy_332 : decode cX7_goesBy 332 = .ok (.iconst 1, 1) := by decide +kernel
theorem dX7_goesBy_333 : decode cX7_goesBy 333 = .ok (.iadd, 1) := by decide +kernel
theorem dX7_goesBy_334 : decode cX7_goesBy 334 = .ok (.iastore, 1) := by decide +kernel
theorem dX7_goesBy_335 : decode cX7_goesBy 335 = .ok (.iload 4, 2) := by decide +kernel
theorem dX7_goesBy_337 : decode cX7_goesBy 337 = .ok (.ireturn, 1) := by decide +kernel
theorem dX7_go_0 : decode cX7_go 0 = .ok (.aload_n 0, 1) := by decide +kernel
theorem dX7_go_1 : decode cX7_go 1 = .ok (.iconst 0, 1) := by decide +kernel
theorem dX7_go_2 : decode cX7_go 2 = .ok (.putfield 47, 3) := by decide +kernel
theorem dX7_go_5 : decode cX7_go 5 = .ok (.iload_n 1, 1) := by decide +kernel
theorem dX7_go_6 : decode cX7_go 6 = .ok (.iconst 1, 1) := by decide +kernel
theorem dX7_go_7 : decode cX7_go 7 = .ok (.bipush 99, 2) := by decide +kernel
theorem dX7_go_9 : decode cX7_go 9 = .ok (.invokestatic 51, 3) := by decide +kernel
theorem dX7_go_12 : decode cX7_go 12 = .ok (.ifCond .ne 5, 3) := by decide +kernel
theorem dX7_go_15 : decode cX7_go 15 = .ok (.iconst (-1), 1) := by decide +kernel
theorem dX7_go_16 : decode cX7_go 16 = .ok (.ireturn, 1) := by decide +kernel
theorem dX7_go_17 : decode cX7_go 17 = .ok (.aload_n 0, 1) := by decide +kernel
theorem dX7_go_18 : decode cX7_go 18 = .ok (.getfield 19, 3) := by decide +kernel
theorem dX7_go_21 : decode cX7_go 21 = .ok (.iconst 0, 1) := by decide +kernel
theorem dX7_go_22 : decode cX7_go 22 = .ok (.iaload, 1) := by decide +kernel
theorem dX7_go_23 : decode cX7_go 23 = .ok (.bipush 99, 2) := by decide +kernel
theorem dX7_go_25 : decode cX7_go 25 = .ok (.if_icmp .ne 6, 3) := by decide +kernel
theorem dX7_go_28 : decode cX7_go 28 = .ok (.bipush (-2), 2) := by decide +kernel
theorem dX7_go_30 : decode cX7_go 30 = .ok (.ireturn, 1) := by decide +kernel
theorem dX7_go_31 : decode cX7_go 31 = .ok (.iconst 0, 1) := by decide +kernel
theorem dX7_go_32 : decode cX7_go 32 = .ok (.istore_n 2, 1) := by decide +kernel
theorem dX7_go_33 : decode cX7_go 33 = .ok (.iload_n 2, 1) := by decide +kernel
theorem dX7_go_34 : decode cX7_go 34 = .ok (.iload_n 1, 1) := by decide +kernel
theorem dX7_go_35 : decode cX7_go 35 = .ok (.if_icmp .ge 29, 3) := by decide +kernel
theorem dX7_go_38 : decode cX7_go 38 = .ok (.aload_n 0, 1) := by decide +kernel
theorem dX7_go_39 : decode cX7_go 39 = .ok (.getfield 19, 3) := by decide +kernel
theorem dX7_go_42 : decode cX7_go 42 = .ok (.iconst 0, 1) := by decide +kernel
theorem dX7_go_43 : decode cX7_go 43 = .ok (.iaload, 1) := by decide +kernel
theorem dX7_go_44 : decode cX7_go 44 = .ok (.bipush 99, 2) := by decide +kernel
theorem dX7_go_46 : decode cX7_go 46 = .ok (.if_icmp .ge 18, 3) := by decide +kernel
theorem dX7_go_49 : decode cX7_go 49 = .ok (.aload_n 0, 1) := by decide +kernel
theorem dX7_go_50 : decode cX7_go 50 = .ok (.aload_n 0, 1) := by decide +kernel
theorem dX7_go_51 : decode cX7_go 51 = .ok (.getfield 19, 3) := by decide +kernel
theorem dX7_go_54 : decode cX7_go 54 = .ok (.invokevirtual 156, 3) := by decide +kernel
theorem dX7_go_57 : decode cX7_go 57 = .ok (.pop, 1) := by decide +kernel
theorem dX7_go_58 : decode cX7_go 58 = .ok (.iinc 2 1, 3) := by decide +kernel
theorem dX7_go_61 : decode cX7_go 61 = .ok (.goto (-28), 3) := by decide +kernel
theorem dX7_go_64 : decode cX7_go 64 = .ok (.iload_n 2, 1) := by decide +kernel
theorem dX7_go_65 : decode cX7_go 65 = .ok (.ireturn, 1) := by decide +kernel
theorem dX7_allOf_0 : decode cX7_allOf 0 = .ok (.iconst 0, 1) := by decide +kernel
theorem dX7_allOf_1 : decode cX7_allOf 1 = .ok (.istore_n 3, 1) := by decide +kernel
theorem dX7_allOf_2 : decode cX7_allOf 2 = .ok (.iconst 0, 1) := by decide +kernel
theorem dX7_allOf_3 : decode cX7_allOf 3 = .ok (.istore 4, 2) := by decide +kernel
theorem dX7_allOf_5 : decode cX7_allOf 5 = .ok (.iload 4, 2) := by decide +kernel
theorem dX7_allOf_7 : decode cX7_allOf 7 = .ok (.aload_n 0, 1) := by decide +kernel
theorem dX7_allOf_8 : decode cX7_allOf 8 = .ok (.getfield 13, 3) := by decide +kernel
theorem dX7_allOf_11 : decode cX7_allOf 11 = .ok (.bipush 40, 2) := by decide +kernel
theorem dX7_allOf_13 : decode cX7_allOf 13 = .ok (.iaload, 1) := by decide +kernel
theorem dX7_allOf_14 : decode cX7_allOf 14 = .ok (.if_icmp .ge 22, 3) := by decide +kernel
theorem dX7_allOf_17 : decode cX7_allOf 17 = .ok (.iload_n 3, 1) := by decide +kernel
theorem dX7_allOf_18 : decode cX7_allOf 18 = .ok (.aload_n 1, 1) := by decide +kernel
theorem dX7_allOf_19 : decode cX7_allOf 19 = .ok (.iconst 3, 1) := by decide +kernel
theorem dX7_allOf_20 : decode cX7_allOf 20 = .ok (.iconst 3, 1) := by decide +kernel
theorem dX7_allOf_21 : decode cX7_allOf 21 = .ok (.iload 4, 2) := by decide +kernel
theorem dX7_allOf_23 : decode cX7_allOf 23 = .ok (.imul, 1) := by decide +kernel
theorem dX7_allOf_24 : decode cX7_allOf 24 = .ok (.iadd, 1) := by decide +kernel
theorem dX7_allOf_25 : decode cX7_allOf 25 = .ok (.iload_n 2, 1) := by decide +kernel
theorem dX7_allOf_26 : decode cX7_allOf 26 = .ok (.iadd, 1) := by decide +kernel
theorem dX7_allOf_27 : decode cX7_allOf 27 = .ok (.iaload, 1) := by decide +kernel
theorem dX7_allOf_28 : decode cX7_allOf 28 = .ok (.iadd, 1) := by decide +kernel
theorem dX7_allOf_29 : decode cX7_allOf 29 = .ok (.istore_n 3, 1) := by decide +kernel
theorem dX7_allOf_30 : decode cX7_allOf 30 = .ok (.iinc 4 1, 3) := by decide +kernel
theorem dX7_allOf_33 : decode cX7_allOf 33 = .ok (.goto (-28), 3) := by decide +kernel
theorem dX7_allOf_36 : decode cX7_allOf 36 = .ok (.iload_n 3, 1) := by decide +kernel
theorem dX7_allOf_37 : decode cX7_allOf 37 = .ok (.ireturn, 1) := by decide +kernel
theorem dX7_now_0 : decode cX7_now 0 = .ok (.aload_n 0, 1) := by decide +kernel
theorem dX7_now_1 : decode cX7_now 1 = .ok (.iconst 0, 1) := by decide +kernel
theorem dX7_now_2 : decode cX7_now 2 = .ok (.putfield 47, 3) := by decide +kernel
theorem dX7_now_5 : decode cX7_now 5 = .ok (.iload_n 1, 1) := by decide +kernel
theorem dX7_now_6 : decode cX7_now 6 = .ok (.iconst 0, 1) := by decide +kernel
theorem dX7_now_7 : decode cX7_now 7 = .ok (.iconst 4, 1) := by decide +kernel
theorem dX7_now_8 : decode cX7_now 8 = .ok (.invokestatic 51, 3) := by decide +kernel
theorem dX7_now_11 : decode cX7_now 11 = .ok (.ifCond .ne 7, 3) := by decide +kernel
theorem dX7_now_14 : decode cX7_now 14 = .ok (.iconst (-1), 1) := by decide +kernel
theorem dX7_now_15 : decode cX7_now 15 = .ok (.goto 28, 3) := by decide +kernel
theorem dX7_now_18 : decode cX7_now 18 = .ok (.iload_n 1, 1) := by decide +kernel
theorem dX7_now_19 : decode cX7_now 19 = .ok (.iconst 2, 1) := by decide +kernel
theorem dX7_now_20 : decode cX7_now 20 = .ok (.if_icmp .ge 12, 3) := by decide +kernel
theorem dX7_now_23 : decode cX7_now 23 = .ok (.aload_n 0, 1) := by decide +kernel
theorem dX7_now_24 : decode cX7_now 24 = .ok (.getfield 19, 3) := by decide +kernel
theorem dX7_now_27 : decode cX7_now 27 = .ok (.iload_n 1, 1) := by decide +kernel
theorem dX7_now_28 : decode cX7_now 28 = .ok (.iaload, 1) := by decide +kernel
theorem dX7_now_29 : decode cX7_now 29 = .ok (.goto 14, 3) := by decide +kernel
theorem dX7_now_32 : decode cX7_now 32 = .ok (.aload_n 0, 1) := by decide +kernel
theorem dX7_now_33 : decode cX7_now 33 = .ok (.aload_n 0, 1) := by decide +kernel
theorem dX7_now_34 : decode cX7_now 34 = .ok (.getfield 19, 3) := by decide +kernel
theorem dX7_now_37 : decode cX7_now 37 = .ok (.iload_n 1, 1) := by decide +kernel
theorem dX7_now_38 : decode cX7_now 38 = .ok (.iconst 2, 1) := by decide +kernel
theorem dX7_now_39 : decode cX7_now 39 = .ok (.isub, 1) := by decide +kernel
theorem dX7_now_40 : decode cX7_now 40 = .ok (.invokevirtual 160, 3) := by decide +kernel
theorem dX7_now_43 : decode cX7_now 43 = .ok (.ireturn, 1) := by decide +kernel
theorem dX7_anew_0 : decode cX7_anew 0 = .ok (.aload_n 0, 1) := by decide +kernel
theorem dX7_anew_1 : decode cX7_anew 1 = .ok (.iconst 0, 1) := by decide +kernel
theorem dX7_anew_2 : decode cX7_anew 2 = .ok (.putfield 47, 3) := by decide +kernel
theorem dX7_anew_5 : decode cX7_anew 5 = .ok (.aload_n 0, 1) := by decide +kernel
theorem dX7_anew_6 : decode cX7_anew 6 = .ok (.getfield 19, 3) := by decide +kernel
theorem dX7_anew_9 : decode cX7_anew 9 = .ok (.iconst 0, 1) := by decide +kernel
theorem dX7_anew_10 : decode cX7_anew 10 = .ok (.iaload, 1) := by decide +kernel
theorem dX7_anew_11 : decode cX7_anew 11 = .ok (.istore_n 1, 1) := by decide +kernel
theorem dX7_anew_12 : decode cX7_anew 12 = .ok (.aload_n 0, 1) := by decide +kernel
theorem dX7_anew_13 : decode cX7_anew 13 = .ok (.aload_n 0, 1) := by decide +kernel
theorem dX7_anew_14 : decode cX7_anew 14 = .ok (.getfield 19, 3) := by decide +kernel
theorem dX7_anew_17 : decode cX7_anew 17 = .ok (.invokevirtual 116, 3) := by decide +kernel
theorem dX7_anew_20 : decode cX7_anew 20 = .ok (.iload_n 1, 1) := by decide +kernel
theorem dX7_anew_21 : decode cX7_anew 21 = .ok (.ireturn, 1) := by decide +kernel
theorem dX7_pagesBy_0 : decode cX7_pagesBy 0 = .ok (.aload_n 0, 1) := by decide +kernel
theorem dX7_pagesBy_1 : decode cX7_pagesBy 1 = .ok (.aload_n 0, 1) := by decide +kernel
theorem dX7_pagesBy_2 : decode cX7_pagesBy 2 = .ok (.getfield 29, 3) := by decide +kernel
theorem dX7_pagesBy_5 : decode cX7_pagesBy 5 = .ok (.invokevirtual 116, 3) := by decide +kernel
theorem dX7_pagesBy_8 : decode cX7_pagesBy 8 = .ok (.iconst 0, 1) := by decide +kernel
theorem dX7_pagesBy_9 : decode cX7_pagesBy 9 = .ok (.istore_n 3, 1) := by decide +kernel
theorem dX7_pagesBy_10 : decode cX7_pagesBy 10 = .ok (.aload_n 0, 1) := by decide +kernel
theorem dX7_pagesBy_11 : decode cX7_pagesBy 11 = .ok (.getfield 29, 3) := by decide +kernel
theorem dX7_pagesBy_14 : decode cX7_pagesBy 14 = .ok (.iconst 0, 1) := by decide +kernel
theorem dX7_pagesBy_15 : decode cX7_pagesBy 15 = .ok (.iaload, 1) := by decide +kernel
theorem dX7_pagesBy_16 : decode cX7_pagesBy 16 = .ok (.iload_n 2, 1) := by decide +kernel
theorem dX7_pagesBy_17 : decode cX7_pagesBy 17 = .ok (.if_icmp .ge 50, 3) := by decide +kernel
theorem dX7_pagesBy_20 : decode cX7_pagesBy 20 = .ok (.aload_n 0, 1) := by decide +kernel
theorem dX7_pagesBy_21 : decode cX7_pagesBy 21 = .ok (.getfield 29, 3) := by decide +kernel
theorem dX7_pagesBy_24 : decode cX7_pagesBy 24 = .ok (.iconst 0, 1) := by decide +kernel
theorem dX7_pagesBy_25 : decode cX7_pagesBy 25 = .ok (.iaload, 1) := by decide +kernel
theorem dX7_pagesBy_26 : decode cX7_pagesBy 26 = .ok (.bipush 99, 2) := by decide +kernel
theorem dX7_pagesBy_28 : decode cX7_pagesBy 28 = .ok (.if_icmp .ge 39, 3) := by decide +kernel
theorem dX7_pagesBy_31 : decode cX7_pagesBy 31 = .ok (.aload_n 0, 1) := by decide +kernel
theorem dX7_pagesBy_32 : decode cX7_pagesBy 32 = .ok (.getfield 29, 3) := by decide +kernel
theorem dX7_pagesBy_35 : decode cX7_pagesBy 35 = .ok (.iconst 0, 1) := by decide +kernel
theorem dX7_pagesBy_36 : decode cX7_pagesBy 36 = .ok (.iaload, 1) := by decide +kernel
theorem dX7_pagesBy_37 : decode cX7_pagesBy 37 = .ok (.istore 4, 2) := by decide +kernel
theorem dX7_pagesBy_39 : decode cX7_pagesBy 39 = .ok (.aload_n 0, 1) := by decide +kernel
theorem dX7_pagesBy_40 : decode cX7_pagesBy 40 = .ok (.aload_n 0, 1) := by decide +kernel
theorem dX7_pagesBy_41 : decode cX7_pagesBy 41 = .ok (.getfield 29, 3) := by decide +kernel
theorem dX7_pagesBy_44 : decode cX7_pagesBy 44 = .ok (.invokevirtual 156, 3) := by decide +kernel
theorem dX7_pagesBy_47 : decode cX7_pagesBy 47 = .ok (.istore 5, 2) := by decide +kernel
theorem dX7_pagesBy_49 : decode cX7_pagesBy 49 = .ok (.iload_n 3, 1) := by decide +kernel
theorem dX7_pagesBy_50 : decode cX7_pagesBy 50 = .ok (.iload 4, 2) := by decide +kernel
theorem dX7_pagesBy_52 : decode cX7_pagesBy 52 = .ok (.iload_n 1, 1) := by decide +kernel
theorem dX7_pagesBy_53 : decode cX7_pagesBy 53 = .ok (.if_icmp .lt 8, 3) := by decide +kernel
theorem dX7_pagesBy_56 : decode cX7_pagesBy 56 = .ok (.iload 5, 2) := by decide +kernel
theorem dX7_pagesBy_58 : decode cX7_pagesBy 58 = .ok (.goto 4, 3) := by decide +kernel
theorem dX7_pagesBy_61 : decode cX7_pagesBy 61 = .ok (.iconst 0, 1) := by decide +kernel
theorem dX7_pagesBy_62 : decode cX7_pagesBy 62 = .ok (.iadd, 1) := by decide +kernel
theorem dX7_pagesBy_63 : decode cX7_pagesBy 63 = .ok (.istore_n 3, 1) := by decide +kernel
theorem dX7_pagesBy_64 : decode cX7_pagesBy 64 = .ok (.goto (-54), 3) := by decide +kernel
theorem dX7_pagesBy_67 : decode cX7_pagesBy 67 = .ok (.iload_n 3, 1) := by decide +kernel
theorem dX7_pagesBy_68 : decode cX7_pagesBy 68 = .ok (.ireturn, 1) := by decide +kernel
theorem dX7_term_0 : decode cX7_term 0 = .ok (.aload_n 0, 1) := by decide +kernel
theorem dX7_term_1 : decode cX7_term 1 = .ok (.iconst 0, 1) := by decide +kernel
theorem dX7_term_2 : decode cX7_term 2 = .ok (.putfield 47, 3) := by decide +kernel
theorem dX7_term_5 : decode cX7_term 5 = .ok (.iload_n 1, 1) := by decide +kernel
theorem dX7_term_6 : decode cX7_term 6 = .ok (.iconst 0, 1) := by decide +kernel
theorem dX7_term_7 : decode cX7_term 7 = .ok (.iconst 2, 1) := by decide +kernel
theorem dX7_term_8 : decode cX7_term 8 = .ok (.invokestatic 51, 3) := by decide +kernel
theorem dX7_term_11 : decode cX7_term 11 = .ok (.ifCond .ne 5, 3) := by decide +kernel
theorem dX7_term_14 : decode cX7_term 14 = .ok (.iconst (-1), 1) := by decide +kernel
theorem dX7_term_15 : decode cX7_term 15 = .ok (.ireturn, 1) := by decide +kernel
theorem dX7_term_16 : decode cX7_term 16 = .ok (.iload_n 1, 1) := by decide +kernel
theorem dX7_term_17 : decode cX7_term 17 = .ok (.ifCond .ne 22, 3) := by decide +kernel
theorem dX7_term_20 : decode cX7_term 20 = .ok (.aload_n 0, 1) := by decide +kernel
theorem dX7_term_21 : decode cX7_term 21 = .ok (.aload_n 0, 1) := by decide +kernel
theorem dX7_term_22 : decode cX7_term 22 = .ok (.getfield 13, 3) := by decide +kernel
theorem dX7_term_25 : decode cX7_term 25 = .ok (.bipush 36, 2) := by decide +kernel
theorem dX7_term_27 : decode cX7_term 27 = .ok (.iaload, 1) := by decide +kernel
theorem dX7_term_28 : decode cX7_term 28 = .ok (.aload_n 0, 1) := by decide +kernel
theorem dX7_term_29 : decode cX7_term 29 = .ok (.getfield 13, 3) := by decide +kernel
theorem dX7_term_32 : decode cX7_term 32 = .ok (.bipush 37, 2) := by decide +kernel
theorem dX7_term_34 : decode cX7_term 34 = .ok (.iaload, 1) := by decide +kernel
theorem dX7_term_35 : decode cX7_term 35 = .ok (.invokevirtual 164, 3) := by decide +kernel
theorem dX7_term_38 : decode cX7_term 38 = .ok (.ireturn, 1) := by decide +kernel
theorem dX7_term_39 : decode cX7_term 39 = .ok (.aload_n 0, 1) := by decide +kernel
theorem dX7_term_40 : decode cX7_term 40 = .ok (.getfield 13, 3) := by decide +kernel
theorem dX7_term_43 : decode cX7_term 43 = .ok (.bipush 37, 2) := by decide +kernel
theorem dX7_term_45 : decode cX7_term 45 = .ok (.iaload, 1) := by decide +kernel
theorem dX7_term_46 : decode cX7_term 46 = .ok (.aload_n 0, 1) := by decide +kernel
theorem dX7_term_47 : decode cX7_term 47 = .ok (.getfield 13, 3) := by decide +kernel
theorem dX7_term_50 : decode cX7_term 50 = .ok (.bipush 39, 2) := by decide +kernel
theorem dX7_term_52 : decode cX7_term 52 = .ok (.iaload, 1) := by decide +kernel
theorem dX7_term_53 : decode cX7_term 53 = .ok (.iadd, 1) := by decide +kernel
theorem dX7_term_54 : decode cX7_term 54 = .ok (.istore_n 2, 1) := by decide +kernel
theorem dX7_term_55 : decode cX7_term 55 = .ok (.aload_n 0, 1) := by decide +kernel
theorem dX7_term_56 : decode cX7_term 56 = .ok (.iload_n 1, 1) := by decide +kernel
theorem dX7_term_57 : decode cX7_term 57 = .ok (.iconst 2, 1) := by decide +kernel
theorem dX7_term_58 : decode cX7_term 58 = .ok (.if_icmp .ne 7, 3) := by decide +kernel
theorem dX7_term_61 : decode cX7_term 61 = .ok (.iconst 1, 1) := by decide +kernel
theorem dX7_term_62 : decode cX7_term 62 = .ok (.goto 4, 3) := by decide +kernel
theorem dX7_term_65 : decode cX7_term 65 = .ok (.iconst 0, 1) := by decide +kernel
theorem dX7_term_66 : decode cX7_term 66 = .ok (.putfield 126, 3) := by decide +kernel
theorem dX7_term_69 : decode cX7_term 69 = .ok (.aload_n 0, 1) := by decide +kernel
theorem dX7_term_70 : decode cX7_term 70 = .ok (.iload_n 2, 1) := by decide +kernel
end
section
theorem dX7_term_71 : decode cX7_term 71 = .ok (.iload_n 2, 1) := by decide +kernel
theorem dX7_term_72 : decode cX7_term 72 = .ok (.bipush 7, 2) := by decide +kernel
theorem dX7_term_74 : decode cX7_term 74 = .ok (.iadd, 1) := by decide +kernel
theorem dX7_term_75 : decode cX7_term 75 = .ok (.invokevirtual 164, 3) := by decide +kernel
theorem dX7_term_78 : decode cX7_term 78 = .ok (.istore_n 3, 1) := by decide +kernel
theorem dX7_term_79 : decode cX7_term 79 = .ok (.aload_n 0, 1) := by decide +kernel
theorem dX7_term_80 : decode cX7_term 80 = .ok (.iconst 0, 1) := by decide +kernel
theorem dX7_term_81 : decode cX7_term 81 = .ok (.putfield 126, 3) := by decide +kernel
theorem dX7_term_84 : decode cX7_term 84 = .ok (.iload_n 3, 1) := by decide +kernel
theorem dX7_term_85 : decode cX7_term 85 = .ok (.ireturn, 1) := by decide +kernel
theorem dX7_endOn_0 : decode cX7_endOn 0 = .ok (.aload_n 0, 1) := by decide +kernel
theorem dX7_endOn_1 : decode cX7_endOn 1 = .ok (.aload_n 0, 1) := by decide +kernel
theorem dX7_endOn_2 : decode cX7_endOn 2 = .ok (.getfield 29, 3) := by decide +kernel
theorem dX7_endOn_5 : decode cX7_endOn 5 = .ok (.invokevirtual 116, 3) := by decide +kernel
theorem dX7_endOn_8 : decode cX7_endOn 8 = .ok (.aload_n 0, 1) := by decide +kernel
theorem dX7_endOn_9 : decode cX7_endOn 9 = .ok (.getfield 29, 3) := by decide +kernel
theorem dX7_endOn_12 : decode cX7_endOn 12 = .ok (.iconst 0, 1) := by decide +kernel
theorem dX7_endOn_13 : decode cX7_endOn 13 = .ok (.iaload, 1) := by decide +kernel
theorem dX7_endOn_14 : decode cX7_endOn 14 = .ok (.iload_n 1, 1) := by decide +kernel
theorem dX7_endOn_15 : decode cX7_endOn 15 = .ok (.if_icmp .ge 15, 3) := by decide +kernel
theorem dX7_endOn_18 : decode cX7_endOn 18 = .ok (.aload_n 0, 1) := by decide +kernel
theorem dX7_endOn_19 : decode cX7_endOn 19 = .ok (.aload_n 0, 1) := by decide +kernel
theorem dX7_endOn_20 : decode cX7_endOn 20 = .ok (.getfield 29, 3) := by decide +kernel
theorem dX7_endOn_23 : decode cX7_endOn 23 = .ok (.invokevirtual 156, 3) := by decide +kernel
theorem dX7_endOn_26 : decode cX7_endOn 26 = .ok (.pop, 1) := by decide +kernel
theorem dX7_endOn_27 : decode cX7_endOn 27 = .ok (.goto (-19), 3) := by decide +kernel
theorem dX7_endOn_30 : decode cX7_endOn 30 = .ok (.aload_n 0, 1) := by decide +kernel
theorem dX7_endOn_31 : decode cX7_endOn 31 = .ok (.aload_n 0, 1) := by decide +kernel
theorem dX7_endOn_32 : decode cX7_endOn 32 = .ok (.getfield 29, 3) := by decide +kernel
theorem dX7_endOn_35 : decode cX7_endOn 35 = .ok (.iconst 0, 1) := by decide +kernel
theorem dX7_endOn_36 : decode cX7_endOn 36 = .ok (.invokevirtual 160, 3) := by decide +kernel
theorem dX7_endOn_39 : decode cX7_endOn 39 = .ok (.ireturn, 1) := by decide +kernel
theorem dX7_end_0 : decode cX7_end 0 = .ok (.aload_n 0, 1) := by decide +kernel
theorem dX7_end_1 : decode cX7_end 1 = .ok (.iconst 0, 1) := by decide +kernel
theorem dX7_end_2 : decode cX7_end 2 = .ok (.putfield 47, 3) := by decide +kernel
theorem dX7_end_5 : decode cX7_end 5 = .ok (.iload_n 1, 1) := by decide +kernel
theorem dX7_end_6 : decode cX7_end 6 = .ok (.invokestatic 130, 3) := by decide +kernel
theorem dX7_end_9 : decode cX7_end 9 = .ok (.ifCond .eq 11, 3) := by decide +kernel
theorem dX7_end_12 : decode cX7_end 12 = .ok (.aload_n 0, 1) := by decide +kernel
theorem dX7_end_13 : decode cX7_end 13 = .ok (.iload_n 1, 1) := by decide +kernel
theorem dX7_end_14 : decode cX7_end 14 = .ok (.invokevirtual 167, 3) := by decide +kernel
theorem dX7_end_17 : decode cX7_end 17 = .ok (.goto 4, 3) := by decide +kernel
theorem dX7_end_20 : decode cX7_end 20 = .ok (.iconst (-1), 1) := by decide +kernel
theorem dX7_end_21 : decode cX7_end 21 = .ok (.ireturn, 1) := by decide +kernel
theorem dX7_aside_0 : decode cX7_aside 0 = .ok (.iconst 0, 1) := by decide +kernel
theorem dX7_aside_1 : decode cX7_aside 1 = .ok (.istore_n 2, 1) := by decide +kernel
theorem dX7_aside_2 : decode cX7_aside 2 = .ok (.iload_n 2, 1) := by decide +kernel
theorem dX7_aside_3 : decode cX7_aside 3 = .ok (.bipush 42, 2) := by decide +kernel
theorem dX7_aside_5 : decode cX7_aside 5 = .ok (.if_icmp .ge 40, 3) := by decide +kernel
theorem dX7_aside_8 : decode cX7_aside 8 = .ok (.iload_n 1, 1) := by decide +kernel
theorem dX7_aside_9 : decode cX7_aside 9 = .ok (.ifCond .eq 18, 3) := by decide +kernel
theorem dX7_aside_12 : decode cX7_aside 12 = .ok (.aload_n 0, 1) := by decide +kernel
theorem dX7_aside_13 : decode cX7_aside 13 = .ok (.getfield 32, 3) := by decide +kernel
theorem dX7_aside_16 : decode cX7_aside 16 = .ok (.iload_n 2, 1) := by decide +kernel
theorem dX7_aside_17 : decode cX7_aside 17 = .ok (.aload_n 0, 1) := by decide +kernel
theorem dX7_aside_18 : decode cX7_aside 18 = .ok (.getfield 13, 3) := by decide +kernel
theorem dX7_aside_21 : decode cX7_aside 21 = .ok (.iload_n 2, 1) := by decide +kernel
theorem dX7_aside_22 : decode cX7_aside 22 = .ok (.iaload, 1) := by decide +kernel
theorem dX7_aside_23 : decode cX7_aside 23 = .ok (.iastore, 1) := by decide +kernel
theorem dX7_aside_24 : decode cX7_aside 24 = .ok (.goto 15, 3) := by decide +kernel
theorem dX7_aside_27 : decode cX7_aside 27 = .ok (.aload_n 0, 1) := by decide +kernel
theorem dX7_aside_28 : decode cX7_aside 28 = .ok (.getfield 13, 3) := by decide +kernel
theorem dX7_aside_31 : decode cX7_aside 31 = .ok (.iload_n 2, 1) := by decide +kernel
theorem dX7_aside_32 : decode cX7_aside 32 = .ok (.aload_n 0, 1) := by decide +kernel
theorem dX7_aside_33 : decode cX7_aside 33 = .ok (.getfield 32, 3) := by decide +kernel
theorem dX7_aside_36 : decode cX7_aside 36 = .ok (.iload_n 2, 1) := by decide +kernel
theorem dX7_aside_37 : decode cX7_aside 37 = .ok (.iaload, 1) := by decide +kernel
theorem dX7_aside_38 : decode cX7_aside 38 = .ok (.iastore, 1) := by decide +kernel
theorem dX7_aside_39 : decode cX7_aside 39 = .ok (.iinc 2 1, 3) := by decide +kernel
theorem dX7_aside_42 : decode cX7_aside 42 = .ok (.goto (-40), 3) := by decide +kernel
theorem dX7_aside_45 : decode cX7_aside 45 = .ok (.return_, 1) := by decide +kernel
theorem dX7_best_0 : decode cX7_best 0 = .ok (.aload_n 0, 1) := by decide +kernel
theorem dX7_best_1 : decode cX7_best 1 = .ok (.iconst 0, 1) := by decide +kernel
theorem dX7_best_2 : decode cX7_best 2 = .ok (.putfield 47, 3) := by decide +kernel
theorem dX7_best_5 : decode cX7_best 5 = .ok (.aload_n 0, 1) := by decide +kernel
theorem dX7_best_6 : decode cX7_best 6 = .ok (.iload_n 1, 1) := by decide +kernel
theorem dX7_best_7 : decode cX7_best 7 = .ok (.invokevirtual 123, 3) := by decide +kernel
theorem dX7_best_10 : decode cX7_best 10 = .ok (.ifCond .eq 28, 3) := by decide +kernel
theorem dX7_best_13 : decode cX7_best 13 = .ok (.iload_n 2, 1) := by decide +kernel
theorem dX7_best_14 : decode cX7_best 14 = .ok (.aload_n 0, 1) := by decide +kernel
theorem dX7_best_15 : decode cX7_best 15 = .ok (.getfield 13, 3) := by decide +kernel
theorem dX7_best_18 : decode cX7_best 18 = .ok (.bipush 36, 2) := by decide +kernel
theorem dX7_best_20 : decode cX7_best 20 = .ok (.iaload, 1) := by decide +kernel
theorem dX7_best_21 : decode cX7_best 21 = .ok (.bipush 99, 2) := by decide +kernel
theorem dX7_best_23 : decode cX7_best 23 = .ok (.invokestatic 51, 3) := by decide +kernel
theorem dX7_best_26 : decode cX7_best 26 = .ok (.ifCond .eq 12, 3) := by decide +kernel
theorem dX7_best_29 : decode cX7_best 29 = .ok (.iload_n 3, 1) := by decide +kernel
theorem dX7_best_30 : decode cX7_best 30 = .ok (.iconst 0, 1) := by decide +kernel
theorem dX7_best_31 : decode cX7_best 31 = .ok (.iconst 2, 1) := by decide +kernel
theorem dX7_best_32 : decode cX7_best 32 = .ok (.invokestatic 51, 3) := by decide +kernel
theorem dX7_best_35 : decode cX7_best 35 = .ok (.ifCond .ne 5, 3) := by decide +kernel
theorem dX7_best_38 : decode cX7_best 38 = .ok (.iconst (-1), 1) := by decide +kernel
theorem dX7_best_39 : decode cX7_best 39 = .ok (.ireturn, 1) := by decide +kernel
theorem dX7_best_40 : decode cX7_best 40 = .ok (.aload_n 0, 1) := by decide +kernel
theorem dX7_best_41 : decode cX7_best 41 = .ok (.iconst 1, 1) := by decide +kernel
theorem dX7_best_42 : decode cX7_best 42 = .ok (.invokevirtual 170, 3) := by decide +kernel
theorem dX7_best_45 : decode cX7_best 45 = .ok (.iconst 0, 1) := by decide +kernel
theorem dX7_best_46 : decode cX7_best 46 = .ok (.istore 4, 2) := by decide +kernel
theorem dX7_best_48 : decode cX7_best 48 = .ok (.iload 4, 2) := by decide +kernel
theorem dX7_best_50 : decode cX7_best 50 = .ok (.iconst 4, 1) := by decide +kernel
theorem dX7_best_51 : decode cX7_best 51 = .ok (.if_icmp .ge 24, 3) := by decide +kernel
theorem dX7_best_54 : decode cX7_best 54 = .ok (.aload_n 0, 1) := by decide +kernel
theorem dX7_best_55 : decode cX7_best 55 = .ok (.getfield 13, 3) := by decide +kernel
theorem dX7_best_58 : decode cX7_best 58 = .ok (.bipush 24, 2) := by decide +kernel
theorem dX7_best_60 : decode cX7_best 60 = .ok (.iconst 3, 1) := by decide +kernel
theorem dX7_best_61 : decode cX7_best 61 = .ok (.iload 4, 2) := by decide +kernel
theorem dX7_best_63 : decode cX7_best 63 = .ok (.imul, 1) := by decide +kernel
theorem dX7_best_64 : decode cX7_best 64 = .ok (.iadd, 1) := by decide +kernel
theorem dX7_best_65 : decode cX7_best 65 = .ok (.iconst 2, 1) := by decide +kernel
theorem dX7_best_66 : decode cX7_best 66 = .ok (.iadd, 1) := by decide +kernel
theorem dX7_best_67 : decode cX7_best 67 = .ok (.iconst 0, 1) := by decide +kernel
theorem dX7_best_68 : decode cX7_best 68 = .ok (.iastore, 1) := by decide +kernel
theorem dX7_best_69 : decode cX7_best 69 = .ok (.iinc 4 1, 3) := by decide +kernel
theorem dX7_best_72 : decode cX7_best 72 = .ok (.goto (-24), 3) := by decide +kernel
theorem dX7_best_75 : decode cX7_best 75 = .ok (.iconst 0, 1) := by decide +kernel
theorem dX7_best_76 : decode cX7_best 76 = .ok (.istore 4, 2) := by decide +kernel
theorem dX7_best_78 : decode cX7_best 78 = .ok (.iconst 0, 1) := by decide +kernel
theorem dX7_best_79 : decode cX7_best 79 = .ok (.istore 5, 2) := by decide +kernel
theorem dX7_best_81 : decode cX7_best 81 = .ok (.iconst (-1), 1) := by decide +kernel
theorem dX7_best_82 : decode cX7_best 82 = .ok (.istore 6, 2) := by decide +kernel
theorem dX7_best_84 : decode cX7_best 84 = .ok (.iconst 0, 1) := by decide +kernel
theorem dX7_best_85 : decode cX7_best 85 = .ok (.istore 7, 2) := by decide +kernel
theorem dX7_best_87 : decode cX7_best 87 = .ok (.iload 7, 2) := by decide +kernel
theorem dX7_best_89 : decode cX7_best 89 = .ok (.bipush 10, 2) := by decide +kernel
theorem dX7_best_91 : decode cX7_best 91 = .ok (.if_icmp .ge 109, 3) := by decide +kernel
theorem dX7_best_94 : decode cX7_best 94 = .ok (.aload_n 0, 1) := by decide +kernel
theorem dX7_best_95 : decode cX7_best 95 = .ok (.getfield 13, 3) := by decide +kernel
theorem dX7_best_98 : decode cX7_best 98 = .ok (.bipush 36, 2) := by decide +kernel
theorem dX7_best_100 : decode cX7_best 100 = .ok (.iaload, 1) := by decide +kernel
theorem dX7_best_101 : decode cX7_best 101 = .ok (.istore 8, 2) := by decide +kernel
theorem dX7_best_103 : decode cX7_best 103 = .ok (.iload 8, 2) := by decide +kernel
theorem dX7_best_105 : decode cX7_best 105 = .ok (.iload_n 2, 1) := by decide +kernel
theorem dX7_best_106 : decode cX7_best 106 = .ok (.if_icmp .gt 88, 3) := by decide +kernel
theorem dX7_best_109 : decode cX7_best 109 = .ok (.aload_n 0, 1) := by decide +kernel
theorem dX7_best_110 : decode cX7_best 110 = .ok (.getfield 13, 3) := by decide +kernel
theorem dX7_best_113 : decode cX7_best 113 = .ok (.bipush 24, 2) := by decide +kernel
theorem dX7_best_115 : decode cX7_best 115 = .ok (.iconst 3, 1) := by decide +kernel
theorem dX7_best_116 : decode cX7_best 116 = .ok (.iload_n 1, 1) := by decide +kernel
theorem dX7_best_117 : decode cX7_best 117 = .ok (.imul, 1) := by decide +kernel
theorem dX7_best_118 : decode cX7_best 118 = .ok (.iadd, 1) := by decide +kernel
theorem dX7_best_119 : decode cX7_best 119 = .ok (.iconst 2, 1) := by decide +kernel
theorem dX7_best_120 : decode cX7_best 120 = .ok (.iadd, 1) := by decide +kernel
theorem dX7_best_121 : decode cX7_best 121 = .ok (.iload 7, 2) := by decide +kernel
theorem dX7_best_123 : decode cX7_best 123 = .ok (.iastore, 1) := by decide +kernel
theorem dX7_best_124 : decode cX7_best 124 = .ok (.aload_n 0, 1) := by decide +kernel
theorem dX7_best_125 : decode cX7_best 125 = .ok (.getfield 13, 3) := by decide +kernel
theorem dX7_best_128 : decode cX7_best 128 = .ok (.bipush 37, 2) := by decide +kernel
theorem dX7_best_130 : decode cX7_best 130 = .ok (.iload 8, 2) := by decide +kernel
theorem dX7_best_132 : decode cX7_best 132 = .ok (.iastore, 1) := by decide +kernel
theorem dX7_best_133 : decode cX7_best 133 = .ok (.aload_n 0, 1) := by decide +kernel
theorem dX7_best_134 : decode cX7_best 134 = .ok (.iload_n 2, 1) := by decide +kernel
theorem dX7_best_135 : decode cX7_best 135 = .ok (.invokevirtual 167, 3) := by decide +kernel
theorem dX7_best_138 : decode cX7_best 138 = .ok (.istore 9, 2) := by decide +kernel
theorem dX7_best_140 : decode cX7_best 140 = .ok (.iload 9, 2) := by decide +kernel
theorem dX7_best_142 : decode cX7_best 142 = .ok (.iload 6, 2) := by decide +kernel
theorem dX7_best_144 : decode cX7_best 144 = .ok (.if_icmp .le 8, 3) := by decide +kernel
theorem dX7_best_147 : decode cX7_best 147 = .ok (.iload 7, 2) := by decide +kernel
theorem dX7_best_149 : decode cX7_best 149 = .ok (.goto 5, 3) := by decide +kernel
theorem dX7_best_152 : decode cX7_best 152 = .ok (.iload 4, 2) := by decide +kernel
theorem dX7_best_154 : decode cX7_best 154 = .ok (.istore 4, 2) := by decide +kernel
theorem dX7_best_156 : decode cX7_best 156 = .ok (.iload 9, 2) := by decide +kernel
theorem dX7_best_158 : decode cX7_best 158 = .ok (.iload 6, 2) := by decide +kernel
theorem dX7_best_160 : decode cX7_best 160 = .ok (.if_icmp .le 8, 3) := by decide +kernel
theorem dX7_best_163 : decode cX7_best 163 = .ok (.iload 8, 2) := by decide +kernel
theorem dX7_best_165 : decode cX7_best 165 = .ok (.goto 5, 3) := by decide +kernel
theorem dX7_best_168 : decode cX7_best 168 = .ok (.iload 5, 2) := by decide +kernel
theorem dX7_best_170 : decode cX7_best 170 = .ok (.istore 5, 2) := by decide +kernel
theorem dX7_best_172 : decode cX7_best 172 = .ok (.iload 9, 2) := by decide +kernel
theorem dX7_best_174 : decode cX7_best 174 = .ok (.iload 6, 2) := by decide +kernel
theorem dX7_best_176 : decode cX7_best 176 = .ok (.if_icmp .le 8, 3) := by decide +kernel
theorem dX7_best_179 : decode cX7_best 179 = .ok (.iload 9, 2) := by decide +kernel
theorem dX7_best_181 : decode cX7_best 181 = .ok (.goto 5, 3) := by decide +kernel
theorem dX7_best_184 : decode cX7_best 184 = .ok (.iload 6, 2) := by decide +kernel
theorem dX7_best_186 : decode cX7_best 186 = .ok (.istore 6, 2) := by decide +kernel
theorem dX7_best_188 : decode cX7_best 188 = .ok (.iinc 8 1, 3) := by decide +kernel
theorem dX7_best_191 : decode cX7_best 191 = .ok (.goto (-88), 3) := by decide +kernel
theorem dX7_best_194 : decode cX7_best 194 = .ok (.iinc 7 1, 3) := by decide +kernel
theorem dX7_best_197 : decode cX7_best 197 = .ok (.goto (-110), 3) := by decide +kernel
theorem dX7_best_200 : decode cX7_best 200 = .ok (.aload_n 0, 1) := by decide +kernel
theorem dX7_best_201 : decode cX7_best 201 = .ok (.iconst 0, 1) := by decide +kernel
theorem dX7_best_202 : decode cX7_best 202 = .ok (.invokevirtual 170, 3) := by decide +kernel
theorem dX7_best_205 : decode cX7_best 205 = .ok (.iload_n 3, 1) := by decide +kernel
theorem dX7_best_206 : decode cX7_best 206 = .ok (.ifCond .ne 8, 3) := by decide +kernel
theorem dX7_best_209 : decode cX7_best 209 = .ok (.iload 4, 2) := by decide +kernel
theorem dX7_best_211 : decode cX7_best 211 = .ok (.goto 15, 3) := by decide +kernel
theorem dX7_best_214 : decode cX7_best 214 = .ok (.iload_n 3, 1) := by decide +kernel
theorem dX7_best_215 : decode cX7_best 215 = .ok (.iconst 1, 1) := by decide +kernel
theorem dX7_best_216 : decode cX7_best 216 = .ok (.if_icmp .ne 8, 3) := by decide +kernel
theorem dX7_best_219 : decode cX7_best 219 = .ok (.iload 5, 2) := by decide +kernel
theorem dX7_best_221 : decode cX7_best 221 = .ok (.goto 5, 3) := by decide +kernel
theorem dX7_best_224 : decode cX7_best 224 = .ok (.iload 6, 2) := by decide +kernel
theorem dX7_best_226 : decode cX7_best 226 = .ok (.ireturn, 1) := by decide +kernel
theorem dX7_line_0 : decode cX7_line 0 = .ok (.aload_n 0, 1) := by decide +kernel
theorem dX7_line_1 : decode cX7_line 1 = .ok (.iconst 0, 1) := by decide +kernel
theorem dX7_line_2 : decode cX7_line 2 = .ok (.putfield 47, 3) := by decide +kernel
theorem dX7_line_5 : decode cX7_line 5 = .ok (.iload_n 1, 1) := by decide +kernel
theorem dX7_line_6 : decode cX7_line 6 = .ok (.iconst 1, 1) := by decide +kernel
theorem dX7_line_7 : decode cX7_line 7 = .ok (.bipush 9, 2) := by decide +kernel
theorem dX7_line_9 : decode cX7_line 9 = .ok (.invokestatic 51, 3) := by decide +kernel
theorem dX7_line_12 : decode cX7_line 12 = .ok (.ifCond .eq 20, 3) := by decide +kernel
theorem dX7_line_15 : decode cX7_line 15 = .ok (.iload_n 2, 1) := by decide +kernel
theorem dX7_line_16 : decode cX7_line 16 = .ok (.iconst 0, 1) := by decide +kernel
theorem dX7_line_17 : decode cX7_line 17 = .ok (.bipush 9, 2) := by decide +kernel
theorem dX7_line_19 : decode cX7_line 19 = .ok (.invokestatic 51, 3) := by decide +kernel
theorem dX7_line_22 : decode cX7_line 22 = .ok (.ifCond .eq 10, 3) := by decide +kernel
theorem dX7_line_25 : decode cX7_line 25 = .ok (.iload_n 3, 1) := by decide +kernel
theorem dX7_line_26 : decode cX7_line 26 = .ok (.invokestatic 130, 3) := by decide +kernel
theorem dX7_line_29 : decode cX7_line 29 = .ok (.ifCond .ne 5, 3) := by decide +kernel
theorem dX7_line_32 : decode cX7_line 32 = .ok (.iconst (-1), 1) := by decide +kernel
theorem dX7_line_33 : decode cX7_line 33 = .ok (.ireturn, 1) := by decide +kernel
theorem dX7_line_34 : decode cX7_line 34 = .ok (.aload_n 0, 1) := by decide +kernel
theorem dX7_line_35 : decode cX7_line 35 = .ok (.iconst 1, 1) := by decide +kernel
theorem dX7_line_36 : decode cX7_line 36 = .ok (.invokevirtual 170, 3) := by decide +kernel
theorem dX7_line_39 : decode cX7_line 39 = .ok (.aload_n 0, 1) := by decide +kernel
theorem dX7_line_40 : decode cX7_line 40 = .ok (.getfield 13, 3) := by decide +kernel
theorem dX7_line_43 : decode cX7_line 43 = .ok (.bipush 40, 2) := by decide +kernel
theorem dX7_line_45 : decode cX7_line 45 = .ok (.iconst 1, 1) := by decide +kernel
theorem dX7_line_46 : decode cX7_line 46 = .ok (.iastore, 1) := by decide +kernel
theorem dX7_line_47 : decode cX7_line 47 = .ok (.aload_n 0, 1) := by decide +kernel
theorem dX7_line_48 : decode cX7_line 48 = .ok (.getfield 13, 3) := by decide +kernel
theorem dX7_line_51 : decode cX7_line 51 = .ok (.iconst 1, 1) := by decide +kernel
theorem dX7_line_52 : decode cX7_line 52 = .ok (.iload_n 1, 1) := by decide +kernel
theorem dX7_line_53 : decode cX7_line 53 = .ok (.iastore, 1) := by decide +kernel
theorem dX7_line_54 : decode cX7_line 54 = .ok (.aload_n 0, 1) := by decide +kernel
theorem dX7_line_55 : decode cX7_line 55 = .ok (.getfield 13, 3) := by decide +kernel
theorem dX7_line_58 : decode cX7_line 58 = .ok (.iconst 2, 1) := by decide +kernel
theorem dX7_line_59 : decode cX7_line 59 = .ok (.iload_n 2, 1) := by decide +kernel
theorem dX7_line_60 : decode cX7_line 60 = .ok (.iastore, 1) := by decide +kernel
theorem dX7_line_61 : decode cX7_line 61 = .ok (.bipush (-9), 2) := by decide +kernel
theorem dX7_line_63 : decode cX7_line 63 = .ok (.istore 4, 2) := by decide +kernel
theorem dX7_line_65 : decode cX7_line 65 = .ok (.iconst 0, 1) := by decide +kernel
theorem dX7_line_66 : decode cX7_line 66 = .ok (.istore 5, 2) := by decide +kernel
theorem dX7_line_68 : decode cX7_line 68 = .ok (.iload 5, 2) := by decide +kernel
theorem dX7_line_70 : decode cX7_line 70 = .ok (.bipush 101, 2) := by decide +kernel
theorem dX7_line_72 : decode cX7_line 72 = .ok (.if_icmp .ge 60, 3) := by decide +kernel
theorem dX7_line_75 : decode cX7_line 75 = .ok (.iload 4, 2) := by decide +kernel
theorem dX7_line_77 : decode cX7_line 77 = .ok (.bipush (-9), 2) := by decide +kernel
theorem dX7_line_79 : decode cX7_line 79 = .ok (.if_icmp .ne 53, 3) := by decide +kernel
theorem dX7_line_82 : decode cX7_line 82 = .ok (.aload_n 0, 1) := by decide +kernel
theorem dX7_line_83 : decode cX7_line 83 = .ok (.getfield 13, 3) := by decide +kernel
theorem dX7_line_86 : decode cX7_line 86 = .ok (.iconst 0, 1) := by decide +kernel
theorem dX7_line_87 : decode cX7_line 87 = .ok (.iload 5, 2) := by decide +kernel
theorem dX7_line_89 : decode cX7_line 89 = .ok (.iastore, 1) := by decide +kernel
theorem dX7_line_90 : decode cX7_line 90 = .ok (.aload_n 0, 1) := by decide +kernel
theorem dX7_line_91 : decode cX7_line 91 = .ok (.iload_n 3, 1) := by decide +kernel
theorem dX7_line_92 : decode cX7_line 92 = .ok (.invokevirtual 167, 3) := by decide +kernel
theorem dX7_line_95 : decode cX7_line 95 = .ok (.istore 6, 2) := by decide +kernel
theorem dX7_line_97 : decode cX7_line 97 = .ok (.aload_n 0, 1) := by decide +kernel
theorem dX7_line_98 : decode cX7_line 98 = .ok (.iconst 1, 1) := by decide +kernel
theorem dX7_line_99 : decode cX7_line 99 = .ok (.putfield 126, 3) := by decide +kernel
theorem dX7_line_102 : decode cX7_line 102 = .ok (.iload 6, 2) := by decide +kernel
theorem dX7_line_104 : decode cX7_line 104 = .ok (.aload_n 0, 1) := by decide +kernel
theorem dX7_line_105 : decode cX7_line 105 = .ok (.iload_n 3, 1) := by decide +kernel
theorem dX7_line_106 : decode cX7_line 106 = .ok (.invokevirtual 167, 3) := by decide +kernel
theorem dX7_line_109 : decode cX7_line 109 = .ok (.if_icmp .ge 8, 3) := by decide +kernel
theorem dX7_line_112 : decode cX7_line 112 = .ok (.iload 5, 2) := by decide +kernel
theorem dX7_line_114 : decode cX7_line 114 = .ok (.goto 5, 3) := by decide +kernel
theorem dX7_line_117 : decode cX7_line 117 = .ok (.bipush (-9), 2) := by decide +kernel
theorem dX7_line_119 : decode cX7_line 119 = .ok (.istore 4, 2) := by decide +kernel
theorem dX7_line_121 : decode cX7_line 121 = .ok (.aload_n 0, 1) := by decide +kernel
theorem dX7_line_122 : decode cX7_line 122 = .ok (.iconst 0, 1) := by decide +kernel
theorem dX7_line_123 : decode cX7_line 123 = .ok (.putfield 126, 3) := by decide +kernel
theorem dX7_line_126 : decode cX7_line 126 = .ok (.iinc 5 1, 3) := by decide +kernel
theorem dX7_line_129 : decode cX7_line 129 = .ok (.goto (-61), 3) := by decide +kernel
theorem dX7_line_132 : decode cX7_line 132 = .ok (.aload_n 0, 1) := by decide +kernel
theorem dX7_line_133 : decode cX7_line 133 = .ok (.iconst 0, 1) := by decide +kernel
theorem dX7_line_134 : decode cX7_line 134 = .ok (.invokevirtual 170, 3) := by decide +kernel
theorem dX7_line_137 : decode cX7_line 137 = .ok (.iload 4, 2) := by decide +kernel
theorem dX7_line_139 : decode cX7_line 139 = .ok (.ireturn, 1) := by decide +kernel
theorem dX7_ending_0 : decode cX7_ending 0 = .ok (.aload_n 0, 1) := by decide +kernel
theorem dX7_ending_1 : decode cX7_ending 1 = .ok (.iconst 0, 1) := by decide +kernel
theorem dX7_ending_2 : decode cX7_ending 2 = .ok (.putfield 47, 3) := by decide +kernel
theorem dX7_ending_5 : decode cX7_ending 5 = .ok (.iload_n 1, 1) := by decide +kernel
theorem dX7_ending_6 : decode cX7_ending 6 = .ok (.invokestatic 130, 3) := by decide +kernel
theorem dX7_ending_9 : decode cX7_ending 9 = .ok (.ifCond .ne 5, 3) := by decide +kernel
theorem dX7_ending_12 : decode cX7_ending 12 = .ok (.iconst (-1), 1) := by decide +kernel
theorem dX7_ending_13 : decode cX7_ending 13 = .ok (.ireturn, 1) := by decide +kernel
theorem dX7_ending_14 : decode cX7_ending 14 = .ok (.aload_n 0, 1) := by decide +kernel
theorem dX7_ending_15 : decode cX7_ending 15 = .ok (.iconst 1, 1) := by decide +kernel
theorem dX7_ending_16 : decode cX7_ending 16 = .ok (.invokevirtual 170, 3) := by decide +kernel
theorem dX7_ending_19 : decode cX7_ending 19 = .ok (.iconst 0, 1) := by decide +kernel
theorem dX7_ending_20 : decode cX7_ending 20 = .ok (.istore_n 2, 1) := by decide +kernel
theorem dX7_ending_21 : decode cX7_ending 21 = .ok (.iconst (-1), 1) := by decide +kernel
theorem dX7_ending_22 : decode cX7_ending 22 = .ok (.istore_n 3, 1) := by decide +kernel
theorem dX7_ending_23 : decode cX7_ending 23 = .ok (.iconst 0, 1) := by decide +kernel
theorem dX7_ending_24 : decode cX7_ending 24 = .ok (.istore 4, 2) := by decide +kernel
theorem dX7_ending_26 : decode cX7_ending 26 = .ok (.iload 4, 2) := by decide +kernel
theorem dX7_ending_28 : decode cX7_ending 28 = .ok (.bipush 21, 2) := by decide +kernel
theorem dX7_ending_30 : decode cX7_ending 30 = .ok (.if_icmp .ge 51, 3) := by decide +kernel
theorem dX7_ending_33 : decode cX7_ending 33 = .ok (.aload_n 0, 1) := by decide +kernel
theorem dX7_ending_34 : decode cX7_ending 34 = .ok (.getfield 13, 3) := by decide +kernel
theorem dX7_ending_37 : decode cX7_ending 37 = .ok (.bipush 39, 2) := by decide +kernel
theorem dX7_ending_39 : decode cX7_ending 39 = .ok (.iload 4, 2) := by decide +kernel
theorem dX7_ending_41 : decode cX7_ending 41 = .ok (.iastore, 1) := by decide +kernel
theorem dX7_ending_42 : decode cX7_ending 42 = .ok (.aload_n 0, 1) := by decide +kernel
theorem dX7_ending_43 : decode cX7_ending 43 = .ok (.iload_n 1, 1) := by decide +kernel
theorem dX7_ending_44 : decode cX7_ending 44 = .ok (.invokevirtual 167, 3) := by decide +kernel
theorem dX7_ending_47 : decode cX7_ending 47 = .ok (.istore 5, 2) := by decide +kernel
theorem dX7_ending_49 : decode cX7_ending 49 = .ok (.iload 5, 2) := by decide +kernel
theorem dX7_ending_51 : decode cX7_ending 51 = .ok (.iload_n 3, 1) := by decide +kernel
theorem dX7_ending_52 : decode cX7_ending 52 = .ok (.if_icmp .le 8, 3) := by decide +kernel
theorem dX7_ending_55 : decode cX7_ending 55 = .ok (.iload 4, 2) := by decide +kernel
theorem dX7_ending_57 : decode cX7_ending 57 = .ok (.goto 4, 3) := by decide +kernel
theorem dX7_ending_60 : decode cX7_ending 60 = .ok (.iload_n 2, 1) := by decide +kernel
theorem dX7_ending_61 : decode cX7_ending 61 = .ok (.istore_n 2, 1) := by decide +kernel
theorem dX7_ending_62 : decode cX7_ending 62 = .ok (.iload 5, 2) := by decide +kernel
theorem dX7_ending_64 : decode cX7_ending 64 = .ok (.iload_n 3, 1) := by decide +kernel
theorem dX7_ending_65 : decode cX7_ending 65 = .ok (.if_icmp .le 8, 3) := by decide +kernel
theorem dX7_ending_68 : decode cX7_ending 68 = .ok (.iload 5, 2) := by decide +kernel
theorem dX7_ending_70 : decode cX7_ending 70 = .ok (.goto 4, 3) := by decide +kernel
theorem dX7_ending_73 : decode cX7_ending 73 = .ok (.iload_n 3, 1) := by decide +kernel
theorem dX7_ending_74 : decode cX7_ending 74 = .ok (.istore_n 3, 1) := by decide +kernel
theorem dX7_ending_75 : decode cX7_ending 75 = .ok (.iinc 4 1, 3) := by decide +kernel
theorem dX7_ending_78 : decode cX7_ending 78 = .ok (.goto (-52), 3) := by decide +kernel
theorem dX7_ending_81 : decode cX7_ending 81 = .ok (.aload_n 0, 1) := by decide +kernel
theorem dX7_ending_82 : decode cX7_ending 82 = .ok (.iconst 0, 1) := by decide +kernel
theorem dX7_ending_83 : decode cX7_ending 83 = .ok (.invokevirtual 170, 3) := by decide +kernel
theorem dX7_ending_86 : decode cX7_ending 86 = .ok (.iload_n 2, 1) := by decide +kernel
theorem dX7_ending_87 : decode cX7_ending 87 = .ok (.ireturn, 1) := by decide +kernel
theorem dX7_easy_0 : decode cX7_easy 0 = .ok (.aload_n 0, 1) := by decide +kernel
theorem dX7_easy_1 : decode cX7_easy 1 = .ok (.iconst 0, 1) := by decide +kernel
theorem dX7_easy_2 : decode cX7_easy 2 = .ok (.putfield 47, 3) := by decide +kernel
theorem dX7_easy_5 : decode cX7_easy 5 = .ok (.iconst 0, 1) := by decide +kernel
theorem dX7_easy_6 : decode cX7_easy 6 = .ok (.istore_n 1, 1) := by decide +kernel
theorem dX7_easy_7 : decode cX7_easy 7 = .ok (.iconst 1, 1) := by decide +kernel
theorem dX7_easy_8 : decode cX7_easy 8 = .ok (.istore_n 2, 1) := by decide +kernel
theorem dX7_easy_9 : decode cX7_easy 9 = .ok (.iload_n 2, 1) := by decide +kernel
theorem dX7_easy_10 : decode cX7_easy 10 = .ok (.aload_n 0, 1) := by decide +kernel
theorem dX7_easy_11 : decode cX7_easy 11 = .ok (.getfield 13, 3) := by decide +kernel
theorem dX7_easy_14 : decode cX7_easy 14 = .ok (.bipush 41, 2) := by decide +kernel
theorem dX7_easy_16 : decode cX7_easy 16 = .ok (.iaload, 1) := by decide +kernel
theorem dX7_easy_17 : decode cX7_easy 17 = .ok (.if_icmp .ge 40, 3) := by decide +kernel
theorem dX7_easy_20 : decode cX7_easy 20 = .ok (.aload_n 0, 1) := by decide +kernel
theorem dX7_easy_21 : decode cX7_easy 21 = .ok (.getfield 13, 3) := by decide +kernel
theorem dX7_easy_24 : decode cX7_easy 24 = .ok (.bipush 24, 2) := by decide +kernel
theorem dX7_easy_26 : decode cX7_easy 26 = .ok (.iconst 3, 1) := by decide +kernel
theorem dX7_easy_27 : decode cX7_easy 27 = .ok (.iload_n 2, 1) := by decide +kernel
theorem dX7_easy_28 : decode cX7_easy 28 = .ok (.imul, 1) := by decide +kernel
theorem dX7_easy_29 : decode cX7_easy 29 = .ok (.iadd, 1) := by decide +kernel
theorem dX7_easy_30 : decode cX7_easy 30 = .ok (.iaload, 1) := by decide +kernel
theorem dX7_easy_31 : decode cX7_easy 31 = .ok (.aload_n 0, 1) := by decide +kernel
theorem dX7_easy_32 : decode cX7_easy 32 = .ok (.getfield 13, 3) := by decide +kernel
theorem dX7_easy_35 : decode cX7_easy 35 = .ok (.bipush 24, 2) := by decide +kernel
theorem dX7_easy_37 : decode cX7_easy 37 = .ok (.iconst 3, 1) := by decide +kernel
theorem dX7_easy_38 : decode cX7_easy 38 = .ok (.iload_n 1, 1) := by decide +kernel
theorem dX7_easy_39 : decode cX7_easy 39 = .ok (.imul, 1) := by decide +kernel
theorem dX7_easy_40 : decode cX7_easy 40 = .ok (.iadd, 1) := by decide +kernel
theorem dX7_easy_41 : decode cX7_easy 41 = .ok (.iaload, 1) := by decide +kernel
theorem dX7_easy_42 : decode cX7_easy 42 = .ok (.if_icmp .ge 7, 3) := by decide +kernel
theorem dX7_easy_45 : decode cX7_easy 45 = .ok (.iload_n 2, 1) := by decide +kernel
theorem dX7_easy_46 : decode cX7_easy 46 = .ok (.goto 4, 3) := by decide +kernel
theorem dX7_easy_49 : decode cX7_easy 49 = .ok (.iload_n 1, 1) := by decide +kernel
theorem dX7_easy_50 : decode cX7_easy 50 = .ok (.istore_n 1, 1) := by decide +kernel
theorem dX7_easy_51 : decode cX7_easy 51 = .ok (.iinc 2 1, 3) := by decide +kernel
theorem dX7_easy_54 : decode cX7_easy 54 = .ok (.goto (-45), 3) := by decide +kernel
theorem dX7_easy_57 : decode cX7_easy 57 = .ok (.iconst 0, 1) := by decide +kernel
theorem dX7_easy_58 : decode cX7_easy 58 = .ok (.istore_n 2, 1) := by decide +kernel
theorem dX7_easy_59 : decode cX7_easy 59 = .ok (.iconst 0, 1) := by decide +kernel
theorem dX7_easy_60 : decode cX7_easy 60 = .ok (.istore_n 3, 1) := by decide +kernel
theorem dX7_easy_61 : decode cX7_easy 61 = .ok (.iload_n 3, 1) := by decide +kernel
theorem dX7_easy_62 : decode cX7_easy 62 = .ok (.aload_n 0, 1) := by decide +kernel
theorem dX7_easy_63 : decode cX7_easy 63 = .ok (.getfield 13, 3) := by decide +kernel
theorem dX7_easy_66 : decode cX7_easy 66 = .ok (.bipush 40, 2) := by decide +kernel
theorem dX7_easy_68 : decode cX7_easy 68 = .ok (.iaload, 1) := by decide +kernel
theorem dX7_easy_69 : decode cX7_easy 69 = .ok (.if_icmp .ge 36, 3) := by decide +kernel
theorem dX7_easy_72 : decode cX7_easy 72 = .ok (.iload_n 2, 1) := by decide +kernel
theorem dX7_easy_73 : decode cX7_easy 73 = .ok (.aload_n 0, 1) := by decide +kernel
theorem dX7_easy_74 : decode cX7_easy 74 = .ok (.aload_n 0, 1) := by decide +kernel
theorem dX7_easy_75 : decode cX7_easy 75 = .ok (.getfield 19, 3) := by decide +kernel
theorem dX7_easy_78 : decode cX7_easy 78 = .ok (.iload_n 3, 1) := by decide +kernel
theorem dX7_easy_79 : decode cX7_easy 79 = .ok (.aload_n 0, 1) := by decide +kernel
theorem dX7_easy_80 : decode cX7_easy 80 = .ok (.getfield 19, 3) := by decide +kernel
theorem dX7_easy_83 : decode cX7_easy 83 = .ok (.iconst 0, 1) := by decide +kernel
theorem dX7_easy_84 : decode cX7_easy 84 = .ok (.iaload, 1) := by decide +kernel
theorem dX7_easy_85 : decode cX7_easy 85 = .ok (.invokevirtual 150, 3) := by decide +kernel
theorem dX7_easy_88 : decode cX7_easy 88 = .ok (.iload_n 1, 1) := by decide +kernel
theorem dX7_easy_89 : decode cX7_easy 89 = .ok (.if_icmp .ne 7, 3) := by decide +kernel
theorem dX7_easy_92 : decode cX7_easy 92 = .ok (.iconst 1, 1) := by decide +kernel
theorem dX7_easy_93 : decode cX7_easy 93 = .ok (.goto 4, 3) := by decide +kernel
theorem dX7_easy_96 : decode cX7_easy 96 = .ok (.iconst 0, 1) := by decide +kernel
theorem dX7_easy_97 : decode cX7_easy 97 = .ok (.iadd, 1) := by decide +kernel
theorem dX7_easy_98 : decode cX7_easy 98 = .ok (.istore_n 2, 1) := by decide +kernel
theorem dX7_easy_99 : decode cX7_easy 99 = .ok (.iinc 3 1, 3) := by decide +kernel
theorem dX7_easy_102 : decode cX7_easy 102 = .ok (.goto (-41), 3) := by decide +kernel
theorem dX7_easy_105 : decode cX7_easy 105 = .ok (.iload_n 2, 1) := by decide +kernel
theorem dX7_easy_106 : decode cX7_easy 106 = .ok (.ireturn, 1) := by decide +kernel
theorem dX7_stays_0 : decode cX7_stays 0 = .ok (.aload_n 0, 1) := by decide +kernel
theorem dX7_stays_1 : decode cX7_stays 1 = .ok (.iconst 0, 1) := by decide +kernel
theorem dX7_stays_2 : decode cX7_stays 2 = .ok (.putfield 47, 3) := by decide +kernel
theorem dX7_stays_5 : decode cX7_stays 5 = .ok (.aload_n 0, 1) := by decide +kernel
theorem dX7_stays_6 : decode cX7_stays 6 = .ok (.iload_n 1, 1) := by decide +kernel
theorem dX7_stays_7 : decode cX7_stays 7 = .ok (.invokevirtual 120, 3) := by decide +kernel
theorem dX7_stays_10 : decode cX7_stays 10 = .ok (.ifCond .eq 11, 3) := by decide +kernel
theorem dX7_stays_13 : decode cX7_stays 13 = .ok (.aload_n 0, 1) := by decide +kernel
theorem dX7_stays_14 : decode cX7_stays 14 = .ok (.iload_n 2, 1) := by decide +kernel
theorem dX7_stays_15 : decode cX7_stays 15 = .ok (.invokevirtual 123, 3) := by decide +kernel
theorem dX7_stays_18 : decode cX7_stays 18 = .ok (.ifCond .ne 5, 3) := by decide +kernel
theorem dX7_stays_21 : decode cX7_stays 21 = .ok (.iconst (-1), 1) := by decide +kernel
theorem dX7_stays_22 : decode cX7_stays 22 = .ok (.ireturn, 1) := by decide +kernel
theorem dX7_stays_23 : decode cX7_stays 23 = .ok (.aload_n 0, 1) := by decide +kernel
theorem dX7_stays_24 : decode cX7_stays 24 = .ok (.aload_n 0, 1) := by decide +kernel
theorem dX7_stays_25 : decode cX7_stays 25 = .ok (.getfield 29, 3) := by decide +kernel
theorem dX7_stays_28 : decode cX7_stays 28 = .ok (.invokevirtual 116, 3) := by decide +kernel
theorem dX7_stays_31 : decode cX7_stays 31 = .ok (.bipush 24, 2) := by decide +kernel
theorem dX7_stays_33 : decode cX7_stays 33 = .ok (.iconst 3, 1) := by decide +kernel
theorem dX7_stays_34 : decode cX7_stays 34 = .ok (.iload_n 2, 1) := by decide +kernel
theorem dX7_stays_35 : decode cX7_stays 35 = .ok (.imul, 1) := by decide +kernel
theorem dX7_stays_36 : decode cX7_stays 36 = .ok (.iadd, 1) := by decide +kernel
theorem dX7_stays_37 : decode cX7_stays 37 = .ok (.iconst 2, 1) := by decide +kernel
theorem dX7_stays_38 : decode cX7_stays 38 = .ok (.iadd, 1) := by decide +kernel
theorem dX7_stays_39 : decode cX7_stays 39 = .ok (.istore_n 3, 1) := by decide +kernel
theorem dX7_stays_40 : decode cX7_stays 40 = .ok (.aload_n 0, 1) := by decide +kernel
theorem dX7_stays_41 : decode cX7_stays 41 = .ok (.getfield 13, 3) := by decide +kernel
theorem dX7_stays_44 : decode cX7_stays 44 = .ok (.iload_n 3, 1) := by decide +kernel
theorem dX7_stays_45 : decode cX7_stays 45 = .ok (.iaload, 1) := by decide +kernel
theorem dX7_stays_46 : decode cX7_stays 46 = .ok (.istore 4, 2) := by decide +kernel
theorem dX7_stays_48 : decode cX7_stays 48 = .ok (.bipush (-9), 2) := by decide +kernel
theorem dX7_stays_50 : decode cX7_stays 50 = .ok (.istore 5, 2) := by decide +kernel
theorem dX7_stays_52 : decode cX7_stays 52 = .ok (.iconst 0, 1) := by decide +kernel
theorem dX7_stays_53 : decode cX7_stays 53 = .ok (.istore 6, 2) := by decide +kernel
theorem dX7_stays_55 : decode cX7_stays 55 = .ok (.iload 6, 2) := by decide +kernel
theorem dX7_stays_57 : decode cX7_stays 57 = .ok (.bipush 10, 2) := by decide +kernel
theorem dX7_stays_59 : decode cX7_stays 59 = .ok (.if_icmp .ge 53, 3) := by decide +kernel
theorem dX7_stays_62 : decode cX7_stays 62 = .ok (.iload 5, 2) := by decide +kernel
theorem dX7_stays_64 : decode cX7_stays 64 = .ok (.bipush (-9), 2) := by decide +kernel
theorem dX7_stays_66 : decode cX7_stays 66 = .ok (.if_icmp .ne 46, 3) := by decide +kernel
theorem dX7_stays_69 : decode cX7_stays 69 = .ok (.aload_n 0, 1) := by decide +kernel
theorem dX7_stays_70 : decode cX7_stays 70 = .ok (.getfield 13, 3) := by decide +kernel
theorem dX7_stays_73 : decode cX7_stays 73 = .ok (.iload_n 3, 1) := by decide +kernel
theorem dX7_stays_74 : decode cX7_stays 74 = .ok (.iload 6, 2) := by decide +kernel
theorem dX7_stays_76 : decode cX7_stays 76 = .ok (.iastore, 1) := by decide +kernel
theorem dX7_stays_77 : decode cX7_stays 77 = .ok (.aload_n 0, 1) := by decide +kernel
theorem dX7_stays_78 : decode cX7_stays 78 = .ok (.aload_n 0, 1) := by decide +kernel
theorem dX7_stays_79 : decode cX7_stays 79 = .ok (.getfield 29, 3) := by decide +kernel
theorem dX7_stays_82 : decode cX7_stays 82 = .ok (.iload_n 1, 1) := by decide +kernel
theorem dX7_stays_83 : decode cX7_stays 83 = .ok (.aload_n 0, 1) := by decide +kernel
theorem dX7_stays_84 : decode cX7_stays 84 = .ok (.getfield 13, 3) := by decide +kernel
theorem dX7_stays_87 : decode cX7_stays 87 = .ok (.bipush 36, 2) := by decide +kernel
theorem dX7_stays_89 : decode cX7_stays 89 = .ok (.iaload, 1) := by decide +kernel
theorem dX7_stays_90 : decode cX7_stays 90 = .ok (.invokevirtual 150, 3) := by decide +kernel
theorem dX7_stays_93 : decode cX7_stays 93 = .ok (.iload_n 2, 1) := by decide +kernel
theorem dX7_stays_94 : decode cX7_stays 94 = .ok (.if_icmp .ne 8, 3) := by decide +kernel
theorem dX7_stays_97 : decode cX7_stays 97 = .ok (.iload 6, 2) := by decide +kernel
theorem dX7_stays_99 : decode cX7_stays 99 = .ok (.goto 5, 3) := by decide +kernel
theorem dX7_stays_102 : decode cX7_stays 102 = .ok (.bipush (-9), 2) := by decide +kernel
theorem dX7_stays_104 : decode cX7_stays 104 = .ok (.istore 5, 2) := by decide +kernel
theorem dX7_stays_106 : decode cX7_stays 106 = .ok (.iinc 6 1, 3) := by decide +kernel
theorem dX7_stays_109 : decode cX7_stays 109 = .ok (.goto (-54), 3) := by decide +kernel
theorem dX7_stays_112 : decode cX7_stays 112 = .ok (.aload_n 0, 1) := by decide +kernel
theorem dX7_stays_113 : decode cX7_stays 113 = .ok (.getfield 13, 3) := by decide +kernel
theorem dX7_stays_116 : decode cX7_stays 116 = .ok (.iload_n 3, 1) := by decide +kernel
theorem dX7_stays_117 : decode cX7_stays 117 = .ok (.iload 4, 2) := by decide +kernel
theorem dX7_stays_119 : decode cX7_stays 119 = .ok (.iastore, 1) := by decide +kernel
theorem dX7_stays_120 : decode cX7_stays 120 = .ok (.iload 5, 2) := by decide +kernel
theorem dX7_stays_122 : decode cX7_stays 122 = .ok (.ireturn, 1) := by decide +kernel
theorem dX7_jarSort_0 : decode cX7_jarSort 0 = .ok (.aload_n 0, 1) := by decide +kernel
theorem dX7_jarSort_1 : decode cX7_jarSort 1 = .ok (.iconst 1, 1) := by decide +kernel
theorem dX7_jarSort_2 : decode cX7_jarSort 2 = .ok (.putfield 126, 3) := by decide +kernel
theorem dX7_jarSort_5 : decode cX7_jarSort 5 = .ok (.aload_n 0, 1) := by decide +kernel
theorem dX7_jarSort_6 : decode cX7_jarSort 6 = .ok (.aload_n 0, 1) := by decide +kernel
theorem dX7_jarSort_7 : decode cX7_jarSort 7 = .ok (.getfield 19, 3) := by decide +kernel
theorem dX7_jarSort_10 : decode cX7_jarSort 10 = .ok (.iload_n 1, 1) := by decide +kernel
theorem dX7_jarSort_11 : decode cX7_jarSort 11 = .ok (.aload_n 0, 1) := by decide +kernel
theorem dX7_jarSort_12 : decode cX7_jarSort 12 = .ok (.getfield 19, 3) := by decide +kernel
theorem dX7_jarSort_15 : decode cX7_jarSort 15 = .ok (.iconst 0, 1) := by decide +kernel
theorem dX7_jarSort_16 : decode cX7_jarSort 16 = .ok (.iaload, 1) := by decide +kernel
theorem dX7_jarSort_17 : decode cX7_jarSort 17 = .ok (.invokevirtual 150, 3) := by decide +kernel
theorem dX7_jarSort_20 : decode cX7_jarSort 20 = .ok (.istore_n 2, 1) := by decide +kernel
theorem dX7_jarSort_21 : decode cX7_jarSort 21 = .ok (.aload_n 0, 1) := by decide +kernel
theorem dX7_jarSort_22 : decode cX7_jarSort 22 = .ok (.iconst 0, 1) := by decide +kernel
theorem dX7_jarSort_23 : decode cX7_jarSort 23 = .ok (.putfield 126, 3) := by decide +kernel
theorem dX7_jarSort_26 : decode cX7_jarSort 26 = .ok (.iload_n 2, 1) := by decide +kernel
theorem dX7_jarSort_27 : decode cX7_jarSort 27 = .ok (.bipush (-9), 2) := by decide +kernel
theorem dX7_jarSort_29 : decode cX7_jarSort 29 = .ok (.if_icmp .ne 7, 3) := by decide +kernel
theorem dX7_jarSort_32 : decode cX7_jarSort 32 = .ok (.iconst 0, 1) := by decide +kernel
theorem dX7_jarSort_33 : decode cX7_jarSort 33 = .ok (.goto 4, 3) := by decide +kernel
theorem dX7_jarSort_36 : decode cX7_jarSort 36 = .ok (.iload_n 2, 1) := by decide +kernel
theorem dX7_jarSort_37 : decode cX7_jarSort 37 = .ok (.ireturn, 1) := by decide +kernel
theorem dX7_jarPages_0 : decode cX7_jarPages 0 = .ok (.iconst 0, 1) := by decide +kernel
theorem dX7_jarPages_1 : decode cX7_jarPages 1 = .ok (.istore_n 2, 1) := by decide +kernel
theorem dX7_jarPages_2 : decode cX7_jarPages 2 = .ok (.iconst 0, 1) := by decide +kernel
theorem dX7_jarPages_3 : decode cX7_jarPages 3 = .ok (.istore_n 3, 1) := by decide +kernel
theorem dX7_jarPages_4 : decode cX7_jarPages 4 = .ok (.iload_n 3, 1) := by decide +kernel
theorem dX7_jarPages_5 : decode cX7_jarPages 5 = .ok (.aload_n 0, 1) := by decide +kernel
theorem dX7_jarPages_6 : decode cX7_jarPages 6 = .ok (.getfield 13, 3) := by decide +kernel
theorem dX7_jarPages_9 : decode cX7_jarPages 9 = .ok (.bipush 40, 2) := by decide +kernel
theorem dX7_jarPages_11 : decode cX7_jarPages 11 = .ok (.iaload, 1) := by decide +kernel
theorem dX7_jarPages_12 : decode cX7_jarPages 12 = .ok (.if_icmp .ge 35, 3) := by decide +kernel
theorem dX7_jarPages_15 : decode cX7_jarPages 15 = .ok (.iload_n 2, 1) := by decide +kernel
theorem dX7_jarPages_16 : decode cX7_jarPages 16 = .ok (.iload_n 1, 1) := by decide +kernel
theorem dX7_jarPages_17 : decode cX7_jarPages 17 = .ok (.iload_n 3, 1) := by decide +kernel
theorem dX7_jarPages_18 : decode cX7_jarPages 18 = .ok (.ishr, 1) := by decide +kernel
theorem dX7_jarPages_19 : decode cX7_jarPages 19 = .ok (.iconst 1, 1) := by decide +kernel
theorem dX7_jarPages_20 : decode cX7_jarPages 20 = .ok (.iand, 1) := by decide +kernel
theorem dX7_jarPages_21 : decode cX7_jarPages 21 = .ok (.iconst 1, 1) := by decide +kernel
theorem dX7_jarPages_22 : decode cX7_jarPages 22 = .ok (.if_icmp .ne 16, 3) := by decide +kernel
theorem dX7_jarPages_25 : decode cX7_jarPages 25 = .ok (.aload_n 0, 1) := by decide +kernel
theorem dX7_jarPages_26 : decode cX7_jarPages 26 = .ok (.iload_n 3, 1) := by decide +kernel
theorem dX7_jarPages_27 : decode cX7_jarPages 27 = .ok (.aload_n 0, 1) := by decide +kernel
theorem dX7_jarPages_28 : decode cX7_jarPages 28 = .ok (.iload_n 3, 1) := by decide +kernel
theorem dX7_jarPages_29 : decode cX7_jarPages 29 = .ok (.invokevirtual 174, 3) := by decide +kernel
theorem dX7_jarPages_32 : decode cX7_jarPages 32 = .ok (.invokevirtual 136, 3) := by decide +kernel
theorem dX7_jarPages_35 : decode cX7_jarPages 35 = .ok (.goto 4, 3) := by decide +kernel
theorem dX7_jarPages_38 : decode cX7_jarPages 38 = .ok (.iconst 0, 1) := by decide +kernel
theorem dX7_jarPages_39 : decode cX7_jarPages 39 = .ok (.iadd, 1) := by decide +kernel
theorem dX7_jarPages_40 : decode cX7_jarPages 40 = .ok (.istore_n 2, 1) := by decide +kernel
theorem dX7_jarPages_41 : decode cX7_jarPages 41 = .ok (.iinc 3 1, 3) := by decide +kernel
theorem dX7_jarPages_44 : decode cX7_jarPages 44 = .ok (.goto (-40), 3) := by decide +kernel
theorem dX7_jarPages_47 : decode cX7_jarPages 47 = .ok (.iload_n 2, 1) := by decide +kernel
theorem dX7_jarPages_48 : decode cX7_jarPages 48 = .ok (.ireturn, 1) := by decide +kernel
theorem dX7_jarHas_0 : decode cX7_jarHas 0 = .ok (.iload_n 2, 1) := by decide +kernel
theorem dX7_jarHas_1 : decode cX7_jarHas 1 = .ok (.iload_n 1, 1) := by decide +kernel
theorem dX7_jarHas_2 : decode cX7_jarHas 2 = .ok (.ishr, 1) := by decide +kernel
theorem dX7_jarHas_3 : decode cX7_jarHas 3 = .ok (.iconst 1, 1) := by decide +kernel
theorem dX7_jarHas_4 : decode cX7_jarHas 4 = .ok (.iand, 1) := by decide +kernel
theorem dX7_jarHas_5 : decode cX7_jarHas 5 = .ok (.iconst 1, 1) := by decide +kernel
theorem dX7_jarHas_6 : decode cX7_jarHas 6 = .ok (.if_icmp .ne 27, 3) := by decide +kernel
theorem dX7_jarHas_9 : decode cX7_jarHas 9 = .ok (.aload_n 0, 1) := by decide +kernel
theorem dX7_jarHas_10 : decode cX7_jarHas 10 = .ok (.aload_n 0, 1) := by decide +kernel
theorem dX7_jarHas_11 : decode cX7_jarHas 11 = .ok (.getfield 19, 3) := by decide +kernel
theorem dX7_jarHas_14 : decode cX7_jarHas 14 = .ok (.iload_n 1, 1) := by decide +kernel
theorem dX7_jarHas_15 : decode cX7_jarHas 15 = .ok (.aload_n 0, 1) := by decide +kernel
theorem dX7_jarHas_16 : decode cX7_jarHas 16 = .ok (.iload_n 1, 1) := by decide +kernel
theorem dX7_jarHas_17 : decode cX7_jarHas 17 = .ok (.invokevirtual 174, 3) := by decide +kernel
theorem dX7_jarHas_20 : decode cX7_jarHas 20 = .ok (.invokevirtual 139, 3) := by decide +kernel
theorem dX7_jarHas_23 : decode cX7_jarHas 23 = .ok (.aload_n 0, 1) := by decide +kernel
theorem dX7_jarHas_24 : decode cX7_jarHas 24 = .ok (.getfield 16, 3) := by decide +kernel
theorem dX7_jarHas_27 : decode cX7_jarHas 27 = .ok (.iconst 0, 1) := by decide +kernel
theorem dX7_jarHas_28 : decode cX7_jarHas 28 = .ok (.iaload, 1) := by decide +kernel
theorem dX7_jarHas_29 : decode cX7_jarHas 29 = .ok (.isub, 1) := by decide +kernel
theorem dX7_jarHas_30 : decode cX7_jarHas 30 = .ok (.goto 4, 3) := by decide +kernel
theorem dX7_jarHas_33 : decode cX7_jarHas 33 = .ok (.iconst 0, 1) := by decide +kernel
theorem dX7_jarHas_34 : decode cX7_jarHas 34 = .ok (.istore 5, 2) := by decide +kernel
theorem dX7_jarHas_36 : decode cX7_jarHas 36 = .ok (.iload 5, 2) := by decide +kernel
theorem dX7_jarHas_38 : decode cX7_jarHas 38 = .ok (.aload_n 0, 1) := by decide +kernel
theorem dX7_jarHas_39 : decode cX7_jarHas 39 = .ok (.iload_n 2, 1) := by decide +kernel
theorem dX7_jarHas_40 : decode cX7_jarHas 40 = .ok (.invokevirtual 177, 3) := by decide +kernel
theorem dX7_jarHas_43 : decode cX7_jarHas 43 = .ok (.iload_n 3, 1) := by decide +kernel
theorem dX7_jarHas_44 : decode cX7_jarHas 44 = .ok (.if_icmp .lt 29, 3) := by decide +kernel
theorem dX7_jarHas_47 : decode cX7_jarHas 47 = .ok (.iload 4, 2) := by decide +kernel
theorem dX7_jarHas_49 : decode cX7_jarHas 49 = .ok (.aload_n 0, 1) := by decide +kernel
theorem dX7_jarHas_50 : decode cX7_jarHas 50 = .ok (.getfield 13, 3) := by decide +kernel
theorem dX7_jarHas_53 : decode cX7_jarHas 53 = .ok (.iconst 3, 1) := by decide +kernel
theorem dX7_jarHas_54 : decode cX7_jarHas 54 = .ok (.iload_n 1, 1) := by decide +kernel
theorem dX7_jarHas_55 : decode cX7_jarHas 55 = .ok (.imul, 1) := by decide +kernel
theorem dX7_jarHas_56 : decode cX7_jarHas 56 = .ok (.iconst 2, 1) := by decide +kernel
theorem dX7_jarHas_57 : decode cX7_jarHas 57 = .ok (.iadd, 1) := by decide +kernel
theorem dX7_jarHas_58 : decode cX7_jarHas 58 = .ok (.iaload, 1) := by decide +kernel
theorem dX7_jarHas_59 : decode cX7_jarHas 59 = .ok (.imul, 1) := by decide +kernel
theorem dX7_jarHas_60 : decode cX7_jarHas 60 = .ok (.aload_n 0, 1) := by decide +kernel
theorem dX7_jarHas_61 : decode cX7_jarHas 61 = .ok (.getfield 19, 3) := by decide +kernel
theorem dX7_jarHas_64 : decode cX7_jarHas 64 = .ok (.iconst 1, 1) := by decide +kernel
theorem dX7_jarHas_65 : decode cX7_jarHas 65 = .ok (.iaload, 1) := by decide +kernel
theorem dX7_jarHas_66 : decode cX7_jarHas 66 = .ok (.imul, 1) := by decide +kernel
theorem dX7_jarHas_67 : decode cX7_jarHas 67 = .ok (.bipush 100, 2) := by decide +kernel
theorem dX7_jarHas_69 : decode cX7_jarHas 69 = .ok (.idiv, 1) := by decide +kernel
theorem dX7_jarHas_70 : decode cX7_jarHas 70 = .ok (.goto 4, 3) := by decide +kernel
theorem dX7_jarHas_73 : decode cX7_jarHas 73 = .ok (.iconst 0, 1) := by decide +kernel
theorem dX7_jarHas_74 : decode cX7_jarHas 74 = .ok (.iadd, 1) := by decide +kernel
theorem dX7_jarHas_75 : decode cX7_jarHas 75 = .ok (.ireturn, 1) := by decide +kernel
theorem dX7_rests_0 : decode cX7_rests 0 = .ok (.aload_n 0, 1) := by decide +kernel
theorem dX7_rests_1 : decode cX7_rests 1 = .ok (.iconst 0, 1) := by decide +kernel
theorem dX7_rests_2 : decode cX7_rests 2 = .ok (.putfield 47, 3) := by decide +kernel
theorem dX7_rests_5 : decode cX7_rests 5 = .ok (.iload_n 1, 1) := by decide +kernel
theorem dX7_rests_6 : decode cX7_rests 6 = .ok (.iconst 1, 1) := by decide +kernel
theorem dX7_rests_7 : decode cX7_rests 7 = .ok (.sipush 999, 3) := by decide +kernel
theorem dX7_rests_10 : decode cX7_rests 10 = .ok (.invokestatic 51, 3) := by decide +kernel
theorem dX7_rests_13 : decode cX7_rests 13 = .ok (.ifCond .eq 22, 3) := by decide +kernel
theorem dX7_rests_16 : decode cX7_rests 16 = .ok (.iload_n 2, 1) := by decide +kernel
theorem dX7_rests_17 : decode cX7_rests 17 = .ok (.iconst 0, 1) := by decide +kernel
theorem dX7_rests_18 : decode cX7_rests 18 = .ok (.bipush 99, 2) := by decide +kernel
theorem dX7_rests_20 : decode cX7_rests 20 = .ok (.invokestatic 51, 3) := by decide +kernel
theorem dX7_rests_23 : decode cX7_rests 23 = .ok (.ifCond .eq 12, 3) := by decide +kernel
theorem dX7_rests_26 : decode cX7_rests 26 = .ok (.iload_n 3, 1) := by decide +kernel
theorem dX7_rests_27 : decode cX7_rests 27 = .ok (.iconst 0, 1) := by decide +kernel
theorem dX7_rests_28 : decode cX7_rests 28 = .ok (.iconst 1, 1) := by decide +kernel
theorem dX7_rests_29 : decode cX7_rests 29 = .ok (.invokestatic 51, 3) := by decide +kernel
theorem dX7_rests_32 : decode cX7_rests 32 = .ok (.ifCond .ne 5, 3) := by decide +kernel
theorem dX7_rests_35 : decode cX7_rests 35 = .ok (.iconst (-1), 1) := by decide +kernel
theorem dX7_rests_36 : decode cX7_rests 36 = .ok (.ireturn, 1) := by decide +kernel
theorem dX7_rests_37 : decode cX7_rests 37 = .ok (.aload_n 0, 1) := by decide +kernel
theorem dX7_rests_38 : decode cX7_rests 38 = .ok (.getfield 13, 3) := by decide +kernel
theorem dX7_rests_41 : decode cX7_rests 41 = .ok (.bipush 41, 2) := by decide +kernel
theorem dX7_rests_43 : decode cX7_rests 43 = .ok (.iaload, 1) := by decide +kernel
theorem dX7_rests_44 : decode cX7_rests 44 = .ok (.ifCond .ne 6, 3) := by decide +kernel
theorem dX7_rests_47 : decode cX7_rests 47 = .ok (.bipush (-2), 2) := by decide +kernel
theorem dX7_rests_49 : decode cX7_rests 49 = .ok (.ireturn, 1) := by decide +kernel
theorem dX7_rests_50 : decode cX7_rests 50 = .ok (.iconst 0, 1) := by decide +kernel
theorem dX7_rests_51 : decode cX7_rests 51 = .ok (.istore 4, 2) := by decide +kernel
theorem dX7_rests_53 : decode cX7_rests 53 = .ok (.bipush (-9), 2) := by decide +kernel
theorem dX7_rests_55 : decode cX7_rests 55 = .ok (.istore 5, 2) := by decide +kernel
theorem dX7_rests_57 : decode cX7_rests 57 = .ok (.iconst 0, 1) := by decide +kernel
theorem dX7_rests_58 : decode cX7_rests 58 = .ok (.istore 6, 2) := by decide +kernel
theorem dX7_rests_60 : decode cX7_rests 60 = .ok (.iload 6, 2) := by decide +kernel
theorem dX7_rests_62 : decode cX7_rests 62 = .ok (.iconst 1, 1) := by decide +kernel
theorem dX7_rests_63 : decode cX7_rests 63 = .ok (.aload_n 0, 1) := by decide +kernel
theorem dX7_rests_64 : decode cX7_rests 64 = .ok (.getfield 13, 3) := by decide +kernel
theorem dX7_rests_67 : decode cX7_rests 67 = .ok (.bipush 40, 2) := by decide +kernel
theorem dX7_rests_69 : decode cX7_rests 69 = .ok (.iaload, 1) := by decide +kernel
theorem dX7_rests_70 : decode cX7_rests 70 = .ok (.ishl, 1) := by decide +kernel
theorem dX7_rests_71 : decode cX7_rests 71 = .ok (.if_icmp .ge 107, 3) := by decide +kernel
theorem dX7_rests_74 : decode cX7_rests 74 = .ok (.iconst 1, 1) := by decide +kernel
theorem dX7_rests_75 : decode cX7_rests 75 = .ok (.istore 7, 2) := by decide +kernel
theorem dX7_rests_77 : decode cX7_rests 77 = .ok (.iconst 0, 1) := by decide +kernel
theorem dX7_rests_78 : decode cX7_rests 78 = .ok (.istore 8, 2) := by decide +kernel
theorem dX7_rests_80 : decode cX7_rests 80 = .ok (.iload 8, 2) := by decide +kernel
theorem dX7_rests_82 : decode cX7_rests 82 = .ok (.aload_n 0, 1) := by decide +kernel
theorem dX7_rests_83 : decode cX7_rests 83 = .ok (.getfield 13, 3) := by decide +kernel
theorem dX7_rests_86 : decode cX7_rests 86 = .ok (.bipush 40, 2) := by decide +kernel
theorem dX7_rests_88 : decode cX7_rests 88 = .ok (.iaload, 1) := by decide +kernel
theorem dX7_rests_89 : decode cX7_rests 89 = .ok (.if_icmp .ge 49, 3) := by decide +kernel
theorem dX7_rests_92 : decode cX7_rests 92 = .ok (.iload 7, 2) := by decide +kernel
theorem dX7_rests_94 : decode cX7_rests 94 = .ok (.ifCond .eq 35, 3) := by decide +kernel
theorem dX7_rests_97 : decode cX7_rests 97 = .ok (.aload_n 0, 1) := by decide +kernel
theorem dX7_rests_98 : decode cX7_rests 98 = .ok (.iload 8, 2) := by decide +kernel
theorem dX7_rests_100 : decode cX7_rests 100 = .ok (.iload 6, 2) := by decide +kernel
theorem dX7_rests_102 : decode cX7_rests 102 = .ok (.iconst 1, 1) := by decide +kernel
theorem dX7_rests_103 : decode cX7_rests 103 = .ok (.iload 8, 2) := by decide +kernel
theorem dX7_rests_105 : decode cX7_rests 105 = .ok (.ishl, 1) := by decide +kernel
theorem dX7_rests_106 : decode cX7_rests 106 = .ok (.ixor, 1) := by decide +kernel
theorem dX7_rests_107 : decode cX7_rests 107 = .ok (.iload_n 1, 1) := by decide +kernel
theorem dX7_rests_108 : decode cX7_rests 108 = .ok (.iload_n 2, 1) := by decide +kernel
theorem dX7_rests_109 : decode cX7_rests 109 = .ok (.invokevirtual 180, 3) := by decide +kernel
theorem dX7_rests_112 : decode cX7_rests 112 = .ok (.aload_n 0, 1) := by decide +kernel
theorem dX7_rests_113 : decode cX7_rests 113 = .ok (.iload 8, 2) := by decide +kernel
theorem dX7_rests_115 : decode cX7_rests 115 = .ok (.iload 6, 2) := by decide +kernel
theorem dX7_rests_117 : decode cX7_rests 117 = .ok (.iload_n 1, 1) := by decide +kernel
theorem dX7_rests_118 : decode cX7_rests 118 = .ok (.iload_n 2, 1) := by decide +kernel
theorem dX7_rests_119 : decode cX7_rests 119 = .ok (.invokevirtual 180, 3) := by decide +kernel
theorem dX7_rests_122 : decode cX7_rests 122 = .ok (.if_icmp .gt 7, 3) := by decide +kernel
theorem dX7_rests_125 : decode cX7_rests 125 = .ok (.iconst 1, 1) := by decide +kernel
theorem dX7_rests_126 : decode cX7_rests 126 = .ok (.goto 4, 3) := by decide +kernel
theorem dX7_rests_129 : decode cX7_rests 129 = .ok (.iconst 0, 1) := by decide +kernel
theorem dX7_rests_130 : decode cX7_rests 130 = .ok (.istore 7, 2) := by decide +kernel
theorem dX7_rests_132 : decode cX7_rests 132 = .ok (.iinc 8 1, 3) := by decide +kernel
theorem dX7_rests_135 : decode cX7_rests 135 = .ok (.goto (-55), 3) := by decide +kernel
theorem dX7_rests_138 : decode cX7_rests 138 = .ok (.iload 7, 2) := by decide +kernel
theorem dX7_rests_140 : decode cX7_rests 140 = .ok (.ifCond .eq 13, 3) := by decide +kernel
theorem dX7_rests_143 : decode cX7_rests 143 = .ok (.iload 4, 2) := by decide +kernel
theorem dX7_rests_145 : decode cX7_rests 145 = .ok (.ifCond .ne 8, 3) := by decide +kernel
theorem dX7_rests_148 : decode cX7_rests 148 = .ok (.iload 6, 2) := by decide +kernel
theorem dX7_rests_150 : decode cX7_rests 150 = .ok (.goto 5, 3) := by decide +kernel
theorem dX7_rests_153 : decode cX7_rests 153 = .ok (.iload 5, 2) := by decide +kernel
theorem dX7_rests_155 : decode cX7_rests 155 = .ok (.istore 5, 2) := by decide +kernel
theorem dX7_rests_157 : decode cX7_rests 157 = .ok (.iload 4, 2) := by decide +kernel
theorem dX7_rests_159 : decode cX7_rests 159 = .ok (.iload 7, 2) := by decide +kernel
theorem dX7_rests_161 : decode cX7_rests 161 = .ok (.ifCond .eq 7, 3) := by decide +kernel
theorem dX7_rests_164 : decode cX7_rests 164 = .ok (.iconst 1, 1) := by decide +kernel
theorem dX7_rests_165 : decode cX7_rests 165 = .ok (.goto 4, 3) := by decide +kernel
theorem dX7_rests_168 : decode cX7_rests 168 = .ok (.iconst 0, 1) := by decide +kernel
theorem dX7_rests_169 : decode cX7_rests 169 = .ok (.iadd, 1) := by decide +kernel
theorem dX7_rests_170 : decode cX7_rests 170 = .ok (.istore 4, 2) := by decide +kernel
theorem dX7_rests_172 : decode cX7_rests 172 = .ok (.iinc 6 1, 3) := by decide +kernel
theorem dX7_rests_175 : decode cX7_rests 175 = .ok (.goto (-115), 3) := by decide +kernel
theorem dX7_rests_178 : decode cX7_rests 178 = .ok (.iload_n 3, 1) := by decide +kernel
theorem dX7_rests_179 : decode cX7_rests 179 = .ok (.ifCond .ne 8, 3) := by decide +kernel
theorem dX7_rests_182 : decode cX7_rests 182 = .ok (.iload 4, 2) := by decide +kernel
theorem dX7_rests_184 : decode cX7_rests 184 = .ok (.goto 5, 3) := by decide +kernel
theorem dX7_rests_187 : decode cX7_rests 187 = .ok (.iload 5, 2) := by decide +kernel
theorem dX7_rests_189 : decode cX7_rests 189 = .ok (.ireturn, 1) := by decide +kernel
theorem dX7_blamed_0 : decode cX7_blamed 0 = .ok (.aload_n 0, 1) := by decide +kernel
theorem dX7_blamed_1 : decode cX7_blamed 1 = .ok (.iconst 0, 1) := by decide +kernel
theorem dX7_blamed_2 : decode cX7_blamed 2 = .ok (.putfield 47, 3) := by decide +kernel
theorem dX7_blamed_5 : decode cX7_blamed 5 = .ok (.iload_n 1, 1) := by decide +kernel
theorem dX7_blamed_6 : decode cX7_blamed 6 = .ok (.iconst 1, 1) := by decide +kernel
theorem dX7_blamed_7 : decode cX7_blamed 7 = .ok (.sipush 999, 3) := by decide +kernel
theorem dX7_blamed_10 : decode cX7_blamed 10 = .ok (.invokestatic 51, 3) := by decide +kernel
theorem dX7_blamed_13 : decode cX7_blamed 13 = .ok (.ifCond .eq 22, 3) := by decide +kernel
theorem dX7_blamed_16 : decode cX7_blamed 16 = .ok (.iload_n 2, 1) := by decide +kernel
theorem dX7_blamed_17 : decode cX7_blamed 17 = .ok (.iconst 0, 1) := by decide +kernel
theorem dX7_blamed_18 : decode cX7_blamed 18 = .ok (.iconst 1, 1) := by decide +kernel
theorem dX7_blamed_19 : decode cX7_blamed 19 = .ok (.aload_n 0, 1) := by decide +kernel
theorem dX7_blamed_20 : decode cX7_blamed 20 = .ok (.getfield 13, 3) := by decide +kernel
theorem dX7_blamed_23 : decode cX7_blamed 23 = .ok (.bipush 40, 2) := by decide +kernel
theorem dX7_blamed_25 : decode cX7_blamed 25 = .ok (.iaload, 1) := by decide +kernel
theorem dX7_blamed_26 : decode cX7_blamed 26 = .ok (.ishl, 1) := by decide +kernel
theorem dX7_blamed_27 : decode cX7_blamed 27 = .ok (.iconst 1, 1) := by decide +kernel
theorem dX7_blamed_28 : decode cX7_blamed 28 = .ok (.isub, 1) := by decide +kernel
theorem dX7_blamed_29 : decode cX7_blamed 29 = .ok (.invokestatic 51, 3) := by decide +kernel
theorem dX7_blamed_32 : decode cX7_blamed 32 = .ok (.ifCond .ne 5, 3) := by decide +kernel
theorem dX7_blamed_35 : decode cX7_blamed 35 = .ok (.iconst (-1), 1) := by decide +kernel
theorem dX7_blamed_36 : decode cX7_blamed 36 = .ok (.ireturn, 1) := by decide +kernel
theorem dX7_blamed_37 : decode cX7_blamed 37 = .ok (.aload_n 0, 1) := by decide +kernel
theorem dX7_blamed_38 : decode cX7_blamed 38 = .ok (.getfield 13, 3) := by decide +kernel
theorem dX7_blamed_41 : decode cX7_blamed 41 = .ok (.bipush 41, 2) := by decide +kernel
theorem dX7_blamed_43 : decode cX7_blamed 43 = .ok (.iaload, 1) := by decide +kernel
theorem dX7_blamed_44 : decode cX7_blamed 44 = .ok (.ifCond .ne 6, 3) := by decide +kernel
theorem dX7_blamed_47 : decode cX7_blamed 47 = .ok (.bipush (-2), 2) := by decide +kernel
theorem dX7_blamed_49 : decode cX7_blamed 49 = .ok (.ireturn, 1) := by decide +kernel
theorem dX7_blamed_50 : decode cX7_blamed 50 = .ok (.aload_n 0, 1) := by decide +kernel
theorem dX7_blamed_51 : decode cX7_blamed 51 = .ok (.iload_n 2, 1) := by decide +kernel
theorem dX7_blamed_52 : decode cX7_blamed 52 = .ok (.invokevirtual 177, 3) := by decide +kernel
theorem dX7_blamed_55 : decode cX7_blamed 55 = .ok (.istore_n 3, 1) := by decide +kernel
theorem dX7_blamed_56 : decode cX7_blamed 56 = .ok (.iconst 0, 1) := by decide +kernel
theorem dX7_blamed_57 : decode cX7_blamed 57 = .ok (.istore 4, 2) := by decide +kernel
theorem dX7_blamed_59 : decode cX7_blamed 59 = .ok (.iload 4, 2) := by decide +kernel
theorem dX7_blamed_61 : decode cX7_blamed 61 = .ok (.aload_n 0, 1) := by decide +kernel
theorem dX7_blamed_62 : decode cX7_blamed 62 = .ok (.getfield 13, 3) := by decide +kernel
theorem dX7_blamed_65 : decode cX7_blamed 65 = .ok (.bipush 40, 2) := by decide +kernel
theorem dX7_blamed_67 : decode cX7_blamed 67 = .ok (.iaload, 1) := by decide +kernel
theorem dX7_blamed_68 : decode cX7_blamed 68 = .ok (.if_icmp .ge 44, 3) := by decide +kernel
theorem dX7_blamed_71 : decode cX7_blamed 71 = .ok (.iload_n 3, 1) := by decide +kernel
theorem dX7_blamed_72 : decode cX7_blamed 72 = .ok (.iload_n 1, 1) := by decide +kernel
theorem dX7_blamed_73 : decode cX7_blamed 73 = .ok (.if_icmp .ge 39, 3) := by decide +kernel
theorem dX7_blamed_76 : decode cX7_blamed 76 = .ok (.iload_n 2, 1) := by decide +kernel
theorem dX7_blamed_77 : decode cX7_blamed 77 = .ok (.iload 4, 2) := by decide +kernel
theorem dX7_blamed_79 : decode cX7_blamed 79 = .ok (.ishr, 1) := by decide +kernel
theorem dX7_blamed_80 : decode cX7_blamed 80 = .ok (.iconst 1, 1) := by decide +kernel
theorem dX7_blamed_81 : decode cX7_blamed 81 = .ok (.iand, 1) := by decide +kernel
theorem dX7_blamed_82 : decode cX7_blamed 82 = .ok (.ifCond .ne 24, 3) := by decide +kernel
theorem dX7_blamed_85 : decode cX7_blamed 85 = .ok (.iload_n 3, 1) := by decide +kernel
theorem dX7_blamed_86 : decode cX7_blamed 86 = .ok (.aload_n 0, 1) := by decide +kernel
theorem dX7_blamed_87 : decode cX7_blamed 87 = .ok (.iload 4, 2) := by decide +kernel
theorem dX7_blamed_89 : decode cX7_blamed 89 = .ok (.aload_n 0, 1) := by decide +kernel
theorem dX7_blamed_90 : decode cX7_blamed 90 = .ok (.iload 4, 2) := by decide +kernel
theorem dX7_blamed_92 : decode cX7_blamed 92 = .ok (.invokevirtual 174, 3) := by decide +kernel
theorem dX7_blamed_95 : decode cX7_blamed 95 = .ok (.invokevirtual 136, 3) := by decide +kernel
theorem dX7_blamed_98 : decode cX7_blamed 98 = .ok (.iadd, 1) := by decide +kernel
theorem dX7_blamed_99 : decode cX7_blamed 99 = .ok (.iload_n 1, 1) := by decide +kernel
theorem dX7_blamed_100 : decode cX7_blamed 100 = .ok (.if_icmp .lt 6, 3) := by decide +kernel
theorem dX7_blamed_103 : decode cX7_blamed 103 = .ok (.iload 4, 2) := by decide +kernel
theorem dX7_blamed_105 : decode cX7_blamed 105 = .ok (.ireturn, 1) := by decide +kernel
theorem dX7_blamed_106 : decode cX7_blamed 106 = .ok (.iinc 4 1, 3) := by decide +kernel
theorem dX7_blamed_109 : decode cX7_blamed 109 = .ok (.goto (-50), 3) := by decide +kernel
theorem dX7_blamed_112 : decode cX7_blamed 112 = .ok (.bipush (-9), 2) := by decide +kernel
theorem dX7_blamed_114 : decode cX7_blamed 114 = .ok (.ireturn, 1) := by decide +kernel
theorem dX7_checks_0 : decode cX7_checks 0 = .ok (.aload_n 0, 1) := by decide +kernel
theorem dX7_checks_1 : decode cX7_checks 1 = .ok (.iconst 0, 1) := by decide +kernel
theorem dX7_checks_2 : decode cX7_checks 2 = .ok (.putfield 47, 3) := by decide +kernel
theorem dX7_checks_5 : decode cX7_checks 5 = .ok (.iload_n 1, 1) := by decide +kernel
theorem dX7_checks_6 : decode cX7_checks 6 = .ok (.iconst 0, 1) := by decide +kernel
theorem dX7_checks_7 : decode cX7_checks 7 = .ok (.bipush 99, 2) := by decide +kernel
theorem dX7_checks_9 : decode cX7_checks 9 = .ok (.invokestatic 51, 3) := by decide +kernel
theorem dX7_checks_12 : decode cX7_checks 12 = .ok (.ifCond .ne 5, 3) := by decide +kernel
theorem dX7_checks_15 : decode cX7_checks 15 = .ok (.iconst (-1), 1) := by decide +kernel
theorem dX7_checks_16 : decode cX7_checks 16 = .ok (.ireturn, 1) := by decide +kernel
theorem dX7_checks_17 : decode cX7_checks 17 = .ok (.iconst 0, 1) := by decide +kernel
theorem dX7_checks_18 : decode cX7_checks 18 = .ok (.istore_n 2, 1) := by decide +kernel
theorem dX7_checks_19 : decode cX7_checks 19 = .ok (.iload_n 2, 1) := by decide +kernel
theorem dX7_checks_20 : decode cX7_checks 20 = .ok (.bipush 11, 2) := by decide +kernel
theorem dX7_checks_22 : decode cX7_checks 22 = .ok (.if_icmp .ge 113, 3) := by decide +kernel
theorem dX7_checks_25 : decode cX7_checks 25 = .ok (.iconst 1, 1) := by decide +kernel
theorem dX7_checks_26 : decode cX7_checks 26 = .ok (.istore_n 3, 1) := by decide +kernel
theorem dX7_checks_27 : decode cX7_checks 27 = .ok (.iconst 0, 1) := by decide +kernel
theorem dX7_checks_28 : decode cX7_checks 28 = .ok (.istore 4, 2) := by decide +kernel
theorem dX7_checks_30 : decode cX7_checks 30 = .ok (.iload 4, 2) := by decide +kernel
theorem dX7_checks_32 : decode cX7_checks 32 = .ok (.aload_n 0, 1) := by decide +kernel
theorem dX7_checks_33 : decode cX7_checks 33 = .ok (.getfield 13, 3) := by decide +kernel
theorem dX7_checks_36 : decode cX7_checks 36 = .ok (.bipush 40, 2) := by decide +kernel
theorem dX7_checks_38 : decode cX7_checks 38 = .ok (.iaload, 1) := by decide +kernel
theorem dX7_checks_39 : decode cX7_checks 39 = .ok (.if_icmp .ge 84, 3) := by decide +kernel
theorem dX7_checks_42 : decode cX7_checks 42 = .ok (.aload_n 0, 1) := by decide +kernel
theorem dX7_checks_43 : decode cX7_checks 43 = .ok (.aload_n 0, 1) := by decide +kernel
theorem dX7_checks_44 : decode cX7_checks 44 = .ok (.getfield 19, 3) := by decide +kernel
theorem dX7_checks_47 : decode cX7_checks 47 = .ok (.iload 4, 2) := by decide +kernel
theorem dX7_checks_49 : decode cX7_checks 49 = .ok (.aload_n 0, 1) := by decide +kernel
theorem dX7_checks_50 : decode cX7_checks 50 = .ok (.getfield 19, 3) := by decide +kernel
theorem dX7_checks_53 : decode cX7_checks 53 = .ok (.iconst 0, 1) := by decide +kernel
theorem dX7_checks_54 : decode cX7_checks 54 = .ok (.iaload, 1) := by decide +kernel
theorem dX7_checks_55 : decode cX7_checks 55 = .ok (.invokevirtual 150, 3) := by decide +kernel
theorem dX7_checks_58 : decode cX7_checks 58 = .ok (.istore 5, 2) := by decide +kernel
theorem dX7_checks_60 : decode cX7_checks 60 = .ok (.iload 5, 2) := by decide +kernel
theorem dX7_checks_62 : decode cX7_checks 62 = .ok (.bipush (-9), 2) := by decide +kernel
theorem dX7_checks_64 : decode cX7_checks 64 = .ok (.if_icmp .ne 7, 3) := by decide +kernel
theorem dX7_checks_67 : decode cX7_checks 67 = .ok (.iconst 0, 1) := by decide +kernel
theorem dX7_checks_68 : decode cX7_checks 68 = .ok (.goto 24, 3) := by decide +kernel
theorem dX7_checks_71 : decode cX7_checks 71 = .ok (.aload_n 0, 1) := by decide +kernel
theorem dX7_checks_72 : decode cX7_checks 72 = .ok (.iload 4, 2) := by decide +kernel
theorem dX7_checks_74 : decode cX7_checks 74 = .ok (.iload 5, 2) := by decide +kernel
theorem dX7_checks_76 : decode cX7_checks 76 = .ok (.invokevirtual 136, 3) := by decide +kernel
theorem dX7_checks_79 : decode cX7_checks 79 = .ok (.aload_n 0, 1) := by decide +kernel
theorem dX7_checks_80 : decode cX7_checks 80 = .ok (.iload 5, 2) := by decide +kernel
theorem dX7_checks_82 : decode cX7_checks 82 = .ok (.aload_n 0, 1) := by decide +kernel
theorem dX7_checks_83 : decode cX7_checks 83 = .ok (.getfield 19, 3) := by decide +kernel
theorem dX7_checks_86 : decode cX7_checks 86 = .ok (.iconst 0, 1) := by decide +kernel
theorem dX7_checks_87 : decode cX7_checks 87 = .ok (.iaload, 1) := by decide +kernel
theorem dX7_checks_88 : decode cX7_checks 88 = .ok (.invokevirtual 133, 3) := by decide +kernel
theorem dX7_checks_91 : decode cX7_checks 91 = .ok (.imul, 1) := by decide +kernel
theorem dX7_checks_92 : decode cX7_checks 92 = .ok (.istore 6, 2) := by decide +kernel
theorem dX7_checks_94 : decode cX7_checks 94 = .ok (.iload_n 3, 1) := by decide +kernel
theorem dX7_checks_95 : decode cX7_checks 95 = .ok (.ifCond .eq 20, 3) := by decide +kernel
theorem dX7_checks_98 : decode cX7_checks 98 = .ok (.iload_n 2, 1) := by decide +kernel
theorem dX7_checks_99 : decode cX7_checks 99 = .ok (.iload_n 1, 1) := by decide +kernel
theorem dX7_checks_100 : decode cX7_checks 100 = .ok (.imul, 1) := by decide +kernel
theorem dX7_checks_101 : decode cX7_checks 101 = .ok (.bipush 10, 2) := by decide +kernel
theorem dX7_checks_103 : decode cX7_checks 103 = .ok (.iload_n 2, 1) := by decide +kernel
theorem dX7_checks_104 : decode cX7_checks 104 = .ok (.isub, 1) := by decide +kernel
theorem dX7_checks_105 : decode cX7_checks 105 = .ok (.iload 6, 2) := by decide +kernel
theorem dX7_checks_107 : decode cX7_checks 107 = .ok (.imul, 1) := by decide +kernel
theorem dX7_checks_108 : decode cX7_checks 108 = .ok (.if_icmp .lt 7, 3) := by decide +kernel
theorem dX7_checks_111 : decode cX7_checks 111 = .ok (.iconst 1, 1) := by decide +kernel
theorem dX7_checks_112 : decode cX7_checks 112 = .ok (.goto 4, 3) := by decide +kernel
theorem dX7_checks_115 : decode cX7_checks 115 = .ok (.iconst 0, 1) := by decide +kernel
theorem dX7_checks_116 : decode cX7_checks 116 = .ok (.istore_n 3, 1) := by decide +kernel
theorem dX7_checks_117 : decode cX7_checks 117 = .ok (.iinc 4 1, 3) := by decide +kernel
theorem dX7_checks_120 : decode cX7_checks 120 = .ok (.goto (-90), 3) := by decide +kernel
theorem dX7_checks_123 : decode cX7_checks 123 = .ok (.iload_n 3, 1) := by decide +kernel
theorem dX7_checks_124 : decode cX7_checks 124 = .ok (.ifCond .eq 5, 3) := by decide +kernel
theorem dX7_checks_127 : decode cX7_checks 127 = .ok (.iload_n 2, 1) := by decide +kernel
theorem dX7_checks_128 : decode cX7_checks 128 = .ok (.ireturn, 1) := by decide +kernel
theorem dX7_checks_129 : decode cX7_checks 129 = .ok (.iinc 2 1, 3) := by decide +kernel
theorem dX7_checks_132 : decode cX7_checks 132 = .ok (.goto (-113), 3) := by decide +kernel
theorem dX7_checks_135 : decode cX7_checks 135 = .ok (.bipush (-9), 2) := by decide +kernel
theorem dX7_checks_137 : decode cX7_checks 137 = .ok (.ireturn, 1) := by decide +kernel
theorem dX7_trial_0 : decode cX7_trial 0 = .ok (.aload_n 0, 1) := by decide +kernel
theorem dX7_trial_1 : decode cX7_trial 1 = .ok (.iconst 0, 1) := by decide +kernel
theorem dX7_trial_2 : decode cX7_trial 2 = .ok (.putfield 47, 3) := by decide +kernel
theorem dX7_trial_5 : decode cX7_trial 5 = .ok (.iload_n 1, 1) := by decide +kernel
theorem dX7_trial_6 : decode cX7_trial 6 = .ok (.iconst 0, 1) := by decide +kernel
theorem dX7_trial_7 : decode cX7_trial 7 = .ok (.bipush 7, 2) := by decide +kernel
theorem dX7_trial_9 : decode cX7_trial 9 = .ok (.invokestatic 51, 3) := by decide +kernel
theorem dX7_trial_12 : decode cX7_trial 12 = .ok (.ifCond .eq 14, 3) := by decide +kernel
theorem dX7_trial_15 : decode cX7_trial 15 = .ok (.iload_n 2, 1) := by decide +kernel
theorem dX7_trial_16 : decode cX7_trial 16 = .ok (.bipush (-99), 2) := by decide +kernel
theorem dX7_trial_18 : decode cX7_trial 18 = .ok (.bipush 99, 2) := by decide +kernel
theorem dX7_trial_20 : decode cX7_trial 20 = .ok (.invokestatic 51, 3) := by decide +kernel
theorem dX7_trial_23 : decode cX7_trial 23 = .ok (.ifCond .ne 5, 3) := by decide +kernel
theorem dX7_trial_26 : decode cX7_trial 26 = .ok (.iconst (-1), 1) := by decide +kernel
theorem dX7_trial_27 : decode cX7_trial 27 = .ok (.ireturn, 1) := by decide +kernel
theorem dX7_trial_28 : decode cX7_trial 28 = .ok (.aload_n 0, 1) := by decide +kernel
theorem dX7_trial_29 : decode cX7_trial 29 = .ok (.getfield 184, 3) := by decide +kernel
theorem dX7_trial_32 : decode cX7_trial 32 = .ok (.bipush 30, 2) := by decide +kernel
theorem dX7_trial_34 : decode cX7_trial 34 = .ok (.if_icmp .ne 6, 3) := by decide +kernel
theorem dX7_trial_37 : decode cX7_trial 37 = .ok (.bipush (-3), 2) := by decide +kernel
theorem dX7_trial_39 : decode cX7_trial 39 = .ok (.ireturn, 1) := by decide +kernel
theorem dX7_trial_40 : decode cX7_trial 40 = .ok (.aload_n 0, 1) := by decide +kernel
theorem dX7_trial_41 : decode cX7_trial 41 = .ok (.getfield 35, 3) := by decide +kernel
theorem dX7_trial_44 : decode cX7_trial 44 = .ok (.aload_n 0, 1) := by decide +kernel
theorem dX7_trial_45 : decode cX7_trial 45 = .ok (.getfield 184, 3) := by decide +kernel
theorem dX7_trial_48 : decode cX7_trial 48 = .ok (.iload_n 1, 1) := by decide +kernel
theorem dX7_trial_49 : decode cX7_trial 49 = .ok (.iastore, 1) := by decide +kernel
theorem dX7_trial_50 : decode cX7_trial 50 = .ok (.aload_n 0, 1) := by decide +kernel
theorem dX7_trial_51 : decode cX7_trial 51 = .ok (.getfield 38, 3) := by decide +kernel
theorem dX7_trial_54 : decode cX7_trial 54 = .ok (.aload_n 0, 1) := by decide +kernel
theorem dX7_trial_55 : decode cX7_trial 55 = .ok (.getfield 184, 3) := by decide +kernel
theorem dX7_trial_58 : decode cX7_trial 58 = .ok (.iload_n 2, 1) := by decide +kernel
theorem dX7_trial_59 : decode cX7_trial 59 = .ok (.iastore, 1) := by decide +kernel
theorem dX7_trial_60 : decode cX7_trial 60 = .ok (.aload_n 0, 1) := by decide +kernel
theorem dX7_trial_61 : decode cX7_trial 61 = .ok (.dup, 1) := by decide +kernel
theorem dX7_trial_62 : decode cX7_trial 62 = .ok (.getfield 184, 3) := by decide +kernel
theorem dX7_trial_65 : decode cX7_trial 65 = .ok (.iconst 1, 1) := by decide +kernel
theorem dX7_trial_66 : decode cX7_trial 66 = .ok (.iadd, 1) := by decide +kernel
theorem dX7_trial_67 : decode cX7_trial 67 = .ok (.putfield 184, 3) := by decide +kernel
theorem dX7_trial_70 : decode cX7_trial 70 = .ok (.aload_n 0, 1) := by decide +kernel
theorem dX7_trial_71 : decode cX7_trial 71 = .ok (.getfield 184, 3) := by decide +kernel
theorem dX7_trial_74 : decode cX7_trial 74 = .ok (.ireturn, 1) := by decide +kernel
theorem dX7_manyOf_0 : decode cX7_manyOf 0 = .ok (.iconst 0, 1) := by decide +kernel
theorem dX7_manyOf_1 : decode cX7_manyOf 1 = .ok (.istore_n 2, 1) := by decide +kernel
theorem dX7_manyOf_2 : decode cX7_manyOf 2 = .ok (.iconst 0, 1) := by decide +kernel
theorem dX7_manyOf_3 : decode cX7_manyOf 3 = .ok (.istore_n 3, 1) := by decide +kernel
theorem dX7_manyOf_4 : decode cX7_manyOf 4 = .ok (.iload_n 3, 1) := by decide +kernel
theorem dX7_manyOf_5 : decode cX7_manyOf 5 = .ok (.aload_n 0, 1) := by decide +kernel
theorem dX7_manyOf_6 : decode cX7_manyOf 6 = .ok (.getfield 184, 3) := by decide +kernel
theorem dX7_manyOf_9 : decode cX7_manyOf 9 = .ok (.if_icmp .ge 22, 3) := by decide +kernel
theorem dX7_manyOf_12 : decode cX7_manyOf 12 = .ok (.iload_n 2, 1) := by decide +kernel
theorem dX7_manyOf_13 : decode cX7_manyOf 13 = .ok (.iload_n 1, 1) := by decide +kernel
theorem dX7_manyOf_14 : decode cX7_manyOf 14 = .ok (.aload_n 0, 1) := by decide +kernel
theorem dX7_manyOf_15 : decode cX7_manyOf 15 = .ok (.getfield 35, 3) := by decide +kernel
theorem dX7_manyOf_18 : decode cX7_manyOf 18 = .ok (.iload_n 3, 1) := by decide +kernel
theorem dX7_manyOf_19 : decode cX7_manyOf 19 = .ok (.iaload, 1) := by decide +kernel
theorem dX7_manyOf_20 : decode cX7_manyOf 20 = .ok (.ishr, 1) := by decide +kernel
theorem dX7_manyOf_21 : decode cX7_manyOf 21 = .ok (.iconst 1, 1) := by decide +kernel
theorem dX7_manyOf_22 : decode cX7_manyOf 22 = .ok (.iand, 1) := by decide +kernel
theorem dX7_manyOf_23 : decode cX7_manyOf 23 = .ok (.iadd, 1) := by decide +kernel
theorem dX7_manyOf_24 : decode cX7_manyOf 24 = .ok (.istore_n 2, 1) := by decide +kernel
theorem dX7_manyOf_25 : decode cX7_manyOf 25 = .ok (.iinc 3 1, 3) := by decide +kernel
theorem dX7_manyOf_28 : decode cX7_manyOf 28 = .ok (.goto (-24), 3) := by decide +kernel
theorem dX7_manyOf_31 : decode cX7_manyOf 31 = .ok (.iload_n 2, 1) := by decide +kernel
theorem dX7_manyOf_32 : decode cX7_manyOf 32 = .ok (.ireturn, 1) := by decide +kernel
theorem dX7_sumOf_0 : decode cX7_sumOf 0 = .ok (.iconst 0, 1) := by decide +kernel
theorem dX7_sumOf_1 : decode cX7_sumOf 1 = .ok (.istore_n 2, 1) := by decide +kernel
theorem dX7_sumOf_2 : decode cX7_sumOf 2 = .ok (.iconst 0, 1) := by decide +kernel
theorem dX7_sumOf_3 : decode cX7_sumOf 3 = .ok (.istore_n 3, 1) := by decide +kernel
theorem dX7_sumOf_4 : decode cX7_sumOf 4 = .ok (.iload_n 3, 1) := by decide +kernel
theorem dX7_sumOf_5 : decode cX7_sumOf 5 = .ok (.aload_n 0, 1) := by decide +kernel
theorem dX7_sumOf_6 : decode cX7_sumOf 6 = .ok (.getfield 184, 3) := by decide +kernel
theorem dX7_sumOf_9 : decode cX7_sumOf 9 = .ok (.if_icmp .ge 36, 3) := by decide +kernel
theorem dX7_sumOf_12 : decode cX7_sumOf 12 = .ok (.iload_n 2, 1) := by decide +kernel
theorem dX7_sumOf_13 : decode cX7_sumOf 13 = .ok (.iload_n 1, 1) := by decide +kernel
theorem dX7_sumOf_14 : decode cX7_sumOf 14 = .ok (.aload_n 0, 1) := by decide +kernel
theorem dX7_sumOf_15 : decode cX7_sumOf 15 = .ok (.getfield 35, 3) := by decide +kernel
theorem dX7_sumOf_18 : decode cX7_sumOf 18 = .ok (.iload_n 3, 1) := by decide +kernel
theorem dX7_sumOf_19 : decode cX7_sumOf 19 = .ok (.iaload, 1) := by decide +kernel
theorem dX7_sumOf_20 : decode cX7_sumOf 20 = .ok (.ishr, 1) := by decide +kernel
theorem dX7_sumOf_21 : decode cX7_sumOf 21 = .ok (.iconst 1, 1) := by decide +kernel
theorem dX7_sumOf_22 : decode cX7_sumOf 22 = .ok (.iand, 1) := by decide +kernel
theorem dX7_sumOf_23 : decode cX7_sumOf 23 = .ok (.iconst 1, 1) := by decide +kernel
theorem dX7_sumOf_24 : decode cX7_sumOf 24 = .ok (.if_icmp .ne 12, 3) := by decide +kernel
theorem dX7_sumOf_27 : decode cX7_sumOf 27 = .ok (.aload_n 0, 1) := by decide +kernel
theorem dX7_sumOf_28 : decode cX7_sumOf 28 = .ok (.getfield 38, 3) := by decide +kernel
theorem dX7_sumOf_31 : decode cX7_sumOf 31 = .ok (.iload_n 3, 1) := by decide +kernel
theorem dX7_sumOf_32 : decode cX7_sumOf 32 = .ok (.iaload, 1) := by decide +kernel
theorem dX7_sumOf_33 : decode cX7_sumOf 33 = .ok (.goto 4, 3) := by decide +kernel
theorem dX7_sumOf_36 : decode cX7_sumOf 36 = .ok (.iconst 0, 1) := by decide +kernel
theorem dX7_sumOf_37 : decode cX7_sumOf 37 = .ok (.iadd, 1) := by decide +kernel
theorem dX7_sumOf_38 : decode cX7_sumOf 38 = .ok (.istore_n 2, 1) := by decide +kernel
theorem dX7_sumOf_39 : decode cX7_sumOf 39 = .ok (.iinc 3 1, 3) := by decide +kernel
theorem dX7_sumOf_42 : decode cX7_sumOf 42 = .ok (.goto (-38), 3) := by decide +kernel
theorem dX7_sumOf_45 : decode cX7_sumOf 45 = .ok (.iload_n 2, 1) := by decide +kernel
theorem dX7_sumOf_46 : decode cX7_sumOf 46 = .ok (.ireturn, 1) := by decide +kernel
theorem dX7_gcd_0 : decode cX7_gcd 0 = .ok (.iload_n 0, 1) := by decide +kernel
theorem dX7_gcd_1 : decode cX7_gcd 1 = .ok (.ifCond .ge 8, 3) := by decide +kernel
theorem dX7_gcd_4 : decode cX7_gcd 4 = .ok (.iload_n 0, 1) := by decide +kernel
theorem dX7_gcd_5 : decode cX7_gcd 5 = .ok (.ineg, 1) := by decide +kernel
theorem dX7_gcd_6 : decode cX7_gcd 6 = .ok (.goto 4, 3) := by decide +kernel
theorem dX7_gcd_9 : decode cX7_gcd 9 = .ok (.iload_n 0, 1) := by decide +kernel
theorem dX7_gcd_10 : decode cX7_gcd 10 = .ok (.istore_n 2, 1) := by decide +kernel
theorem dX7_gcd_11 : decode cX7_gcd 11 = .ok (.iload_n 1, 1) := by decide +kernel
theorem dX7_gcd_12 : decode cX7_gcd 12 = .ok (.istore_n 3, 1) := by decide +kernel
theorem dX7_gcd_13 : decode cX7_gcd 13 = .ok (.iload_n 3, 1) := by decide +kernel
theorem dX7_gcd_14 : decode cX7_gcd 14 = .ok (.ifCond .eq 16, 3) := by decide +kernel
theorem dX7_gcd_17 : decode cX7_gcd 17 = .ok (.iload_n 2, 1) := by decide +kernel
theorem dX7_gcd_18 : decode cX7_gcd 18 = .ok (.iload_n 3, 1) := by decide +kernel
theorem dX7_gcd_19 : decode cX7_gcd 19 = .ok (.irem, 1) := by decide +kernel
theorem dX7_gcd_20 : decode cX7_gcd 20 = .ok (.istore 4, 2) := by decide +kernel
theorem dX7_gcd_22 : decode cX7_gcd 22 = .ok (.iload_n 3, 1) := by decide +kernel
theorem dX7_gcd_23 : decode cX7_gcd 23 = .ok (.istore_n 2, 1) := by decide +kernel
theorem dX7_gcd_24 : decode cX7_gcd 24 = .ok (.iload 4, 2) := by decide +kernel
theorem dX7_gcd_26 : decode cX7_gcd 26 = .ok (.istore_n 3, 1) := by decide +kernel
theorem dX7_gcd_27 : decode cX7_gcd 27 = .ok (.goto (-14), 3) := by decide +kernel
theorem dX7_gcd_30 : decode cX7_gcd 30 = .ok (.iload_n 2, 1) := by decide +kernel
theorem dX7_gcd_31 : decode cX7_gcd 31 = .ok (.ireturn, 1) := by decide +kernel
theorem dX7_meanOf_0 : decode cX7_meanOf 0 = .ok (.aload_n 0, 1) := by decide +kernel
theorem dX7_meanOf_1 : decode cX7_meanOf 1 = .ok (.iload_n 1, 1) := by decide +kernel
theorem dX7_meanOf_2 : decode cX7_meanOf 2 = .ok (.invokevirtual 187, 3) := by decide +kernel
theorem dX7_meanOf_5 : decode cX7_meanOf 5 = .ok (.istore_n 3, 1) := by decide +kernel
theorem dX7_meanOf_6 : decode cX7_meanOf 6 = .ok (.aload_n 0, 1) := by decide +kernel
theorem dX7_meanOf_7 : decode cX7_meanOf 7 = .ok (.iload_n 1, 1) := by decide +kernel
theorem dX7_meanOf_8 : decode cX7_meanOf 8 = .ok (.invokevirtual 190, 3) := by decide +kernel
theorem dX7_meanOf_11 : decode cX7_meanOf 11 = .ok (.istore 4, 2) := by decide +kernel
theorem dX7_meanOf_13 : decode cX7_meanOf 13 = .ok (.iload 4, 2) := by decide +kernel
theorem dX7_meanOf_15 : decode cX7_meanOf 15 = .ok (.ifCond .ne 6, 3) := by decide +kernel
theorem dX7_meanOf_18 : decode cX7_meanOf 18 = .ok (.ldc 193, 2) := by decide +kernel
theorem dX7_meanOf_20 : decode cX7_meanOf 20 = .ok (.ireturn, 1) := by decide +kernel
theorem dX7_meanOf_21 : decode cX7_meanOf 21 = .ok (.iload_n 3, 1) := by decide +kernel
theorem dX7_meanOf_22 : decode cX7_meanOf 22 = .ok (.iload 4, 2) := by decide +kernel
theorem dX7_meanOf_24 : decode cX7_meanOf 24 = .ok (.invokestatic 194, 3) := by decide +kernel
theorem dX7_meanOf_27 : decode cX7_meanOf 27 = .ok (.istore 5, 2) := by decide +kernel
theorem dX7_meanOf_29 : decode cX7_meanOf 29 = .ok (.iload_n 2, 1) := by decide +kernel
theorem dX7_meanOf_30 : decode cX7_meanOf 30 = .ok (.ifCond .ne 10, 3) := by decide +kernel
theorem dX7_meanOf_33 : decode cX7_meanOf 33 = .ok (.iload_n 3, 1) := by decide +kernel
theorem dX7_meanOf_34 : decode cX7_meanOf 34 = .ok (.iload 5, 2) := by decide +kernel
theorem dX7_meanOf_36 : decode cX7_meanOf 36 = .ok (.idiv, 1) := by decide +kernel
theorem dX7_meanOf_37 : decode cX7_meanOf 37 = .ok (.goto 8, 3) := by decide +kernel
theorem dX7_meanOf_40 : decode cX7_meanOf 40 = .ok (.iload 4, 2) := by decide +kernel
theorem dX7_meanOf_42 : decode cX7_meanOf 42 = .ok (.iload 5, 2) := by decide +kernel
theorem dX7_meanOf_44 : decode cX7_meanOf 44 = .ok (.idiv, 1) := by decide +kernel
theorem dX7_meanOf_45 : decode cX7_meanOf 45 = .ok (.ireturn, 1) := by decide +kernel
theorem dX7_joined_0 : decode cX7_joined 0 = .ok (.aload_n 0, 1) := by decide +kernel
theorem dX7_joined_1 : decode cX7_joined 1 = .ok (.iconst 0, 1) := by decide +kernel
theorem dX7_joined_2 : decode cX7_joined 2 = .ok (.putfield 47, 3) := by decide +kernel
theorem dX7_joined_5 : decode cX7_joined 5 = .ok (.iload_n 1, 1) := by decide +kernel
theorem dX7_joined_6 : decode cX7_joined 6 = .ok (.iconst 0, 1) := by decide +kernel
theorem dX7_joined_7 : decode cX7_joined 7 = .ok (.sipush 255, 3) := by decide +kernel
theorem dX7_joined_10 : decode cX7_joined 10 = .ok (.invokestatic 51, 3) := by decide +kernel
theorem dX7_joined_13 : decode cX7_joined 13 = .ok (.ifCond .eq 21, 3) := by decide +kernel
theorem dX7_joined_16 : decode cX7_joined 16 = .ok (.iload_n 2, 1) := by decide +kernel
theorem dX7_joined_17 : decode cX7_joined 17 = .ok (.iconst 0, 1) := by decide +kernel
theorem dX7_joined_18 : decode cX7_joined 18 = .ok (.iconst 1, 1) := by decide +kernel
theorem dX7_joined_19 : decode cX7_joined 19 = .ok (.invokestatic 51, 3) := by decide +kernel
theorem dX7_joined_22 : decode cX7_joined 22 = .ok (.ifCond .eq 12, 3) := by decide +kernel
theorem dX7_joined_25 : decode cX7_joined 25 = .ok (.aload_n 0, 1) := by decide +kernel
theorem dX7_joined_26 : decode cX7_joined 26 = .ok (.iload_n 1, 1) := by decide +kernel
theorem dX7_joined_27 : decode cX7_joined 27 = .ok (.iload_n 2, 1) := by decide +kernel
theorem dX7_joined_28 : decode cX7_joined 28 = .ok (.invokevirtual 197, 3) := by decide +kernel
theorem dX7_joined_31 : decode cX7_joined 31 = .ok (.goto 5, 3) := by decide +kernel
theorem dX7_joined_34 : decode cX7_joined 34 = .ok (.ldc 193, 2) := by decide +kernel
theorem dX7_joined_36 : decode cX7_joined 36 = .ok (.ireturn, 1) := by decide +kernel
theorem dX7_parts_0 : decode cX7_parts 0 = .ok (.aload_n 0, 1) := by decide +kernel
theorem dX7_parts_1 : decode cX7_parts 1 = .ok (.iconst 0, 1) := by decide +kernel
theorem dX7_parts_2 : decode cX7_parts 2 = .ok (.putfield 47, 3) := by decide +kernel
theorem dX7_parts_5 : decode cX7_parts 5 = .ok (.bipush (-9), 2) := by decide +kernel
theorem dX7_parts_7 : decode cX7_parts 7 = .ok (.istore_n 1, 1) := by decide +kernel
theorem dX7_parts_8 : decode cX7_parts 8 = .ok (.lconst 0, 1) := by decide +kernel
theorem dX7_parts_9 : decode cX7_parts 9 = .ok (.lstore_n 2, 1) := by decide +kernel
theorem dX7_parts_10 : decode cX7_parts 10 = .ok (.lconst 1, 1) := by decide +kernel
theorem dX7_parts_11 : decode cX7_parts 11 = .ok (.lstore 4, 2) := by decide +kernel
theorem dX7_parts_13 : decode cX7_parts 13 = .ok (.iconst 0, 1) := by decide +kernel
theorem dX7_parts_14 : decode cX7_parts 14 = .ok (.istore 6, 2) := by decide +kernel
theorem dX7_parts_16 : decode cX7_parts 16 = .ok (.iload 6, 2) := by decide +kernel
theorem dX7_parts_18 : decode cX7_parts 18 = .ok (.iconst 3, 1) := by decide +kernel
theorem dX7_parts_19 : decode cX7_parts 19 = .ok (.if_icmp .ge 152, 3) := by decide +kernel
theorem dX7_parts_22 : decode cX7_parts 22 = .ok (.iload 6, 2) := by decide +kernel
theorem dX7_parts_24 : decode cX7_parts 24 = .ok (.ifCond .ne 9, 3) := by decide +kernel
theorem dX7_parts_27 : decode cX7_parts 27 = .ok (.sipush 170, 3) := by decide +kernel
theorem dX7_parts_30 : decode cX7_parts 30 = .ok (.goto 18, 3) := by decide +kernel
theorem dX7_parts_33 : decode cX7_parts 33 = .ok (.iload 6, 2) := by decide +kernel
theorem dX7_parts_35 : decode cX7_parts 35 = .ok (.iconst 1, 1) := by decide +kernel
theorem dX7_parts_36 : decode cX7_parts 36 = .ok (.if_icmp .ne 9, 3) := by decide +kernel
theorem dX7_parts_39 : decode cX7_parts 39 = .ok (.sipush 204, 3) := by decide +kernel
theorem dX7_parts_42 : decode cX7_parts 42 = .ok (.goto 6, 3) := by decide +kernel
theorem dX7_parts_45 : decode cX7_parts 45 = .ok (.sipush 240, 3) := by decide +kernel
theorem dX7_parts_48 : decode cX7_parts 48 = .ok (.istore 7, 2) := by decide +kernel
theorem dX7_parts_50 : decode cX7_parts 50 = .ok (.sipush 255, 3) := by decide +kernel
theorem dX7_parts_53 : decode cX7_parts 53 = .ok (.iload 7, 2) := by decide +kernel
theorem dX7_parts_55 : decode cX7_parts 55 = .ok (.isub, 1) := by decide +kernel
theorem dX7_parts_56 : decode cX7_parts 56 = .ok (.istore 8, 2) := by decide +kernel
theorem dX7_parts_58 : decode cX7_parts 58 = .ok (.aload_n 0, 1) := by decide +kernel
theorem dX7_parts_59 : decode cX7_parts 59 = .ok (.iload 7, 2) := by decide +kernel
theorem dX7_parts_61 : decode cX7_parts 61 = .ok (.invokevirtual 190, 3) := by decide +kernel
theorem dX7_parts_64 : decode cX7_parts 64 = .ok (.i2l, 1) := by decide +kernel
theorem dX7_parts_65 : decode cX7_parts 65 = .ok (.lstore 9, 2) := by decide +kernel
theorem dX7_parts_67 : decode cX7_parts 67 = .ok (.aload_n 0, 1) := by decide +kernel
theorem dX7_parts_68 : decode cX7_parts 68 = .ok (.iload 8, 2) := by decide +kernel
theorem dX7_parts_70 : decode cX7_parts 70 = .ok (.invokevirtual 190, 3) := by decide +kernel
theorem dX7_parts_73 : decode cX7_parts 73 = .ok (.i2l, 1) := by decide +kernel
theorem dX7_parts_74 : decode cX7_parts 74 = .ok (.lstore 11, 2) := by decide +kernel
theorem dX7_parts_76 : decode cX7_parts 76 = .ok (.lload 9, 2) := by decide +kernel
theorem dX7_parts_78 : decode cX7_parts 78 = .ok (.lconst 0, 1) := by decide +kernel
theorem dX7_parts_79 : decode cX7_parts 79 = .ok (.lcmp, 1) := by decide +kernel
theorem dX7_parts_80 : decode cX7_parts 80 = .ok (.ifCond .le 85, 3) := by decide +kernel
theorem dX7_parts_83 : decode cX7_parts 83 = .ok (.lload 11, 2) := by decide +kernel
theorem dX7_parts_85 : decode cX7_parts 85 = .ok (.lconst 0, 1) := by decide +kernel
theorem dX7_parts_86 : decode cX7_parts 86 = .ok (.lcmp, 1) := by decide +kernel
theorem dX7_parts_87 : decode cX7_parts 87 = .ok (.ifCond .le 78, 3) := by decide +kernel
theorem dX7_parts_90 : decode cX7_parts 90 = .ok (.aload_n 0, 1) := by decide +kernel
theorem dX7_parts_91 : decode cX7_parts 91 = .ok (.iload 7, 2) := by decide +kernel
theorem dX7_parts_93 : decode cX7_parts 93 = .ok (.invokevirtual 187, 3) := by decide +kernel
theorem dX7_parts_96 : decode cX7_parts 96 = .ok (.i2l, 1) := by decide +kernel
theorem dX7_parts_97 : decode cX7_parts 97 = .ok (.lload 11, 2) := by decide +kernel
theorem dX7_parts_99 : decode cX7_parts 99 = .ok (.lmul, 1) := by decide +kernel
theorem dX7_parts_100 : decode cX7_parts 100 = .ok (.aload_n 0, 1) := by decide +kernel
theorem dX7_parts_101 : decode cX7_parts 101 = .ok (.iload 8, 2) := by decide +kernel
theorem dX7_parts_103 : decode cX7_parts 103 = .ok (.invokevirtual 187, 3) := by decide +kernel
theorem dX7_parts_106 : decode cX7_parts 106 = .ok (.i2l, 1) := by decide +kernel
theorem dX7_parts_107 : decode cX7_parts 107 = .ok (.lload 9, 2) := by decide +kernel
theorem dX7_parts_109 : decode cX7_parts 109 = .ok (.lmul, 1) := by decide +kernel
theorem dX7_parts_110 : decode cX7_parts 110 = .ok (.lsub, 1) := by decide +kernel
theorem dX7_parts_111 : decode cX7_parts 111 = .ok (.lstore 13, 2) := by decide +kernel
theorem dX7_parts_113 : decode cX7_parts 113 = .ok (.lload 13, 2) := by decide +kernel
theorem dX7_parts_115 : decode cX7_parts 115 = .ok (.lconst 0, 1) := by decide +kernel
theorem dX7_parts_116 : decode cX7_parts 116 = .ok (.lcmp, 1) := by decide +kernel
theorem dX7_parts_117 : decode cX7_parts 117 = .ok (.ifCond .ge 9, 3) := by decide +kernel
theorem dX7_parts_120 : decode cX7_parts 120 = .ok (.lload 13, 2) := by decide +kernel
theorem dX7_parts_122 : decode cX7_parts 122 = .ok (.lneg, 1) := by decide +kernel
theorem dX7_parts_123 : decode cX7_parts 123 = .ok (.goto 5, 3) := by decide +kernel
theorem dX7_parts_126 : decode cX7_parts 126 = .ok (.lload 13, 2) := by decide +kernel
theorem dX7_parts_128 : decode cX7_parts 128 = .ok (.lstore 13, 2) := by decide +kernel
theorem dX7_parts_130 : decode cX7_parts 130 = .ok (.iload_n 1, 1) := by decide +kernel
theorem dX7_parts_131 : decode cX7_parts 131 = .ok (.bipush (-9), 2) := by decide +kernel
theorem dX7_parts_133 : decode cX7_parts 133 = .ok (.if_icmp .eq 19, 3) := by decide +kernel
theorem dX7_parts_136 : decode cX7_parts 136 = .ok (.lload 13, 2) := by decide +kernel
theorem dX7_parts_138 : decode cX7_parts 138 = .ok (.lload 4, 2) := by decide +kernel
theorem dX7_parts_140 : decode cX7_parts 140 = .ok (.lmul, 1) := by decide +kernel
theorem dX7_parts_141 : decode cX7_parts 141 = .ok (.lload_n 2, 1) := by decide +kernel
theorem dX7_parts_142 : decode cX7_parts 142 = .ok (.lload 9, 2) := by decide +kernel
theorem dX7_parts_144 : decode cX7_parts 144 = .ok (.lmul, 1) := by decide +kernel
theorem dX7_parts_145 : decode cX7_parts 145 = .ok (.lload 11, 2) := by decide +kernel
theorem dX7_parts_147 : decode cX7_parts 147 = .ok (.lmul, 1) := by decide +kernel
theorem dX7_parts_148 : decode cX7_parts 148 = .ok (.lcmp, 1) := by decide +kernel
theorem dX7_parts_149 : decode cX7_parts 149 = .ok (.ifCond .le 16, 3) := by decide +kernel
theorem dX7_parts_152 : decode cX7_parts 152 = .ok (.iload 6, 2) := by decide +kernel
theorem dX7_parts_154 : decode cX7_parts 154 = .ok (.istore_n 1, 1) := by decide +kernel
theorem dX7_parts_155 : decode cX7_parts 155 = .ok (.lload 13, 2) := by decide +kernel
theorem dX7_parts_157 : decode cX7_parts 157 = .ok (.lstore_n 2, 1) := by decide +kernel
theorem dX7_parts_158 : decode cX7_parts 158 = .ok (.lload 9, 2) := by decide +kernel
theorem dX7_parts_160 : decode cX7_parts 160 = .ok (.lload 11, 2) := by decide +kernel
theorem dX7_parts_162 : decode cX7_parts 162 = .ok (.lmul, 1) := by decide +kernel
theorem dX7_parts_163 : decode cX7_parts 163 = .ok (.lstore 4, 2) := by decide +kernel
theorem dX7_parts_165 : decode cX7_parts 165 = .ok (.iinc 6 1, 3) := by decide +kernel
theorem dX7_parts_168 : decode cX7_parts 168 = .ok (.goto (-152), 3) := by decide +kernel
theorem dX7_parts_171 : decode cX7_parts 171 = .ok (.iload_n 1, 1) := by decide +kernel
theorem dX7_parts_172 : decode cX7_parts 172 = .ok (.ireturn, 1) := by decide +kernel
theorem dX7_ahead_0 : decode cX7_ahead 0 = .ok (.aload_n 0, 1) := by decide +kernel
theorem dX7_ahead_1 : decode cX7_ahead 1 = .ok (.iconst 0, 1) := by decide +kernel
theorem dX7_ahead_2 : decode cX7_ahead 2 = .ok (.putfield 47, 3) := by decide +kernel
theorem dX7_ahead_5 : decode cX7_ahead 5 = .ok (.iload_n 1, 1) := by decide +kernel
theorem dX7_ahead_6 : decode cX7_ahead 6 = .ok (.iconst 0, 1) := by decide +kernel
theorem dX7_ahead_7 : decode cX7_ahead 7 = .ok (.bipush 7, 2) := by decide +kernel
theorem dX7_ahead_9 : decode cX7_ahead 9 = .ok (.invokestatic 51, 3) := by decide +kernel
theorem dX7_ahead_12 : decode cX7_ahead 12 = .ok (.ifCond .eq 12, 3) := by decide +kernel
theorem dX7_ahead_15 : decode cX7_ahead 15 = .ok (.iload_n 2, 1) := by decide +kernel
theorem dX7_ahead_16 : decode cX7_ahead 16 = .ok (.iconst 0, 1) := by decide +kernel
theorem dX7_ahead_17 : decode cX7_ahead 17 = .ok (.iconst 1, 1) := by decide +kernel
theorem dX7_ahead_18 : decode cX7_ahead 18 = .ok (.invokestatic 51, 3) := by decide +kernel
theorem dX7_ahead_21 : decode cX7_ahead 21 = .ok (.ifCond .ne 6, 3) := by decide +kernel
theorem dX7_ahead_24 : decode cX7_ahead 24 = .ok (.ldc 193, 2) := by decide +kernel
theorem dX7_ahead_26 : decode cX7_ahead 26 = .ok (.ireturn, 1) := by decide +kernel
theorem dX7_ahead_27 : decode cX7_ahead 27 = .ok (.aload_n 0, 1) := by decide +kernel
theorem dX7_ahead_28 : decode cX7_ahead 28 = .ok (.aload_n 0, 1) := by decide +kernel
theorem dX7_ahead_29 : decode cX7_ahead 29 = .ok (.iconst 1, 1) := by decide +kernel
theorem dX7_ahead_30 : decode cX7_ahead 30 = .ok (.iload_n 1, 1) := by decide +kernel
theorem dX7_ahead_31 : decode cX7_ahead 31 = .ok (.ishl, 1) := by decide +kernel
theorem dX7_ahead_32 : decode cX7_ahead 32 = .ok (.invokevirtual 190, 3) := by decide +kernel
theorem dX7_ahead_35 : decode cX7_ahead 35 = .ok (.ifCond .le 9, 3) := by decide +kernel
theorem dX7_ahead_38 : decode cX7_ahead 38 = .ok (.iconst 1, 1) := by decide +kernel
theorem dX7_ahead_39 : decode cX7_ahead 39 = .ok (.iload_n 1, 1) := by decide +kernel
theorem dX7_ahead_40 : decode cX7_ahead 40 = .ok (.ishl, 1) := by decide +kernel
theorem dX7_ahead_41 : decode cX7_ahead 41 = .ok (.goto 6, 3) := by decide +kernel
theorem dX7_ahead_44 : decode cX7_ahead 44 = .ok (.sipush 255, 3) := by decide +kernel
theorem dX7_ahead_47 : decode cX7_ahead 47 = .ok (.iload_n 2, 1) := by decide +kernel
theorem dX7_ahead_48 : decode cX7_ahead 48 = .ok (.invokevirtual 197, 3) := by decide +kernel
theorem dX7_ahead_51 : decode cX7_ahead 51 = .ok (.ireturn, 1) := by decide +kernel
theorem dX7_halves_0 : decode cX7_halves 0 = .ok (.aload_n 0, 1) := by decide +kernel
theorem dX7_halves_1 : decode cX7_halves 1 = .ok (.iconst 0, 1) := by decide +kernel
theorem dX7_halves_2 : decode cX7_halves 2 = .ok (.putfield 47, 3) := by decide +kernel
theorem dX7_halves_5 : decode cX7_halves 5 = .ok (.iload_n 1, 1) := by decide +kernel
theorem dX7_halves_6 : decode cX7_halves 6 = .ok (.invokestatic 130, 3) := by decide +kernel
theorem dX7_halves_9 : decode cX7_halves 9 = .ok (.ifCond .ne 6, 3) := by decide +kernel
theorem dX7_halves_12 : decode cX7_halves 12 = .ok (.ldc 193, 2) := by decide +kernel
theorem dX7_halves_14 : decode cX7_halves 14 = .ok (.ireturn, 1) := by decide +kernel
theorem dX7_halves_15 : decode cX7_halves 15 = .ok (.aload_n 0, 1) := by decide +kernel
theorem dX7_halves_16 : decode cX7_halves 16 = .ok (.iconst 1, 1) := by decide +kernel
theorem dX7_halves_17 : decode cX7_halves 17 = .ok (.invokevirtual 170, 3) := by decide +kernel
theorem dX7_halves_20 : decode cX7_halves 20 = .ok (.iconst 0, 1) := by decide +kernel
theorem dX7_halves_21 : decode cX7_halves 21 = .ok (.istore_n 2, 1) := by decide +kernel
theorem dX7_halves_22 : decode cX7_halves 22 = .ok (.iconst 0, 1) := by decide +kernel
theorem dX7_halves_23 : decode cX7_halves 23 = .ok (.istore_n 3, 1) := by decide +kernel
theorem dX7_halves_24 : decode cX7_halves 24 = .ok (.iload_n 3, 1) := by decide +kernel
theorem dX7_halves_25 : decode cX7_halves 25 = .ok (.aload_n 0, 1) := by decide +kernel
theorem dX7_halves_26 : decode cX7_halves 26 = .ok (.getfield 13, 3) := by decide +kernel
theorem dX7_halves_29 : decode cX7_halves 29 = .ok (.bipush 40, 2) := by decide +kernel
theorem dX7_halves_31 : decode cX7_halves 31 = .ok (.iaload, 1) := by decide +kernel
theorem dX7_halves_32 : decode cX7_halves 32 = .ok (.if_icmp .ge 94, 3) := by decide +kernel
theorem dX7_halves_35 : decode cX7_halves 35 = .ok (.aload_n 0, 1) := by decide +kernel
theorem dX7_halves_36 : decode cX7_halves 36 = .ok (.getfield 19, 3) := by decide +kernel
theorem dX7_halves_39 : decode cX7_halves 39 = .ok (.iconst 2, 1) := by decide +kernel
theorem dX7_halves_40 : decode cX7_halves 40 = .ok (.aload_n 0, 1) := by decide +kernel
theorem dX7_halves_41 : decode cX7_halves 41 = .ok (.getfield 19, 3) := by decide +kernel
theorem dX7_halves_44 : decode cX7_halves 44 = .ok (.iconst 2, 1) := by decide +kernel
theorem dX7_halves_45 : decode cX7_halves 45 = .ok (.iaload, 1) := by decide +kernel
theorem dX7_halves_46 : decode cX7_halves 46 = .ok (.ldc 200, 2) := by decide +kernel
theorem dX7_halves_48 : decode cX7_halves 48 = .ok (.imul, 1) := by decide +kernel
theorem dX7_halves_49 : decode cX7_halves 49 = .ok (.sipush 12345, 3) := by decide +kernel
theorem dX7_halves_52 : decode cX7_halves 52 = .ok (.iadd, 1) := by decide +kernel
theorem dX7_halves_53 : decode cX7_halves 53 = .ok (.iastore, 1) := by decide +kernel
theorem dX7_halves_54 : decode cX7_halves 54 = .ok (.aload_n 0, 1) := by decide +kernel
theorem dX7_halves_55 : decode cX7_halves 55 = .ok (.getfield 19, 3) := by decide +kernel
theorem dX7_halves_58 : decode cX7_halves 58 = .ok (.iconst 2, 1) := by decide +kernel
theorem dX7_halves_59 : decode cX7_halves 59 = .ok (.iaload, 1) := by decide +kernel
theorem dX7_halves_60 : decode cX7_halves 60 = .ok (.bipush 16, 2) := by decide +kernel
theorem dX7_halves_62 : decode cX7_halves 62 = .ok (.ishr, 1) := by decide +kernel
theorem dX7_halves_63 : decode cX7_halves 63 = .ok (.iconst 1, 1) := by decide +kernel
theorem dX7_halves_64 : decode cX7_halves 64 = .ok (.iand, 1) := by decide +kernel
theorem dX7_halves_65 : decode cX7_halves 65 = .ok (.iconst 1, 1) := by decide +kernel
theorem dX7_halves_66 : decode cX7_halves 66 = .ok (.if_icmp .ne 7, 3) := by decide +kernel
theorem dX7_halves_69 : decode cX7_halves 69 = .ok (.iconst 1, 1) := by decide +kernel
theorem dX7_halves_70 : decode cX7_halves 70 = .ok (.goto 4, 3) := by decide +kernel
theorem dX7_halves_73 : decode cX7_halves 73 = .ok (.iconst 0, 1) := by decide +kernel
theorem dX7_halves_74 : decode cX7_halves 74 = .ok (.istore 4, 2) := by decide +kernel
theorem dX7_halves_76 : decode cX7_halves 76 = .ok (.iload_n 2, 1) := by decide +kernel
theorem dX7_halves_77 : decode cX7_halves 77 = .ok (.iload 4, 2) := by decide +kernel
theorem dX7_halves_79 : decode cX7_halves 79 = .ok (.ifCond .eq 9, 3) := by decide +kernel
theorem dX7_halves_82 : decode cX7_halves 82 = .ok (.iconst 1, 1) := by decide +kernel
theorem dX7_halves_83 : decode cX7_halves 83 = .ok (.iload_n 3, 1) := by decide +kernel
theorem dX7_halves_84 : decode cX7_halves 84 = .ok (.ishl, 1) := by decide +kernel
theorem dX7_halves_85 : decode cX7_halves 85 = .ok (.goto 4, 3) := by decide +kernel
theorem dX7_halves_88 : decode cX7_halves 88 = .ok (.iconst 0, 1) := by decide +kernel
theorem dX7_halves_89 : decode cX7_halves 89 = .ok (.ior, 1) := by decide +kernel
theorem dX7_halves_90 : decode cX7_halves 90 = .ok (.istore_n 2, 1) := by decide +kernel
theorem dX7_halves_91 : decode cX7_halves 91 = .ok (.aload_n 0, 1) := by decide +kernel
theorem dX7_halves_92 : decode cX7_halves 92 = .ok (.getfield 13, 3) := by decide +kernel
theorem dX7_halves_95 : decode cX7_halves 95 = .ok (.iconst 3, 1) := by decide +kernel
theorem dX7_halves_96 : decode cX7_halves 96 = .ok (.iload_n 3, 1) := by decide +kernel
theorem dX7_halves_97 : decode cX7_halves 97 = .ok (.imul, 1) := by decide +kernel
theorem dX7_halves_98 : decode cX7_halves 98 = .ok (.iconst 2, 1) := by decide +kernel
theorem dX7_halves_99 : decode cX7_halves 99 = .ok (.iadd, 1) := by decide +kernel
theorem dX7_halves_100 : decode cX7_halves 100 = .ok (.iload 4, 2) := by decide +kernel
theorem dX7_halves_102 : decode cX7_halves 102 = .ok (.ifCond .eq 16, 3) := by decide +kernel
theorem dX7_halves_105 : decode cX7_halves 105 = .ok (.aload_n 0, 1) := by decide +kernel
theorem dX7_halves_106 : decode cX7_halves 106 = .ok (.getfield 13, 3) := by decide +kernel
theorem dX7_halves_109 : decode cX7_halves 109 = .ok (.iconst 3, 1) := by decide +kernel
theorem dX7_halves_110 : decode cX7_halves 110 = .ok (.iload_n 3, 1) := by decide +kernel
theorem dX7_halves_111 : decode cX7_halves 111 = .ok (.imul, 1) := by decide +kernel
theorem dX7_halves_112 : decode cX7_halves 112 = .ok (.iconst 2, 1) := by decide +kernel
theorem dX7_halves_113 : decode cX7_halves 113 = .ok (.iadd, 1) := by decide +kernel
theorem dX7_halves_114 : decode cX7_halves 114 = .ok (.iaload, 1) := by decide +kernel
theorem dX7_halves_115 : decode cX7_halves 115 = .ok (.goto 4, 3) := by decide +kernel
theorem dX7_halves_118 : decode cX7_halves 118 = .ok (.iconst 0, 1) := by decide +kernel
theorem dX7_halves_119 : decode cX7_halves 119 = .ok (.iastore, 1) := by decide +kernel
theorem dX7_halves_120 : decode cX7_halves 120 = .ok (.iinc 3 1, 3) := by decide +kernel
theorem dX7_halves_123 : decode cX7_halves 123 = .ok (.goto (-99), 3) := by decide +kernel
theorem dX7_halves_126 : decode cX7_halves 126 = .ok (.aload_n 0, 1) := by decide +kernel
theorem dX7_halves_127 : decode cX7_halves 127 = .ok (.iload_n 1, 1) := by decide +kernel
theorem dX7_halves_128 : decode cX7_halves 128 = .ok (.invokevirtual 167, 3) := by decide +kernel
theorem dX7_halves_131 : decode cX7_halves 131 = .ok (.pop, 1) := by decide +kernel
theorem dX7_halves_132 : decode cX7_halves 132 = .ok (.iconst 0, 1) := by decide +kernel
theorem dX7_halves_133 : decode cX7_halves 133 = .ok (.istore_n 3, 1) := by decide +kernel
theorem dX7_halves_134 : decode cX7_halves 134 = .ok (.iconst 0, 1) := by decide +kernel
theorem dX7_halves_135 : decode cX7_halves 135 = .ok (.istore 4, 2) := by decide +kernel
theorem dX7_halves_137 : decode cX7_halves 137 = .ok (.iload 4, 2) := by decide +kernel
theorem dX7_halves_139 : decode cX7_halves 139 = .ok (.aload_n 0, 1) := by decide +kernel
theorem dX7_halves_140 : decode cX7_halves 140 = .ok (.getfield 13, 3) := by decide +kernel
theorem dX7_halves_143 : decode cX7_halves 143 = .ok (.bipush 40, 2) := by decide +kernel
theorem dX7_halves_145 : decode cX7_halves 145 = .ok (.iaload, 1) := by decide +kernel
theorem dX7_halves_146 : decode cX7_halves 146 = .ok (.if_icmp .ge 48, 3) := by decide +kernel
theorem dX7_halves_149 : decode cX7_halves 149 = .ok (.iload_n 3, 1) := by decide +kernel
theorem dX7_halves_150 : decode cX7_halves 150 = .ok (.iload_n 2, 1) := by decide +kernel
theorem dX7_halves_151 : decode cX7_halves 151 = .ok (.iload 4, 2) := by decide +kernel
theorem dX7_halves_153 : decode cX7_halves 153 = .ok (.ishr, 1) := by decide +kernel
theorem dX7_halves_154 : decode cX7_halves 154 = .ok (.iconst 1, 1) := by decide +kernel
theorem dX7_halves_155 : decode cX7_halves 155 = .ok (.iand, 1) := by decide +kernel
theorem dX7_halves_156 : decode cX7_halves 156 = .ok (.iconst 1, 1) := by decide +kernel
theorem dX7_halves_157 : decode cX7_halves 157 = .ok (.if_icmp .ne 17, 3) := by decide +kernel
theorem dX7_halves_160 : decode cX7_halves 160 = .ok (.aload_n 0, 1) := by decide +kernel
theorem dX7_halves_161 : decode cX7_halves 161 = .ok (.getfield 29, 3) := by decide +kernel
theorem dX7_halves_164 : decode cX7_halves 164 = .ok (.iconst 3, 1) := by decide +kernel
theorem dX7_halves_165 : decode cX7_halves 165 = .ok (.iconst 3, 1) := by decide +kernel
theorem dX7_halves_166 : decode cX7_halves 166 = .ok (.iload 4, 2) := by decide +kernel
theorem dX7_halves_168 : decode cX7_halves 168 = .ok (.imul, 1) := by decide +kernel
end
section
theorem dX7_halves_169 : decode cX7_halves 169 = .ok (.iadd, 1) := by decide +kernel
theorem dX7_halves_170 : decode cX7_halves 170 = .ok (.iaload, 1) := by decide +kernel
theorem dX7_halves_171 : decode cX7_halves 171 = .ok (.goto 15, 3) := by decide +kernel
theorem dX7_halves_174 : decode cX7_halves 174 = .ok (.aload_n 0, 1) := by decide +kernel
theorem dX7_halves_175 : decode cX7_halves 175 = .ok (.getfield 29, 3) := by decide +kernel
theorem dX7_halves_178 : decode cX7_halves 178 = .ok (.iconst 3, 1) := by decide +kernel
theorem dX7_halves_179 : decode cX7_halves 179 = .ok (.iconst 3, 1) := by decide +kernel
theorem dX7_halves_180 : decode cX7_halves 180 = .ok (.iload 4, 2) := by decide +kernel
theorem dX7_halves_182 : decode cX7_halves 182 = .ok (.imul, 1) := by decide +kernel
theorem dX7_halves_183 : decode cX7_halves 183 = .ok (.iadd, 1) := by decide +kernel
theorem dX7_halves_184 : decode cX7_halves 184 = .ok (.iaload, 1) := by decide +kernel
theorem dX7_halves_185 : decode cX7_halves 185 = .ok (.ineg, 1) := by decide +kernel
theorem dX7_halves_186 : decode cX7_halves 186 = .ok (.iadd, 1) := by decide +kernel
theorem dX7_halves_187 : decode cX7_halves 187 = .ok (.istore_n 3, 1) := by decide +kernel
theorem dX7_halves_188 : decode cX7_halves 188 = .ok (.iinc 4 1, 3) := by decide +kernel
theorem dX7_halves_191 : decode cX7_halves 191 = .ok (.goto (-54), 3) := by decide +kernel
theorem dX7_halves_194 : decode cX7_halves 194 = .ok (.aload_n 0, 1) := by decide +kernel
theorem dX7_halves_195 : decode cX7_halves 195 = .ok (.iconst 0, 1) := by decide +kernel
theorem dX7_halves_196 : decode cX7_halves 196 = .ok (.invokevirtual 170, 3) := by decide +kernel
theorem dX7_halves_199 : decode cX7_halves 199 = .ok (.iload_n 3, 1) := by decide +kernel
theorem dX7_halves_200 : decode cX7_halves 200 = .ok (.ireturn, 1) := by decide +kernel
theorem dX7_lot_0 : decode cX7_lot 0 = .ok (.aload_n 0, 1) := by decide +kernel
theorem dX7_lot_1 : decode cX7_lot 1 = .ok (.iconst 0, 1) := by decide +kernel
theorem dX7_lot_2 : decode cX7_lot 2 = .ok (.putfield 47, 3) := by decide +kernel
theorem dX7_lot_5 : decode cX7_lot 5 = .ok (.aload_n 0, 1) := by decide +kernel
theorem dX7_lot_6 : decode cX7_lot 6 = .ok (.getfield 19, 3) := by decide +kernel
theorem dX7_lot_9 : decode cX7_lot 9 = .ok (.iconst 2, 1) := by decide +kernel
theorem dX7_lot_10 : decode cX7_lot 10 = .ok (.iaload, 1) := by decide +kernel
theorem dX7_lot_11 : decode cX7_lot 11 = .ok (.istore_n 2, 1) := by decide +kernel
theorem dX7_lot_12 : decode cX7_lot 12 = .ok (.aload_n 0, 1) := by decide +kernel
theorem dX7_lot_13 : decode cX7_lot 13 = .ok (.getfield 19, 3) := by decide +kernel
theorem dX7_lot_16 : decode cX7_lot 16 = .ok (.iconst 2, 1) := by decide +kernel
theorem dX7_lot_17 : decode cX7_lot 17 = .ok (.iload_n 1, 1) := by decide +kernel
theorem dX7_lot_18 : decode cX7_lot 18 = .ok (.iastore, 1) := by decide +kernel
theorem dX7_lot_19 : decode cX7_lot 19 = .ok (.iload_n 2, 1) := by decide +kernel
theorem dX7_lot_20 : decode cX7_lot 20 = .ok (.ireturn, 1) := by decide +kernel
theorem dX7_rate_0 : decode cX7_rate 0 = .ok (.aload_n 0, 1) := by decide +kernel
theorem dX7_rate_1 : decode cX7_rate 1 = .ok (.iconst 0, 1) := by decide +kernel
theorem dX7_rate_2 : decode cX7_rate 2 = .ok (.putfield 47, 3) := by decide +kernel
theorem dX7_rate_5 : decode cX7_rate 5 = .ok (.iload_n 1, 1) := by decide +kernel
theorem dX7_rate_6 : decode cX7_rate 6 = .ok (.iconst 0, 1) := by decide +kernel
theorem dX7_rate_7 : decode cX7_rate 7 = .ok (.iconst 5, 1) := by decide +kernel
theorem dX7_rate_8 : decode cX7_rate 8 = .ok (.invokestatic 51, 3) := by decide +kernel
theorem dX7_rate_11 : decode cX7_rate 11 = .ok (.ifCond .eq 11, 3) := by decide +kernel
theorem dX7_rate_14 : decode cX7_rate 14 = .ok (.aload_n 0, 1) := by decide +kernel
theorem dX7_rate_15 : decode cX7_rate 15 = .ok (.iload_n 2, 1) := by decide +kernel
theorem dX7_rate_16 : decode cX7_rate 16 = .ok (.invokevirtual 120, 3) := by decide +kernel
theorem dX7_rate_19 : decode cX7_rate 19 = .ok (.ifCond .ne 6, 3) := by decide +kernel
theorem dX7_rate_22 : decode cX7_rate 22 = .ok (.ldc 193, 2) := by decide +kernel
theorem dX7_rate_24 : decode cX7_rate 24 = .ok (.ireturn, 1) := by decide +kernel
theorem dX7_rate_25 : decode cX7_rate 25 = .ok (.aload_n 0, 1) := by decide +kernel
theorem dX7_rate_26 : decode cX7_rate 26 = .ok (.getfield 19, 3) := by decide +kernel
theorem dX7_rate_29 : decode cX7_rate 29 = .ok (.iconst 3, 1) := by decide +kernel
theorem dX7_rate_30 : decode cX7_rate 30 = .ok (.iconst 3, 1) := by decide +kernel
theorem dX7_rate_31 : decode cX7_rate 31 = .ok (.iload_n 2, 1) := by decide +kernel
theorem dX7_rate_32 : decode cX7_rate 32 = .ok (.imul, 1) := by decide +kernel
theorem dX7_rate_33 : decode cX7_rate 33 = .ok (.iadd, 1) := by decide +kernel
theorem dX7_rate_34 : decode cX7_rate 34 = .ok (.iaload, 1) := by decide +kernel
theorem dX7_rate_35 : decode cX7_rate 35 = .ok (.istore_n 3, 1) := by decide +kernel
theorem dX7_rate_36 : decode cX7_rate 36 = .ok (.aload_n 0, 1) := by decide +kernel
theorem dX7_rate_37 : decode cX7_rate 37 = .ok (.getfield 19, 3) := by decide +kernel
theorem dX7_rate_40 : decode cX7_rate 40 = .ok (.iconst 3, 1) := by decide +kernel
theorem dX7_rate_41 : decode cX7_rate 41 = .ok (.iconst 3, 1) := by decide +kernel
theorem dX7_rate_42 : decode cX7_rate 42 = .ok (.iload_n 2, 1) := by decide +kernel
theorem dX7_rate_43 : decode cX7_rate 43 = .ok (.imul, 1) := by decide +kernel
theorem dX7_rate_44 : decode cX7_rate 44 = .ok (.iadd, 1) := by decide +kernel
theorem dX7_rate_45 : decode cX7_rate 45 = .ok (.iconst 2, 1) := by decide +kernel
theorem dX7_rate_46 : decode cX7_rate 46 = .ok (.iadd, 1) := by decide +kernel
theorem dX7_rate_47 : decode cX7_rate 47 = .ok (.iaload, 1) := by decide +kernel
theorem dX7_rate_48 : decode cX7_rate 48 = .ok (.istore 4, 2) := by decide +kernel
theorem dX7_rate_50 : decode cX7_rate 50 = .ok (.iload 4, 2) := by decide +kernel
theorem dX7_rate_52 : decode cX7_rate 52 = .ok (.iload_n 3, 1) := by decide +kernel
theorem dX7_rate_53 : decode cX7_rate 53 = .ok (.isub, 1) := by decide +kernel
theorem dX7_rate_54 : decode cX7_rate 54 = .ok (.aload_n 0, 1) := by decide +kernel
theorem dX7_rate_55 : decode cX7_rate 55 = .ok (.getfield 19, 3) := by decide +kernel
theorem dX7_rate_58 : decode cX7_rate 58 = .ok (.iconst 3, 1) := by decide +kernel
theorem dX7_rate_59 : decode cX7_rate 59 = .ok (.iconst 3, 1) := by decide +kernel
theorem dX7_rate_60 : decode cX7_rate 60 = .ok (.iload_n 2, 1) := by decide +kernel
theorem dX7_rate_61 : decode cX7_rate 61 = .ok (.imul, 1) := by decide +kernel
theorem dX7_rate_62 : decode cX7_rate 62 = .ok (.iadd, 1) := by decide +kernel
theorem dX7_rate_63 : decode cX7_rate 63 = .ok (.iconst 1, 1) := by decide +kernel
theorem dX7_rate_64 : decode cX7_rate 64 = .ok (.iadd, 1) := by decide +kernel
theorem dX7_rate_65 : decode cX7_rate 65 = .ok (.iaload, 1) := by decide +kernel
theorem dX7_rate_66 : decode cX7_rate 66 = .ok (.iadd, 1) := by decide +kernel
theorem dX7_rate_67 : decode cX7_rate 67 = .ok (.istore 5, 2) := by decide +kernel
theorem dX7_rate_69 : decode cX7_rate 69 = .ok (.aload_n 0, 1) := by decide +kernel
theorem dX7_rate_70 : decode cX7_rate 70 = .ok (.dup, 1) := by decide +kernel
theorem dX7_rate_71 : decode cX7_rate 71 = .ok (.getfield 201, 3) := by decide +kernel
theorem dX7_rate_74 : decode cX7_rate 74 = .ok (.iload_n 1, 1) := by decide +kernel
theorem dX7_rate_75 : decode cX7_rate 75 = .ok (.ifCond .ne 7, 3) := by decide +kernel
theorem dX7_rate_78 : decode cX7_rate 78 = .ok (.lconst 1, 1) := by decide +kernel
theorem dX7_rate_79 : decode cX7_rate 79 = .ok (.goto 50, 3) := by decide +kernel
theorem dX7_rate_82 : decode cX7_rate 82 = .ok (.iload_n 1, 1) := by decide +kernel
theorem dX7_rate_83 : decode cX7_rate 83 = .ok (.iconst 1, 1) := by decide +kernel
theorem dX7_rate_84 : decode cX7_rate 84 = .ok (.if_icmp .ne 9, 3) := by decide +kernel
theorem dX7_rate_87 : decode cX7_rate 87 = .ok (.ldc2_w 205, 3) := by decide +kernel
theorem dX7_rate_90 : decode cX7_rate 90 = .ok (.goto 39, 3) := by decide +kernel
theorem dX7_rate_93 : decode cX7_rate 93 = .ok (.iload_n 1, 1) := by decide +kernel
theorem dX7_rate_94 : decode cX7_rate 94 = .ok (.iconst 2, 1) := by decide +kernel
theorem dX7_rate_95 : decode cX7_rate 95 = .ok (.if_icmp .ne 9, 3) := by decide +kernel
theorem dX7_rate_98 : decode cX7_rate 98 = .ok (.ldc2_w 207, 3) := by decide +kernel
theorem dX7_rate_101 : decode cX7_rate 101 = .ok (.goto 28, 3) := by decide +kernel
theorem dX7_rate_104 : decode cX7_rate 104 = .ok (.iload_n 1, 1) := by decide +kernel
theorem dX7_rate_105 : decode cX7_rate 105 = .ok (.iconst 3, 1) := by decide +kernel
theorem dX7_rate_106 : decode cX7_rate 106 = .ok (.if_icmp .ne 9, 3) := by decide +kernel
theorem dX7_rate_109 : decode cX7_rate 109 = .ok (.ldc2_w 209, 3) := by decide +kernel
theorem dX7_rate_112 : decode cX7_rate 112 = .ok (.goto 17, 3) := by decide +kernel
theorem dX7_rate_115 : decode cX7_rate 115 = .ok (.iload_n 1, 1) := by decide +kernel
theorem dX7_rate_116 : decode cX7_rate 116 = .ok (.iconst 4, 1) := by decide +kernel
theorem dX7_rate_117 : decode cX7_rate 117 = .ok (.if_icmp .ne 9, 3) := by decide +kernel
theorem dX7_rate_120 : decode cX7_rate 120 = .ok (.ldc2_w 211, 3) := by decide +kernel
theorem dX7_rate_123 : decode cX7_rate 123 = .ok (.goto 6, 3) := by decide +kernel
theorem dX7_rate_126 : decode cX7_rate 126 = .ok (.ldc2_w 213, 3) := by decide +kernel
theorem dX7_rate_129 : decode cX7_rate 129 = .ok (.ladd, 1) := by decide +kernel
theorem dX7_rate_130 : decode cX7_rate 130 = .ok (.putfield 201, 3) := by decide +kernel
theorem dX7_rate_133 : decode cX7_rate 133 = .ok (.iload_n 1, 1) := by decide +kernel
theorem dX7_rate_134 : decode cX7_rate 134 = .ok (.ifCond .ne 8, 3) := by decide +kernel
theorem dX7_rate_137 : decode cX7_rate 137 = .ok (.iload 4, 2) := by decide +kernel
theorem dX7_rate_139 : decode cX7_rate 139 = .ok (.goto 58, 3) := by decide +kernel
theorem dX7_rate_142 : decode cX7_rate 142 = .ok (.iload_n 1, 1) := by decide +kernel
theorem dX7_rate_143 : decode cX7_rate 143 = .ok (.iconst 1, 1) := by decide +kernel
theorem dX7_rate_144 : decode cX7_rate 144 = .ok (.if_icmp .ne 10, 3) := by decide +kernel
theorem dX7_rate_147 : decode cX7_rate 147 = .ok (.iload 4, 2) := by decide +kernel
theorem dX7_rate_149 : decode cX7_rate 149 = .ok (.iload_n 3, 1) := by decide +kernel
theorem dX7_rate_150 : decode cX7_rate 150 = .ok (.isub, 1) := by decide +kernel
theorem dX7_rate_151 : decode cX7_rate 151 = .ok (.goto 46, 3) := by decide +kernel
theorem dX7_rate_154 : decode cX7_rate 154 = .ok (.iload_n 1, 1) := by decide +kernel
theorem dX7_rate_155 : decode cX7_rate 155 = .ok (.iconst 2, 1) := by decide +kernel
theorem dX7_rate_156 : decode cX7_rate 156 = .ok (.if_icmp .ne 10, 3) := by decide +kernel
theorem dX7_rate_159 : decode cX7_rate 159 = .ok (.iload 4, 2) := by decide +kernel
theorem dX7_rate_161 : decode cX7_rate 161 = .ok (.iload_n 3, 1) := by decide +kernel
theorem dX7_rate_162 : decode cX7_rate 162 = .ok (.iadd, 1) := by decide +kernel
theorem dX7_rate_163 : decode cX7_rate 163 = .ok (.goto 34, 3) := by decide +kernel
theorem dX7_rate_166 : decode cX7_rate 166 = .ok (.iload_n 1, 1) := by decide +kernel
theorem dX7_rate_167 : decode cX7_rate 167 = .ok (.iconst 3, 1) := by decide +kernel
theorem dX7_rate_168 : decode cX7_rate 168 = .ok (.if_icmp .ne 8, 3) := by decide +kernel
theorem dX7_rate_171 : decode cX7_rate 171 = .ok (.iload 5, 2) := by decide +kernel
theorem dX7_rate_173 : decode cX7_rate 173 = .ok (.goto 24, 3) := by decide +kernel
theorem dX7_rate_176 : decode cX7_rate 176 = .ok (.iload_n 1, 1) := by decide +kernel
theorem dX7_rate_177 : decode cX7_rate 177 = .ok (.iconst 4, 1) := by decide +kernel
theorem dX7_rate_178 : decode cX7_rate 178 = .ok (.if_icmp .ne 10, 3) := by decide +kernel
theorem dX7_rate_181 : decode cX7_rate 181 = .ok (.iconst 2, 1) := by decide +kernel
theorem dX7_rate_182 : decode cX7_rate 182 = .ok (.iload 5, 2) := by decide +kernel
theorem dX7_rate_184 : decode cX7_rate 184 = .ok (.imul, 1) := by decide +kernel
theorem dX7_rate_185 : decode cX7_rate 185 = .ok (.goto 12, 3) := by decide +kernel
theorem dX7_rate_188 : decode cX7_rate 188 = .ok (.iload 4, 2) := by decide +kernel
theorem dX7_rate_190 : decode cX7_rate 190 = .ok (.aload_n 0, 1) := by decide +kernel
theorem dX7_rate_191 : decode cX7_rate 191 = .ok (.getfield 19, 3) := by decide +kernel
theorem dX7_rate_194 : decode cX7_rate 194 = .ok (.iconst 1, 1) := by decide +kernel
theorem dX7_rate_195 : decode cX7_rate 195 = .ok (.iaload, 1) := by decide +kernel
theorem dX7_rate_196 : decode cX7_rate 196 = .ok (.iadd, 1) := by decide +kernel
theorem dX7_rate_197 : decode cX7_rate 197 = .ok (.ireturn, 1) := by decide +kernel
theorem dX7_keep_0 : decode cX7_keep 0 = .ok (.aload_n 0, 1) := by decide +kernel
theorem dX7_keep_1 : decode cX7_keep 1 = .ok (.iconst 0, 1) := by decide +kernel
theorem dX7_keep_2 : decode cX7_keep 2 = .ok (.putfield 47, 3) := by decide +kernel
theorem dX7_keep_5 : decode cX7_keep 5 = .ok (.iload_n 1, 1) := by decide +kernel
theorem dX7_keep_6 : decode cX7_keep 6 = .ok (.iconst 0, 1) := by decide +kernel
theorem dX7_keep_7 : decode cX7_keep 7 = .ok (.iconst 1, 1) := by decide +kernel
theorem dX7_keep_8 : decode cX7_keep 8 = .ok (.invokestatic 51, 3) := by decide +kernel
theorem dX7_keep_11 : decode cX7_keep 11 = .ok (.ifCond .ne 5, 3) := by decide +kernel
theorem dX7_keep_14 : decode cX7_keep 14 = .ok (.iconst (-1), 1) := by decide +kernel
theorem dX7_keep_15 : decode cX7_keep 15 = .ok (.ireturn, 1) := by decide +kernel
theorem dX7_keep_16 : decode cX7_keep 16 = .ok (.iconst 0, 1) := by decide +kernel
theorem dX7_keep_17 : decode cX7_keep 17 = .ok (.istore_n 2, 1) := by decide +kernel
theorem dX7_keep_18 : decode cX7_keep 18 = .ok (.iload_n 2, 1) := by decide +kernel
theorem dX7_keep_19 : decode cX7_keep 19 = .ok (.bipush 27, 2) := by decide +kernel
theorem dX7_keep_21 : decode cX7_keep 21 = .ok (.if_icmp .ge 26, 3) := by decide +kernel
theorem dX7_keep_24 : decode cX7_keep 24 = .ok (.aload_n 0, 1) := by decide +kernel
theorem dX7_keep_25 : decode cX7_keep 25 = .ok (.getfield 22, 3) := by decide +kernel
theorem dX7_keep_28 : decode cX7_keep 28 = .ok (.bipush 27, 2) := by decide +kernel
theorem dX7_keep_30 : decode cX7_keep 30 = .ok (.iload_n 1, 1) := by decide +kernel
theorem dX7_keep_31 : decode cX7_keep 31 = .ok (.imul, 1) := by decide +kernel
theorem dX7_keep_32 : decode cX7_keep 32 = .ok (.iload_n 2, 1) := by decide +kernel
theorem dX7_keep_33 : decode cX7_keep 33 = .ok (.iadd, 1) := by decide +kernel
theorem dX7_keep_34 : decode cX7_keep 34 = .ok (.aload_n 0, 1) := by decide +kernel
theorem dX7_keep_35 : decode cX7_keep 35 = .ok (.getfield 19, 3) := by decide +kernel
theorem dX7_keep_38 : decode cX7_keep 38 = .ok (.iload_n 2, 1) := by decide +kernel
theorem dX7_keep_39 : decode cX7_keep 39 = .ok (.iaload, 1) := by decide +kernel
theorem dX7_keep_40 : decode cX7_keep 40 = .ok (.iastore, 1) := by decide +kernel
theorem dX7_keep_41 : decode cX7_keep 41 = .ok (.iinc 2 1, 3) := by decide +kernel
theorem dX7_keep_44 : decode cX7_keep 44 = .ok (.goto (-26), 3) := by decide +kernel
theorem dX7_keep_47 : decode cX7_keep 47 = .ok (.aload_n 0, 1) := by decide +kernel
theorem dX7_keep_48 : decode cX7_keep 48 = .ok (.getfield 25, 3) := by decide +kernel
theorem dX7_keep_51 : decode cX7_keep 51 = .ok (.iload_n 1, 1) := by decide +kernel
theorem dX7_keep_52 : decode cX7_keep 52 = .ok (.iconst 1, 1) := by decide +kernel
theorem dX7_keep_53 : decode cX7_keep 53 = .ok (.bastore, 1) := by decide +kernel
theorem dX7_keep_54 : decode cX7_keep 54 = .ok (.aload_n 0, 1) := by decide +kernel
theorem dX7_keep_55 : decode cX7_keep 55 = .ok (.getfield 19, 3) := by decide +kernel
theorem dX7_keep_58 : decode cX7_keep 58 = .ok (.iconst 0, 1) := by decide +kernel
theorem dX7_keep_59 : decode cX7_keep 59 = .ok (.iaload, 1) := by decide +kernel
theorem dX7_keep_60 : decode cX7_keep 60 = .ok (.ireturn, 1) := by decide +kernel
theorem dX7_back_0 : decode cX7_back 0 = .ok (.aload_n 0, 1) := by decide +kernel
theorem dX7_back_1 : decode cX7_back 1 = .ok (.iconst 0, 1) := by decide +kernel
theorem dX7_back_2 : decode cX7_back 2 = .ok (.putfield 47, 3) := by decide +kernel
theorem dX7_back_5 : decode cX7_back 5 = .ok (.iload_n 1, 1) := by decide +kernel
theorem dX7_back_6 : decode cX7_back 6 = .ok (.iconst 0, 1) := by decide +kernel
theorem dX7_back_7 : decode cX7_back 7 = .ok (.iconst 1, 1) := by decide +kernel
theorem dX7_back_8 : decode cX7_back 8 = .ok (.invokestatic 51, 3) := by decide +kernel
theorem dX7_back_11 : decode cX7_back 11 = .ok (.ifCond .ne 5, 3) := by decide +kernel
theorem dX7_back_14 : decode cX7_back 14 = .ok (.iconst (-1), 1) := by decide +kernel
theorem dX7_back_15 : decode cX7_back 15 = .ok (.ireturn, 1) := by decide +kernel
theorem dX7_back_16 : decode cX7_back 16 = .ok (.aload_n 0, 1) := by decide +kernel
theorem dX7_back_17 : decode cX7_back 17 = .ok (.getfield 25, 3) := by decide +kernel
theorem dX7_back_20 : decode cX7_back 20 = .ok (.iload_n 1, 1) := by decide +kernel
theorem dX7_back_21 : decode cX7_back 21 = .ok (.baload, 1) := by decide +kernel
theorem dX7_back_22 : decode cX7_back 22 = .ok (.ifCond .ne 6, 3) := by decide +kernel
theorem dX7_back_25 : decode cX7_back 25 = .ok (.bipush (-2), 2) := by decide +kernel
theorem dX7_back_27 : decode cX7_back 27 = .ok (.ireturn, 1) := by decide +kernel
theorem dX7_back_28 : decode cX7_back 28 = .ok (.iconst 0, 1) := by decide +kernel
theorem dX7_back_29 : decode cX7_back 29 = .ok (.istore_n 2, 1) := by decide +kernel
theorem dX7_back_30 : decode cX7_back 30 = .ok (.iload_n 2, 1) := by decide +kernel
theorem dX7_back_31 : decode cX7_back 31 = .ok (.bipush 27, 2) := by decide +kernel
theorem dX7_back_33 : decode cX7_back 33 = .ok (.if_icmp .ge 26, 3) := by decide +kernel
theorem dX7_back_36 : decode cX7_back 36 = .ok (.aload_n 0, 1) := by decide +kernel
theorem dX7_back_37 : decode cX7_back 37 = .ok (.getfield 19, 3) := by decide +kernel
theorem dX7_back_40 : decode cX7_back 40 = .ok (.iload_n 2, 1) := by decide +kernel
theorem dX7_back_41 : decode cX7_back 41 = .ok (.aload_n 0, 1) := by decide +kernel
theorem dX7_back_42 : decode cX7_back 42 = .ok (.getfield 22, 3) := by decide +kernel
theorem dX7_back_45 : decode cX7_back 45 = .ok (.bipush 27, 2) := by decide +kernel
theorem dX7_back_47 : decode cX7_back 47 = .ok (.iload_n 1, 1) := by decide +kernel
theorem dX7_back_48 : decode cX7_back 48 = .ok (.imul, 1) := by decide +kernel
theorem dX7_back_49 : decode cX7_back 49 = .ok (.iload_n 2, 1) := by decide +kernel
theorem dX7_back_50 : decode cX7_back 50 = .ok (.iadd, 1) := by decide +kernel
theorem dX7_back_51 : decode cX7_back 51 = .ok (.iaload, 1) := by decide +kernel
theorem dX7_back_52 : decode cX7_back 52 = .ok (.iastore, 1) := by decide +kernel
theorem dX7_back_53 : decode cX7_back 53 = .ok (.iinc 2 1, 3) := by decide +kernel
theorem dX7_back_56 : decode cX7_back 56 = .ok (.goto (-26), 3) := by decide +kernel
theorem dX7_back_59 : decode cX7_back 59 = .ok (.aload_n 0, 1) := by decide +kernel
theorem dX7_back_60 : decode cX7_back 60 = .ok (.getfield 19, 3) := by decide +kernel
theorem dX7_back_63 : decode cX7_back 63 = .ok (.iconst 0, 1) := by decide +kernel
theorem dX7_back_64 : decode cX7_back 64 = .ok (.iaload, 1) := by decide +kernel
theorem dX7_back_65 : decode cX7_back 65 = .ok (.ireturn, 1) := by decide +kernel
theorem dX7_count_0 : decode cX7_count 0 = .ok (.aload_n 0, 1) := by decide +kernel
theorem dX7_count_1 : decode cX7_count 1 = .ok (.iconst 0, 1) := by decide +kernel
theorem dX7_count_2 : decode cX7_count 2 = .ok (.putfield 47, 3) := by decide +kernel
theorem dX7_count_5 : decode cX7_count 5 = .ok (.iload_n 1, 1) := by decide +kernel
theorem dX7_count_6 : decode cX7_count 6 = .ok (.ifCond .ne 13, 3) := by decide +kernel
theorem dX7_count_9 : decode cX7_count 9 = .ok (.aload_n 0, 1) := by decide +kernel
theorem dX7_count_10 : decode cX7_count 10 = .ok (.getfield 13, 3) := by decide +kernel
theorem dX7_count_13 : decode cX7_count 13 = .ok (.bipush 40, 2) := by decide +kernel
theorem dX7_count_15 : decode cX7_count 15 = .ok (.iaload, 1) := by decide +kernel
theorem dX7_count_16 : decode cX7_count 16 = .ok (.goto 43, 3) := by decide +kernel
theorem dX7_count_19 : decode cX7_count 19 = .ok (.iload_n 1, 1) := by decide +kernel
theorem dX7_count_20 : decode cX7_count 20 = .ok (.iconst 1, 1) := by decide +kernel
theorem dX7_count_21 : decode cX7_count 21 = .ok (.if_icmp .ne 13, 3) := by decide +kernel
theorem dX7_count_24 : decode cX7_count 24 = .ok (.aload_n 0, 1) := by decide +kernel
theorem dX7_count_25 : decode cX7_count 25 = .ok (.getfield 13, 3) := by decide +kernel
theorem dX7_count_28 : decode cX7_count 28 = .ok (.bipush 41, 2) := by decide +kernel
theorem dX7_count_30 : decode cX7_count 30 = .ok (.iaload, 1) := by decide +kernel
theorem dX7_count_31 : decode cX7_count 31 = .ok (.goto 28, 3) := by decide +kernel
theorem dX7_count_34 : decode cX7_count 34 = .ok (.iload_n 1, 1) := by decide +kernel
theorem dX7_count_35 : decode cX7_count 35 = .ok (.iconst 2, 1) := by decide +kernel
theorem dX7_count_36 : decode cX7_count 36 = .ok (.if_icmp .ne 10, 3) := by decide +kernel
theorem dX7_count_39 : decode cX7_count 39 = .ok (.aload_n 0, 1) := by decide +kernel
theorem dX7_count_40 : decode cX7_count 40 = .ok (.getfield 184, 3) := by decide +kernel
theorem dX7_count_43 : decode cX7_count 43 = .ok (.goto 16, 3) := by decide +kernel
theorem dX7_count_46 : decode cX7_count 46 = .ok (.iload_n 1, 1) := by decide +kernel
theorem dX7_count_47 : decode cX7_count 47 = .ok (.iconst 3, 1) := by decide +kernel
theorem dX7_count_48 : decode cX7_count 48 = .ok (.if_icmp .ne 10, 3) := by decide +kernel
theorem dX7_count_51 : decode cX7_count 51 = .ok (.aload_n 0, 1) := by decide +kernel
theorem dX7_count_52 : decode cX7_count 52 = .ok (.getfield 55, 3) := by decide +kernel
theorem dX7_count_55 : decode cX7_count 55 = .ok (.goto 4, 3) := by decide +kernel
theorem dX7_count_58 : decode cX7_count 58 = .ok (.iconst (-1), 1) := by decide +kernel
theorem dX7_count_59 : decode cX7_count 59 = .ok (.ireturn, 1) := by decide +kernel
theorem dX7_trace_0 : decode cX7_trace 0 = .ok (.aload_n 0, 1) := by decide +kernel
theorem dX7_trace_1 : decode cX7_trace 1 = .ok (.iconst 0, 1) := by decide +kernel
theorem dX7_trace_2 : decode cX7_trace 2 = .ok (.putfield 47, 3) := by decide +kernel
theorem dX7_trace_5 : decode cX7_trace 5 = .ok (.aload_n 0, 1) := by decide +kernel
theorem dX7_trace_6 : decode cX7_trace 6 = .ok (.getfield 201, 3) := by decide +kernel
theorem dX7_trace_9 : decode cX7_trace 9 = .ok (.lreturn, 1) := by decide +kernel
theorem dL_law_0 : decode cL_law 0 = .ok (.new 7, 3) := by decide +kernel
theorem dL_law_3 : decode cL_law 3 = .ok (.dup, 1) := by decide +kernel
theorem dL_law_4 : decode cL_law 4 = .ok (.invokespecial 9, 3) := by decide +kernel
theorem dL_law_7 : decode cL_law 7 = .ok (.astore_n 1, 1) := by decide +kernel
theorem dL_law_8 : decode cL_law 8 = .ok (.new 10, 3) := by decide +kernel
theorem dL_law_11 : decode cL_law 11 = .ok (.dup, 1) := by decide +kernel
theorem dL_law_12 : decode cL_law 12 = .ok (.invokespecial 12, 3) := by decide +kernel
theorem dL_law_15 : decode cL_law 15 = .ok (.astore_n 2, 1) := by decide +kernel
theorem dL_law_16 : decode cL_law 16 = .ok (.iconst 0, 1) := by decide +kernel
theorem dL_law_17 : decode cL_law 17 = .ok (.istore_n 3, 1) := by decide +kernel
theorem dL_law_18 : decode cL_law 18 = .ok (.iload_n 3, 1) := by decide +kernel
theorem dL_law_19 : decode cL_law 19 = .ok (.aload_n 0, 1) := by decide +kernel
theorem dL_law_20 : decode cL_law 20 = .ok (.arraylength, 1) := by decide +kernel
theorem dL_law_21 : decode cL_law 21 = .ok (.iconst 4, 1) := by decide +kernel
theorem dL_law_22 : decode cL_law 22 = .ok (.isub, 1) := by decide +kernel
theorem dL_law_23 : decode cL_law 23 = .ok (.if_icmp .gt 1110, 3) := by decide +kernel
theorem dL_law_26 : decode cL_law 26 = .ok (.aload_n 0, 1) := by decide +kernel
theorem dL_law_27 : decode cL_law 27 = .ok (.iload_n 3, 1) := by decide +kernel
theorem dL_law_28 : decode cL_law 28 = .ok (.iaload, 1) := by decide +kernel
theorem dL_law_29 : decode cL_law 29 = .ok (.bipush 63, 2) := by decide +kernel
theorem dL_law_31 : decode cL_law 31 = .ok (.iand, 1) := by decide +kernel
theorem dL_law_32 : decode cL_law 32 = .ok (.tableswitch 1095 0 33 #[152, 215, 228, 241, 274, 307, 330, 363, 396, 439, 462, 485, 508, 521, 544, 567, 610, 653, 676, 689, 722, 765, 798, 821, 854, 887, 900, 933, 956, 979, 1012, 1035, 1058, 1081], 152) := by decide +kernel
theorem dL_law_184 : decode cL_law 184 = .ok (.aload_n 1, 1) := by decide +kernel
theorem dL_law_185 : decode cL_law 185 = .ok (.aload_n 0, 1) := by decide +kernel
theorem dL_law_186 : decode cL_law 186 = .ok (.iload_n 3, 1) := by decide +kernel
theorem dL_law_187 : decode cL_law 187 = .ok (.iconst 1, 1) := by decide +kernel
theorem dL_law_188 : decode cL_law 188 = .ok (.iadd, 1) := by decide +kernel
theorem dL_law_189 : decode cL_law 189 = .ok (.iaload, 1) := by decide +kernel
theorem dL_law_190 : decode cL_law 190 = .ok (.i2l, 1) := by decide +kernel
theorem dL_law_191 : decode cL_law 191 = .ok (.bipush 32, 2) := by decide +kernel
theorem dL_law_193 : decode cL_law 193 = .ok (.lshl, 1) := by decide +kernel
theorem dL_law_194 : decode cL_law 194 = .ok (.aload_n 0, 1) := by decide +kernel
theorem dL_law_195 : decode cL_law 195 = .ok (.iload_n 3, 1) := by decide +kernel
theorem dL_law_196 : decode cL_law 196 = .ok (.iconst 2, 1) := by decide +kernel
theorem dL_law_197 : decode cL_law 197 = .ok (.iadd, 1) := by decide +kernel
theorem dL_law_198 : decode cL_law 198 = .ok (.iaload, 1) := by decide +kernel
theorem dL_law_199 : decode cL_law 199 = .ok (.i2l, 1) := by decide +kernel
theorem dL_law_200 : decode cL_law 200 = .ok (.ldc2_w 13, 3) := by decide +kernel
theorem dL_law_203 : decode cL_law 203 = .ok (.land, 1) := by decide +kernel
theorem dL_law_204 : decode cL_law 204 = .ok (.lor, 1) := by decide +kernel
theorem dL_law_205 : decode cL_law 205 = .ok (.aload_n 0, 1) := by decide +kernel
theorem dL_law_206 : decode cL_law 206 = .ok (.iload_n 3, 1) := by decide +kernel
theorem dL_law_207 : decode cL_law 207 = .ok (.iconst 3, 1) := by decide +kernel
theorem dL_law_208 : decode cL_law 208 = .ok (.iadd, 1) := by decide +kernel
theorem dL_law_209 : decode cL_law 209 = .ok (.iaload, 1) := by decide +kernel
theorem dL_law_210 : decode cL_law 210 = .ok (.invokevirtual 15, 3) := by decide +kernel
theorem dL_law_213 : decode cL_law 213 = .ok (.aload_n 2, 1) := by decide +kernel
theorem dL_law_214 : decode cL_law 214 = .ok (.aload_n 0, 1) := by decide +kernel
theorem dL_law_215 : decode cL_law 215 = .ok (.iload_n 3, 1) := by decide +kernel
theorem dL_law_216 : decode cL_law 216 = .ok (.iconst 1, 1) := by decide +kernel
theorem dL_law_217 : decode cL_law 217 = .ok (.iadd, 1) := by decide +kernel
theorem dL_law_218 : decode cL_law 218 = .ok (.iaload, 1) := by decide +kernel
theorem dL_law_219 : decode cL_law 219 = .ok (.i2l, 1) := by decide +kernel
theorem dL_law_220 : decode cL_law 220 = .ok (.bipush 32, 2) := by decide +kernel
theorem dL_law_222 : decode cL_law 222 = .ok (.lshl, 1) := by decide +kernel
theorem dL_law_223 : decode cL_law 223 = .ok (.aload_n 0, 1) := by decide +kernel
theorem dL_law_224 : decode cL_law 224 = .ok (.iload_n 3, 1) := by decide +kernel
theorem dL_law_225 : decode cL_law 225 = .ok (.iconst 2, 1) := by decide +kernel
theorem dL_law_226 : decode cL_law 226 = .ok (.iadd, 1) := by decide +kernel
theorem dL_law_227 : decode cL_law 227 = .ok (.iaload, 1) := by decide +kernel
theorem dL_law_228 : decode cL_law 228 = .ok (.i2l, 1) := by decide +kernel
theorem dL_law_229 : decode cL_law 229 = .ok (.ldc2_w 13, 3) := by decide +kernel
theorem dL_law_232 : decode cL_law 232 = .ok (.land, 1) := by decide +kernel
theorem dL_law_233 : decode cL_law 233 = .ok (.lor, 1) := by decide +kernel
theorem dL_law_234 : decode cL_law 234 = .ok (.aload_n 0, 1) := by decide +kernel
theorem dL_law_235 : decode cL_law 235 = .ok (.iload_n 3, 1) := by decide +kernel
theorem dL_law_236 : decode cL_law 236 = .ok (.iconst 3, 1) := by decide +kernel
theorem dL_law_237 : decode cL_law 237 = .ok (.iadd, 1) := by decide +kernel
theorem dL_law_238 : decode cL_law 238 = .ok (.iaload, 1) := by decide +kernel
theorem dL_law_239 : decode cL_law 239 = .ok (.invokevirtual 19, 3) := by decide +kernel
theorem dL_law_242 : decode cL_law 242 = .ok (.if_icmp .eq 885, 3) := by decide +kernel
theorem dL_law_245 : decode cL_law 245 = .ok (.iconst 0, 1) := by decide +kernel
theorem dL_law_246 : decode cL_law 246 = .ok (.ireturn, 1) := by decide +kernel
theorem dL_law_247 : decode cL_law 247 = .ok (.aload_n 1, 1) := by decide +kernel
theorem dL_law_248 : decode cL_law 248 = .ok (.invokevirtual 20, 3) := by decide +kernel
theorem dL_law_251 : decode cL_law 251 = .ok (.aload_n 2, 1) := by decide +kernel
theorem dL_law_252 : decode cL_law 252 = .ok (.invokevirtual 24, 3) := by decide +kernel
theorem dL_law_255 : decode cL_law 255 = .ok (.if_icmp .eq 872, 3) := by decide +kernel
theorem dL_law_258 : decode cL_law 258 = .ok (.iconst 0, 1) := by decide +kernel
theorem dL_law_259 : decode cL_law 259 = .ok (.ireturn, 1) := by decide +kernel
theorem dL_law_260 : decode cL_law 260 = .ok (.aload_n 1, 1) := by decide +kernel
theorem dL_law_261 : decode cL_law 261 = .ok (.invokevirtual 25, 3) := by decide +kernel
theorem dL_law_264 : decode cL_law 264 = .ok (.aload_n 2, 1) := by decide +kernel
theorem dL_law_265 : decode cL_law 265 = .ok (.invokevirtual 28, 3) := by decide +kernel
theorem dL_law_268 : decode cL_law 268 = .ok (.if_icmp .eq 859, 3) := by decide +kernel
theorem dL_law_271 : decode cL_law 271 = .ok (.iconst 0, 1) := by decide +kernel
theorem dL_law_272 : decode cL_law 272 = .ok (.ireturn, 1) := by decide +kernel
theorem dL_law_273 : decode cL_law 273 = .ok (.aload_n 1, 1) := by decide +kernel
theorem dL_law_274 : decode cL_law 274 = .ok (.aload_n 0, 1) := by decide +kernel
theorem dL_law_275 : decode cL_law 275 = .ok (.iload_n 3, 1) := by decide +kernel
theorem dL_law_276 : decode cL_law 276 = .ok (.iconst 1, 1) := by decide +kernel
theorem dL_law_277 : decode cL_law 277 = .ok (.iadd, 1) := by decide +kernel
theorem dL_law_278 : decode cL_law 278 = .ok (.iaload, 1) := by decide +kernel
theorem dL_law_279 : decode cL_law 279 = .ok (.aload_n 0, 1) := by decide +kernel
theorem dL_law_280 : decode cL_law 280 = .ok (.iload_n 3, 1) := by decide +kernel
theorem dL_law_281 : decode cL_law 281 = .ok (.iconst 2, 1) := by decide +kernel
theorem dL_law_282 : decode cL_law 282 = .ok (.iadd, 1) := by decide +kernel
theorem dL_law_283 : decode cL_law 283 = .ok (.iaload, 1) := by decide +kernel
theorem dL_law_284 : decode cL_law 284 = .ok (.invokevirtual 29, 3) := by decide +kernel
theorem dL_law_287 : decode cL_law 287 = .ok (.aload_n 2, 1) := by decide +kernel
theorem dL_law_288 : decode cL_law 288 = .ok (.aload_n 0, 1) := by decide +kernel
theorem dL_law_289 : decode cL_law 289 = .ok (.iload_n 3, 1) := by decide +kernel
theorem dL_law_290 : decode cL_law 290 = .ok (.iconst 1, 1) := by decide +kernel
theorem dL_law_291 : decode cL_law 291 = .ok (.iadd, 1) := by decide +kernel
theorem dL_law_292 : decode cL_law 292 = .ok (.iaload, 1) := by decide +kernel
theorem dL_law_293 : decode cL_law 293 = .ok (.aload_n 0, 1) := by decide +kernel
theorem dL_law_294 : decode cL_law 294 = .ok (.iload_n 3, 1) := by decide +kernel
theorem dL_law_295 : decode cL_law 295 = .ok (.iconst 2, 1) := by decide +kernel
theorem dL_law_296 : decode cL_law 296 = .ok (.iadd, 1) := by decide +kernel
theorem dL_law_297 : decode cL_law 297 = .ok (.iaload, 1) := by decide +kernel
theorem dL_law_298 : decode cL_law 298 = .ok (.invokevirtual 33, 3) := by decide +kernel
theorem dL_law_301 : decode cL_law 301 = .ok (.if_icmp .eq 826, 3) := by decide +kernel
theorem dL_law_304 : decode cL_law 304 = .ok (.iconst 0, 1) := by decide +kernel
theorem dL_law_305 : decode cL_law 305 = .ok (.ireturn, 1) := by decide +kernel
theorem dL_law_306 : decode cL_law 306 = .ok (.aload_n 1, 1) := by decide +kernel
theorem dL_law_307 : decode cL_law 307 = .ok (.aload_n 0, 1) := by decide +kernel
theorem dL_law_308 : decode cL_law 308 = .ok (.iload_n 3, 1) := by decide +kernel
theorem dL_law_309 : decode cL_law 309 = .ok (.iconst 1, 1) := by decide +kernel
theorem dL_law_310 : decode cL_law 310 = .ok (.iadd, 1) := by decide +kernel
theorem dL_law_311 : decode cL_law 311 = .ok (.iaload, 1) := by decide +kernel
theorem dL_law_312 : decode cL_law 312 = .ok (.aload_n 0, 1) := by decide +kernel
theorem dL_law_313 : decode cL_law 313 = .ok (.iload_n 3, 1) := by decide +kernel
theorem dL_law_314 : decode cL_law 314 = .ok (.iconst 2, 1) := by decide +kernel
theorem dL_law_315 : decode cL_law 315 = .ok (.iadd, 1) := by decide +kernel
theorem dL_law_316 : decode cL_law 316 = .ok (.iaload, 1) := by decide +kernel
theorem dL_law_317 : decode cL_law 317 = .ok (.invokevirtual 34, 3) := by decide +kernel
theorem dL_law_320 : decode cL_law 320 = .ok (.aload_n 2, 1) := by decide +kernel
theorem dL_law_321 : decode cL_law 321 = .ok (.aload_n 0, 1) := by decide +kernel
theorem dL_law_322 : decode cL_law 322 = .ok (.iload_n 3, 1) := by decide +kernel
theorem dL_law_323 : decode cL_law 323 = .ok (.iconst 1, 1) := by decide +kernel
theorem dL_law_324 : decode cL_law 324 = .ok (.iadd, 1) := by decide +kernel
theorem dL_law_325 : decode cL_law 325 = .ok (.iaload, 1) := by decide +kernel
theorem dL_law_326 : decode cL_law 326 = .ok (.aload_n 0, 1) := by decide +kernel
theorem dL_law_327 : decode cL_law 327 = .ok (.iload_n 3, 1) := by decide +kernel
theorem dL_law_328 : decode cL_law 328 = .ok (.iconst 2, 1) := by decide +kernel
theorem dL_law_329 : decode cL_law 329 = .ok (.iadd, 1) := by decide +kernel
theorem dL_law_330 : decode cL_law 330 = .ok (.iaload, 1) := by decide +kernel
theorem dL_law_331 : decode cL_law 331 = .ok (.invokevirtual 37, 3) := by decide +kernel
theorem dL_law_334 : decode cL_law 334 = .ok (.if_icmp .eq 793, 3) := by decide +kernel
theorem dL_law_337 : decode cL_law 337 = .ok (.iconst 0, 1) := by decide +kernel
theorem dL_law_338 : decode cL_law 338 = .ok (.ireturn, 1) := by decide +kernel
theorem dL_law_339 : decode cL_law 339 = .ok (.aload_n 1, 1) := by decide +kernel
theorem dL_law_340 : decode cL_law 340 = .ok (.aload_n 0, 1) := by decide +kernel
theorem dL_law_341 : decode cL_law 341 = .ok (.iload_n 3, 1) := by decide +kernel
theorem dL_law_342 : decode cL_law 342 = .ok (.iconst 1, 1) := by decide +kernel
theorem dL_law_343 : decode cL_law 343 = .ok (.iadd, 1) := by decide +kernel
theorem dL_law_344 : decode cL_law 344 = .ok (.iaload, 1) := by decide +kernel
theorem dL_law_345 : decode cL_law 345 = .ok (.invokevirtual 38, 3) := by decide +kernel
theorem dL_law_348 : decode cL_law 348 = .ok (.aload_n 2, 1) := by decide +kernel
theorem dL_law_349 : decode cL_law 349 = .ok (.aload_n 0, 1) := by decide +kernel
theorem dL_law_350 : decode cL_law 350 = .ok (.iload_n 3, 1) := by decide +kernel
theorem dL_law_351 : decode cL_law 351 = .ok (.iconst 1, 1) := by decide +kernel
theorem dL_law_352 : decode cL_law 352 = .ok (.iadd, 1) := by decide +kernel
theorem dL_law_353 : decode cL_law 353 = .ok (.iaload, 1) := by decide +kernel
theorem dL_law_354 : decode cL_law 354 = .ok (.invokevirtual 42, 3) := by decide +kernel
theorem dL_law_357 : decode cL_law 357 = .ok (.if_icmp .eq 770, 3) := by decide +kernel
theorem dL_law_360 : decode cL_law 360 = .ok (.iconst 0, 1) := by decide +kernel
theorem dL_law_361 : decode cL_law 361 = .ok (.ireturn, 1) := by decide +kernel
theorem dL_law_362 : decode cL_law 362 = .ok (.aload_n 1, 1) := by decide +kernel
theorem dL_law_363 : decode cL_law 363 = .ok (.aload_n 0, 1) := by decide +kernel
theorem dL_law_364 : decode cL_law 364 = .ok (.iload_n 3, 1) := by decide +kernel
theorem dL_law_365 : decode cL_law 365 = .ok (.iconst 1, 1) := by decide +kernel
theorem dL_law_366 : decode cL_law 366 = .ok (.iadd, 1) := by decide +kernel
theorem dL_law_367 : decode cL_law 367 = .ok (.iaload, 1) := by decide +kernel
theorem dL_law_368 : decode cL_law 368 = .ok (.aload_n 0, 1) := by decide +kernel
theorem dL_law_369 : decode cL_law 369 = .ok (.iload_n 3, 1) := by decide +kernel
theorem dL_law_370 : decode cL_law 370 = .ok (.iconst 2, 1) := by decide +kernel
theorem dL_law_371 : decode cL_law 371 = .ok (.iadd, 1) := by decide +kernel
theorem dL_law_372 : decode cL_law 372 = .ok (.iaload, 1) := by decide +kernel
theorem dL_law_373 : decode cL_law 373 = .ok (.invokevirtual 43, 3) := by decide +kernel
theorem dL_law_376 : decode cL_law 376 = .ok (.aload_n 2, 1) := by decide +kernel
theorem dL_law_377 : decode cL_law 377 = .ok (.aload_n 0, 1) := by decide +kernel
theorem dL_law_378 : decode cL_law 378 = .ok (.iload_n 3, 1) := by decide +kernel
theorem dL_law_379 : decode cL_law 379 = .ok (.iconst 1, 1) := by decide +kernel
theorem dL_law_380 : decode cL_law 380 = .ok (.iadd, 1) := by decide +kernel
theorem dL_law_381 : decode cL_law 381 = .ok (.iaload, 1) := by decide +kernel
theorem dL_law_382 : decode cL_law 382 = .ok (.aload_n 0, 1) := by decide +kernel
theorem dL_law_383 : decode cL_law 383 = .ok (.iload_n 3, 1) := by decide +kernel
theorem dL_law_384 : decode cL_law 384 = .ok (.iconst 2, 1) := by decide +kernel
theorem dL_law_385 : decode cL_law 385 = .ok (.iadd, 1) := by decide +kernel
theorem dL_law_386 : decode cL_law 386 = .ok (.iaload, 1) := by decide +kernel
theorem dL_law_387 : decode cL_law 387 = .ok (.invokevirtual 46, 3) := by decide +kernel
theorem dL_law_390 : decode cL_law 390 = .ok (.if_icmp .eq 737, 3) := by decide +kernel
theorem dL_law_393 : decode cL_law 393 = .ok (.iconst 0, 1) := by decide +kernel
theorem dL_law_394 : decode cL_law 394 = .ok (.ireturn, 1) := by decide +kernel
theorem dL_law_395 : decode cL_law 395 = .ok (.aload_n 1, 1) := by decide +kernel
theorem dL_law_396 : decode cL_law 396 = .ok (.aload_n 0, 1) := by decide +kernel
theorem dL_law_397 : decode cL_law 397 = .ok (.iload_n 3, 1) := by decide +kernel
theorem dL_law_398 : decode cL_law 398 = .ok (.iconst 1, 1) := by decide +kernel
theorem dL_law_399 : decode cL_law 399 = .ok (.iadd, 1) := by decide +kernel
theorem dL_law_400 : decode cL_law 400 = .ok (.iaload, 1) := by decide +kernel
theorem dL_law_401 : decode cL_law 401 = .ok (.aload_n 0, 1) := by decide +kernel
theorem dL_law_402 : decode cL_law 402 = .ok (.iload_n 3, 1) := by decide +kernel
theorem dL_law_403 : decode cL_law 403 = .ok (.iconst 2, 1) := by decide +kernel
theorem dL_law_404 : decode cL_law 404 = .ok (.iadd, 1) := by decide +kernel
theorem dL_law_405 : decode cL_law 405 = .ok (.iaload, 1) := by decide +kernel
theorem dL_law_406 : decode cL_law 406 = .ok (.invokevirtual 47, 3) := by decide +kernel
theorem dL_law_409 : decode cL_law 409 = .ok (.aload_n 2, 1) := by decide +kernel
theorem dL_law_410 : decode cL_law 410 = .ok (.aload_n 0, 1) := by decide +kernel
theorem dL_law_411 : decode cL_law 411 = .ok (.iload_n 3, 1) := by decide +kernel
theorem dL_law_412 : decode cL_law 412 = .ok (.iconst 1, 1) := by decide +kernel
theorem dL_law_413 : decode cL_law 413 = .ok (.iadd, 1) := by decide +kernel
theorem dL_law_414 : decode cL_law 414 = .ok (.iaload, 1) := by decide +kernel
theorem dL_law_415 : decode cL_law 415 = .ok (.aload_n 0, 1) := by decide +kernel
theorem dL_law_416 : decode cL_law 416 = .ok (.iload_n 3, 1) := by decide +kernel
theorem dL_law_417 : decode cL_law 417 = .ok (.iconst 2, 1) := by decide +kernel
theorem dL_law_418 : decode cL_law 418 = .ok (.iadd, 1) := by decide +kernel
theorem dL_law_419 : decode cL_law 419 = .ok (.iaload, 1) := by decide +kernel
theorem dL_law_420 : decode cL_law 420 = .ok (.invokevirtual 50, 3) := by decide +kernel
theorem dL_law_423 : decode cL_law 423 = .ok (.if_icmp .eq 704, 3) := by decide +kernel
theorem dL_law_426 : decode cL_law 426 = .ok (.iconst 0, 1) := by decide +kernel
theorem dL_law_427 : decode cL_law 427 = .ok (.ireturn, 1) := by decide +kernel
theorem dL_law_428 : decode cL_law 428 = .ok (.aload_n 1, 1) := by decide +kernel
theorem dL_law_429 : decode cL_law 429 = .ok (.aload_n 0, 1) := by decide +kernel
theorem dL_law_430 : decode cL_law 430 = .ok (.iload_n 3, 1) := by decide +kernel
theorem dL_law_431 : decode cL_law 431 = .ok (.iconst 1, 1) := by decide +kernel
theorem dL_law_432 : decode cL_law 432 = .ok (.iadd, 1) := by decide +kernel
theorem dL_law_433 : decode cL_law 433 = .ok (.iaload, 1) := by decide +kernel
theorem dL_law_434 : decode cL_law 434 = .ok (.aload_n 0, 1) := by decide +kernel
theorem dL_law_435 : decode cL_law 435 = .ok (.iload_n 3, 1) := by decide +kernel
theorem dL_law_436 : decode cL_law 436 = .ok (.iconst 2, 1) := by decide +kernel
theorem dL_law_437 : decode cL_law 437 = .ok (.iadd, 1) := by decide +kernel
theorem dL_law_438 : decode cL_law 438 = .ok (.iaload, 1) := by decide +kernel
theorem dL_law_439 : decode cL_law 439 = .ok (.aload_n 0, 1) := by decide +kernel
theorem dL_law_440 : decode cL_law 440 = .ok (.iload_n 3, 1) := by decide +kernel
theorem dL_law_441 : decode cL_law 441 = .ok (.iconst 3, 1) := by decide +kernel
theorem dL_law_442 : decode cL_law 442 = .ok (.iadd, 1) := by decide +kernel
theorem dL_law_443 : decode cL_law 443 = .ok (.iaload, 1) := by decide +kernel
theorem dL_law_444 : decode cL_law 444 = .ok (.invokevirtual 51, 3) := by decide +kernel
theorem dL_law_447 : decode cL_law 447 = .ok (.aload_n 2, 1) := by decide +kernel
theorem dL_law_448 : decode cL_law 448 = .ok (.aload_n 0, 1) := by decide +kernel
theorem dL_law_449 : decode cL_law 449 = .ok (.iload_n 3, 1) := by decide +kernel
theorem dL_law_450 : decode cL_law 450 = .ok (.iconst 1, 1) := by decide +kernel
theorem dL_law_451 : decode cL_law 451 = .ok (.iadd, 1) := by decide +kernel
theorem dL_law_452 : decode cL_law 452 = .ok (.iaload, 1) := by decide +kernel
theorem dL_law_453 : decode cL_law 453 = .ok (.aload_n 0, 1) := by decide +kernel
theorem dL_law_454 : decode cL_law 454 = .ok (.iload_n 3, 1) := by decide +kernel
theorem dL_law_455 : decode cL_law 455 = .ok (.iconst 2, 1) := by decide +kernel
theorem dL_law_456 : decode cL_law 456 = .ok (.iadd, 1) := by decide +kernel
theorem dL_law_457 : decode cL_law 457 = .ok (.iaload, 1) := by decide +kernel
theorem dL_law_458 : decode cL_law 458 = .ok (.aload_n 0, 1) := by decide +kernel
theorem dL_law_459 : decode cL_law 459 = .ok (.iload_n 3, 1) := by decide +kernel
theorem dL_law_460 : decode cL_law 460 = .ok (.iconst 3, 1) := by decide +kernel
theorem dL_law_461 : decode cL_law 461 = .ok (.iadd, 1) := by decide +kernel
theorem dL_law_462 : decode cL_law 462 = .ok (.iaload, 1) := by decide +kernel
theorem dL_law_463 : decode cL_law 463 = .ok (.invokevirtual 55, 3) := by decide +kernel
theorem dL_law_466 : decode cL_law 466 = .ok (.if_icmp .eq 661, 3) := by decide +kernel
theorem dL_law_469 : decode cL_law 469 = .ok (.iconst 0, 1) := by decide +kernel
theorem dL_law_470 : decode cL_law 470 = .ok (.ireturn, 1) := by decide +kernel
theorem dL_law_471 : decode cL_law 471 = .ok (.aload_n 1, 1) := by decide +kernel
theorem dL_law_472 : decode cL_law 472 = .ok (.aload_n 0, 1) := by decide +kernel
theorem dL_law_473 : decode cL_law 473 = .ok (.iload_n 3, 1) := by decide +kernel
theorem dL_law_474 : decode cL_law 474 = .ok (.iconst 1, 1) := by decide +kernel
theorem dL_law_475 : decode cL_law 475 = .ok (.iadd, 1) := by decide +kernel
theorem dL_law_476 : decode cL_law 476 = .ok (.iaload, 1) := by decide +kernel
theorem dL_law_477 : decode cL_law 477 = .ok (.invokevirtual 56, 3) := by decide +kernel
theorem dL_law_480 : decode cL_law 480 = .ok (.aload_n 2, 1) := by decide +kernel
theorem dL_law_481 : decode cL_law 481 = .ok (.aload_n 0, 1) := by decide +kernel
theorem dL_law_482 : decode cL_law 482 = .ok (.iload_n 3, 1) := by decide +kernel
theorem dL_law_483 : decode cL_law 483 = .ok (.iconst 1, 1) := by decide +kernel
theorem dL_law_484 : decode cL_law 484 = .ok (.iadd, 1) := by decide +kernel
theorem dL_law_485 : decode cL_law 485 = .ok (.iaload, 1) := by decide +kernel
theorem dL_law_486 : decode cL_law 486 = .ok (.invokevirtual 59, 3) := by decide +kernel
theorem dL_law_489 : decode cL_law 489 = .ok (.if_icmp .eq 638, 3) := by decide +kernel
theorem dL_law_492 : decode cL_law 492 = .ok (.iconst 0, 1) := by decide +kernel
theorem dL_law_493 : decode cL_law 493 = .ok (.ireturn, 1) := by decide +kernel
theorem dL_law_494 : decode cL_law 494 = .ok (.aload_n 1, 1) := by decide +kernel
theorem dL_law_495 : decode cL_law 495 = .ok (.aload_n 0, 1) := by decide +kernel
theorem dL_law_496 : decode cL_law 496 = .ok (.iload_n 3, 1) := by decide +kernel
theorem dL_law_497 : decode cL_law 497 = .ok (.iconst 1, 1) := by decide +kernel
theorem dL_law_498 : decode cL_law 498 = .ok (.iadd, 1) := by decide +kernel
theorem dL_law_499 : decode cL_law 499 = .ok (.iaload, 1) := by decide +kernel
theorem dL_law_500 : decode cL_law 500 = .ok (.invokevirtual 60, 3) := by decide +kernel
theorem dL_law_503 : decode cL_law 503 = .ok (.aload_n 2, 1) := by decide +kernel
theorem dL_law_504 : decode cL_law 504 = .ok (.aload_n 0, 1) := by decide +kernel
theorem dL_law_505 : decode cL_law 505 = .ok (.iload_n 3, 1) := by decide +kernel
theorem dL_law_506 : decode cL_law 506 = .ok (.iconst 1, 1) := by decide +kernel
theorem dL_law_507 : decode cL_law 507 = .ok (.iadd, 1) := by decide +kernel
theorem dL_law_508 : decode cL_law 508 = .ok (.iaload, 1) := by decide +kernel
theorem dL_law_509 : decode cL_law 509 = .ok (.invokevirtual 63, 3) := by decide +kernel
theorem dL_law_512 : decode cL_law 512 = .ok (.if_icmp .eq 615, 3) := by decide +kernel
theorem dL_law_515 : decode cL_law 515 = .ok (.iconst 0, 1) := by decide +kernel
theorem dL_law_516 : decode cL_law 516 = .ok (.ireturn, 1) := by decide +kernel
theorem dL_law_517 : decode cL_law 517 = .ok (.aload_n 1, 1) := by decide +kernel
theorem dL_law_518 : decode cL_law 518 = .ok (.aload_n 0, 1) := by decide +kernel
theorem dL_law_519 : decode cL_law 519 = .ok (.iload_n 3, 1) := by decide +kernel
theorem dL_law_520 : decode cL_law 520 = .ok (.iconst 1, 1) := by decide +kernel
theorem dL_law_521 : decode cL_law 521 = .ok (.iadd, 1) := by decide +kernel
theorem dL_law_522 : decode cL_law 522 = .ok (.iaload, 1) := by decide +kernel
theorem dL_law_523 : decode cL_law 523 = .ok (.invokevirtual 64, 3) := by decide +kernel
theorem dL_law_526 : decode cL_law 526 = .ok (.aload_n 2, 1) := by decide +kernel
theorem dL_law_527 : decode cL_law 527 = .ok (.aload_n 0, 1) := by decide +kernel
theorem dL_law_528 : decode cL_law 528 = .ok (.iload_n 3, 1) := by decide +kernel
theorem dL_law_529 : decode cL_law 529 = .ok (.iconst 1, 1) := by decide +kernel
theorem dL_law_530 : decode cL_law 530 = .ok (.iadd, 1) := by decide +kernel
theorem dL_law_531 : decode cL_law 531 = .ok (.iaload, 1) := by decide +kernel
theorem dL_law_532 : decode cL_law 532 = .ok (.invokevirtual 67, 3) := by decide +kernel
theorem dL_law_535 : decode cL_law 535 = .ok (.if_icmp .eq 592, 3) := by decide +kernel
theorem dL_law_538 : decode cL_law 538 = .ok (.iconst 0, 1) := by decide +kernel
theorem dL_law_539 : decode cL_law 539 = .ok (.ireturn, 1) := by decide +kernel
theorem dL_law_540 : decode cL_law 540 = .ok (.aload_n 1, 1) := by decide +kernel
theorem dL_law_541 : decode cL_law 541 = .ok (.invokevirtual 68, 3) := by decide +kernel
theorem dL_law_544 : decode cL_law 544 = .ok (.aload_n 2, 1) := by decide +kernel
theorem dL_law_545 : decode cL_law 545 = .ok (.invokevirtual 71, 3) := by decide +kernel
theorem dL_law_548 : decode cL_law 548 = .ok (.if_icmp .eq 579, 3) := by decide +kernel
theorem dL_law_551 : decode cL_law 551 = .ok (.iconst 0, 1) := by decide +kernel
theorem dL_law_552 : decode cL_law 552 = .ok (.ireturn, 1) := by decide +kernel
theorem dL_law_553 : decode cL_law 553 = .ok (.aload_n 1, 1) := by decide +kernel
theorem dL_law_554 : decode cL_law 554 = .ok (.aload_n 0, 1) := by decide +kernel
theorem dL_law_555 : decode cL_law 555 = .ok (.iload_n 3, 1) := by decide +kernel
theorem dL_law_556 : decode cL_law 556 = .ok (.iconst 1, 1) := by decide +kernel
theorem dL_law_557 : decode cL_law 557 = .ok (.iadd, 1) := by decide +kernel
theorem dL_law_558 : decode cL_law 558 = .ok (.iaload, 1) := by decide +kernel
theorem dL_law_559 : decode cL_law 559 = .ok (.invokevirtual 72, 3) := by decide +kernel
theorem dL_law_562 : decode cL_law 562 = .ok (.aload_n 2, 1) := by decide +kernel
theorem dL_law_563 : decode cL_law 563 = .ok (.aload_n 0, 1) := by decide +kernel
theorem dL_law_564 : decode cL_law 564 = .ok (.iload_n 3, 1) := by decide +kernel
theorem dL_law_565 : decode cL_law 565 = .ok (.iconst 1, 1) := by decide +kernel
theorem dL_law_566 : decode cL_law 566 = .ok (.iadd, 1) := by decide +kernel
theorem dL_law_567 : decode cL_law 567 = .ok (.iaload, 1) := by decide +kernel
theorem dL_law_568 : decode cL_law 568 = .ok (.invokevirtual 75, 3) := by decide +kernel
theorem dL_law_571 : decode cL_law 571 = .ok (.if_icmp .eq 556, 3) := by decide +kernel
theorem dL_law_574 : decode cL_law 574 = .ok (.iconst 0, 1) := by decide +kernel
theorem dL_law_575 : decode cL_law 575 = .ok (.ireturn, 1) := by decide +kernel
theorem dL_law_576 : decode cL_law 576 = .ok (.aload_n 1, 1) := by decide +kernel
theorem dL_law_577 : decode cL_law 577 = .ok (.aload_n 0, 1) := by decide +kernel
theorem dL_law_578 : decode cL_law 578 = .ok (.iload_n 3, 1) := by decide +kernel
theorem dL_law_579 : decode cL_law 579 = .ok (.iconst 1, 1) := by decide +kernel
theorem dL_law_580 : decode cL_law 580 = .ok (.iadd, 1) := by decide +kernel
theorem dL_law_581 : decode cL_law 581 = .ok (.iaload, 1) := by decide +kernel
theorem dL_law_582 : decode cL_law 582 = .ok (.invokevirtual 76, 3) := by decide +kernel
theorem dL_law_585 : decode cL_law 585 = .ok (.aload_n 2, 1) := by decide +kernel
theorem dL_law_586 : decode cL_law 586 = .ok (.aload_n 0, 1) := by decide +kernel
theorem dL_law_587 : decode cL_law 587 = .ok (.iload_n 3, 1) := by decide +kernel
theorem dL_law_588 : decode cL_law 588 = .ok (.iconst 1, 1) := by decide +kernel
theorem dL_law_589 : decode cL_law 589 = .ok (.iadd, 1) := by decide +kernel
theorem dL_law_590 : decode cL_law 590 = .ok (.iaload, 1) := by decide +kernel
theorem dL_law_591 : decode cL_law 591 = .ok (.invokevirtual 79, 3) := by decide +kernel
theorem dL_law_594 : decode cL_law 594 = .ok (.if_icmp .eq 533, 3) := by decide +kernel
theorem dL_law_597 : decode cL_law 597 = .ok (.iconst 0, 1) := by decide +kernel
theorem dL_law_598 : decode cL_law 598 = .ok (.ireturn, 1) := by decide +kernel
theorem dL_law_599 : decode cL_law 599 = .ok (.aload_n 1, 1) := by decide +kernel
theorem dL_law_600 : decode cL_law 600 = .ok (.aload_n 0, 1) := by decide +kernel
theorem dL_law_601 : decode cL_law 601 = .ok (.iload_n 3, 1) := by decide +kernel
theorem dL_law_602 : decode cL_law 602 = .ok (.iconst 1, 1) := by decide +kernel
theorem dL_law_603 : decode cL_law 603 = .ok (.iadd, 1) := by decide +kernel
theorem dL_law_604 : decode cL_law 604 = .ok (.iaload, 1) := by decide +kernel
theorem dL_law_605 : decode cL_law 605 = .ok (.aload_n 0, 1) := by decide +kernel
theorem dL_law_606 : decode cL_law 606 = .ok (.iload_n 3, 1) := by decide +kernel
theorem dL_law_607 : decode cL_law 607 = .ok (.iconst 2, 1) := by decide +kernel
theorem dL_law_608 : decode cL_law 608 = .ok (.iadd, 1) := by decide +kernel
theorem dL_law_609 : decode cL_law 609 = .ok (.iaload, 1) := by decide +kernel
theorem dL_law_610 : decode cL_law 610 = .ok (.aload_n 0, 1) := by decide +kernel
theorem dL_law_611 : decode cL_law 611 = .ok (.iload_n 3, 1) := by decide +kernel
theorem dL_law_612 : decode cL_law 612 = .ok (.iconst 3, 1) := by decide +kernel
theorem dL_law_613 : decode cL_law 613 = .ok (.iadd, 1) := by decide +kernel
theorem dL_law_614 : decode cL_law 614 = .ok (.iaload, 1) := by decide +kernel
theorem dL_law_615 : decode cL_law 615 = .ok (.invokevirtual 80, 3) := by decide +kernel
theorem dL_law_618 : decode cL_law 618 = .ok (.aload_n 2, 1) := by decide +kernel
theorem dL_law_619 : decode cL_law 619 = .ok (.aload_n 0, 1) := by decide +kernel
theorem dL_law_620 : decode cL_law 620 = .ok (.iload_n 3, 1) := by decide +kernel
theorem dL_law_621 : decode cL_law 621 = .ok (.iconst 1, 1) := by decide +kernel
theorem dL_law_622 : decode cL_law 622 = .ok (.iadd, 1) := by decide +kernel
theorem dL_law_623 : decode cL_law 623 = .ok (.iaload, 1) := by decide +kernel
theorem dL_law_624 : decode cL_law 624 = .ok (.aload_n 0, 1) := by decide +kernel
theorem dL_law_625 : decode cL_law 625 = .ok (.iload_n 3, 1) := by decide +kernel
theorem dL_law_626 : decode cL_law 626 = .ok (.iconst 2, 1) := by decide +kernel
theorem dL_law_627 : decode cL_law 627 = .ok (.iadd, 1) := by decide +kernel
theorem dL_law_628 : decode cL_law 628 = .ok (.iaload, 1) := by decide +kernel
theorem dL_law_629 : decode cL_law 629 = .ok (.aload_n 0, 1) := by decide +kernel
theorem dL_law_630 : decode cL_law 630 = .ok (.iload_n 3, 1) := by decide +kernel
theorem dL_law_631 : decode cL_law 631 = .ok (.iconst 3, 1) := by decide +kernel
theorem dL_law_632 : decode cL_law 632 = .ok (.iadd, 1) := by decide +kernel
theorem dL_law_633 : decode cL_law 633 = .ok (.iaload, 1) := by decide +kernel
theorem dL_law_634 : decode cL_law 634 = .ok (.invokevirtual 83, 3) := by decide +kernel
theorem dL_law_637 : decode cL_law 637 = .ok (.if_icmp .eq 490, 3) := by decide +kernel
theorem dL_law_640 : decode cL_law 640 = .ok (.iconst 0, 1) := by decide +kernel
theorem dL_law_641 : decode cL_law 641 = .ok (.ireturn, 1) := by decide +kernel
theorem dL_law_642 : decode cL_law 642 = .ok (.aload_n 1, 1) := by decide +kernel
theorem dL_law_643 : decode cL_law 643 = .ok (.aload_n 0, 1) := by decide +kernel
theorem dL_law_644 : decode cL_law 644 = .ok (.iload_n 3, 1) := by decide +kernel
theorem dL_law_645 : decode cL_law 645 = .ok (.iconst 1, 1) := by decide +kernel
theorem dL_law_646 : decode cL_law 646 = .ok (.iadd, 1) := by decide +kernel
theorem dL_law_647 : decode cL_law 647 = .ok (.iaload, 1) := by decide +kernel
theorem dL_law_648 : decode cL_law 648 = .ok (.aload_n 0, 1) := by decide +kernel
theorem dL_law_649 : decode cL_law 649 = .ok (.iload_n 3, 1) := by decide +kernel
theorem dL_law_650 : decode cL_law 650 = .ok (.iconst 2, 1) := by decide +kernel
theorem dL_law_651 : decode cL_law 651 = .ok (.iadd, 1) := by decide +kernel
theorem dL_law_652 : decode cL_law 652 = .ok (.iaload, 1) := by decide +kernel
theorem dL_law_653 : decode cL_law 653 = .ok (.aload_n 0, 1) := by decide +kernel
theorem dL_law_654 : decode cL_law 654 = .ok (.iload_n 3, 1) := by decide +kernel
theorem dL_law_655 : decode cL_law 655 = .ok (.iconst 3, 1) := by decide +kernel
theorem dL_law_656 : decode cL_law 656 = .ok (.iadd, 1) := by decide +kernel
theorem dL_law_657 : decode cL_law 657 = .ok (.iaload, 1) := by decide +kernel
theorem dL_law_658 : decode cL_law 658 = .ok (.invokevirtual 84, 3) := by decide +kernel
theorem dL_law_661 : decode cL_law 661 = .ok (.aload_n 2, 1) := by decide +kernel
theorem dL_law_662 : decode cL_law 662 = .ok (.aload_n 0, 1) := by decide +kernel
theorem dL_law_663 : decode cL_law 663 = .ok (.iload_n 3, 1) := by decide +kernel
theorem dL_law_664 : decode cL_law 664 = .ok (.iconst 1, 1) := by decide +kernel
theorem dL_law_665 : decode cL_law 665 = .ok (.iadd, 1) := by decide +kernel
theorem dL_law_666 : decode cL_law 666 = .ok (.iaload, 1) := by decide +kernel
theorem dL_law_667 : decode cL_law 667 = .ok (.aload_n 0, 1) := by decide +kernel
theorem dL_law_668 : decode cL_law 668 = .ok (.iload_n 3, 1) := by decide +kernel
theorem dL_law_669 : decode cL_law 669 = .ok (.iconst 2, 1) := by decide +kernel
theorem dL_law_670 : decode cL_law 670 = .ok (.iadd, 1) := by decide +kernel
theorem dL_law_671 : decode cL_law 671 = .ok (.iaload, 1) := by decide +kernel
theorem dL_law_672 : decode cL_law 672 = .ok (.aload_n 0, 1) := by decide +kernel
theorem dL_law_673 : decode cL_law 673 = .ok (.iload_n 3, 1) := by decide +kernel
theorem dL_law_674 : decode cL_law 674 = .ok (.iconst 3, 1) := by decide +kernel
theorem dL_law_675 : decode cL_law 675 = .ok (.iadd, 1) := by decide +kernel
theorem dL_law_676 : decode cL_law 676 = .ok (.iaload, 1) := by decide +kernel
theorem dL_law_677 : decode cL_law 677 = .ok (.invokevirtual 87, 3) := by decide +kernel
theorem dL_law_680 : decode cL_law 680 = .ok (.if_icmp .eq 447, 3) := by decide +kernel
theorem dL_law_683 : decode cL_law 683 = .ok (.iconst 0, 1) := by decide +kernel
theorem dL_law_684 : decode cL_law 684 = .ok (.ireturn, 1) := by decide +kernel
theorem dL_law_685 : decode cL_law 685 = .ok (.aload_n 1, 1) := by decide +kernel
theorem dL_law_686 : decode cL_law 686 = .ok (.aload_n 0, 1) := by decide +kernel
theorem dL_law_687 : decode cL_law 687 = .ok (.iload_n 3, 1) := by decide +kernel
theorem dL_law_688 : decode cL_law 688 = .ok (.iconst 1, 1) := by decide +kernel
theorem dL_law_689 : decode cL_law 689 = .ok (.iadd, 1) := by decide +kernel
theorem dL_law_690 : decode cL_law 690 = .ok (.iaload, 1) := by decide +kernel
theorem dL_law_691 : decode cL_law 691 = .ok (.invokevirtual 88, 3) := by decide +kernel
theorem dL_law_694 : decode cL_law 694 = .ok (.aload_n 2, 1) := by decide +kernel
theorem dL_law_695 : decode cL_law 695 = .ok (.aload_n 0, 1) := by decide +kernel
theorem dL_law_696 : decode cL_law 696 = .ok (.iload_n 3, 1) := by decide +kernel
theorem dL_law_697 : decode cL_law 697 = .ok (.iconst 1, 1) := by decide +kernel
theorem dL_law_698 : decode cL_law 698 = .ok (.iadd, 1) := by decide +kernel
theorem dL_law_699 : decode cL_law 699 = .ok (.iaload, 1) := by decide +kernel
theorem dL_law_700 : decode cL_law 700 = .ok (.invokevirtual 91, 3) := by decide +kernel
theorem dL_law_703 : decode cL_law 703 = .ok (.if_icmp .eq 424, 3) := by decide +kernel
theorem dL_law_706 : decode cL_law 706 = .ok (.iconst 0, 1) := by decide +kernel
theorem dL_law_707 : decode cL_law 707 = .ok (.ireturn, 1) := by decide +kernel
theorem dL_law_708 : decode cL_law 708 = .ok (.aload_n 1, 1) := by decide +kernel
theorem dL_law_709 : decode cL_law 709 = .ok (.invokevirtual 92, 3) := by decide +kernel
theorem dL_law_712 : decode cL_law 712 = .ok (.aload_n 2, 1) := by decide +kernel
theorem dL_law_713 : decode cL_law 713 = .ok (.invokevirtual 95, 3) := by decide +kernel
theorem dL_law_716 : decode cL_law 716 = .ok (.if_icmp .eq 411, 3) := by decide +kernel
theorem dL_law_719 : decode cL_law 719 = .ok (.iconst 0, 1) := by decide +kernel
theorem dL_law_720 : decode cL_law 720 = .ok (.ireturn, 1) := by decide +kernel
theorem dL_law_721 : decode cL_law 721 = .ok (.aload_n 1, 1) := by decide +kernel
theorem dL_law_722 : decode cL_law 722 = .ok (.aload_n 0, 1) := by decide +kernel
theorem dL_law_723 : decode cL_law 723 = .ok (.iload_n 3, 1) := by decide +kernel
theorem dL_law_724 : decode cL_law 724 = .ok (.iconst 1, 1) := by decide +kernel
theorem dL_law_725 : decode cL_law 725 = .ok (.iadd, 1) := by decide +kernel
theorem dL_law_726 : decode cL_law 726 = .ok (.iaload, 1) := by decide +kernel
theorem dL_law_727 : decode cL_law 727 = .ok (.aload_n 0, 1) := by decide +kernel
theorem dL_law_728 : decode cL_law 728 = .ok (.iload_n 3, 1) := by decide +kernel
theorem dL_law_729 : decode cL_law 729 = .ok (.iconst 2, 1) := by decide +kernel
theorem dL_law_730 : decode cL_law 730 = .ok (.iadd, 1) := by decide +kernel
theorem dL_law_731 : decode cL_law 731 = .ok (.iaload, 1) := by decide +kernel
theorem dL_law_732 : decode cL_law 732 = .ok (.invokevirtual 96, 3) := by decide +kernel
theorem dL_law_735 : decode cL_law 735 = .ok (.aload_n 2, 1) := by decide +kernel
theorem dL_law_736 : decode cL_law 736 = .ok (.aload_n 0, 1) := by decide +kernel
theorem dL_law_737 : decode cL_law 737 = .ok (.iload_n 3, 1) := by decide +kernel
theorem dL_law_738 : decode cL_law 738 = .ok (.iconst 1, 1) := by decide +kernel
theorem dL_law_739 : decode cL_law 739 = .ok (.iadd, 1) := by decide +kernel
theorem dL_law_740 : decode cL_law 740 = .ok (.iaload, 1) := by decide +kernel
theorem dL_law_741 : decode cL_law 741 = .ok (.aload_n 0, 1) := by decide +kernel
theorem dL_law_742 : decode cL_law 742 = .ok (.iload_n 3, 1) := by decide +kernel
theorem dL_law_743 : decode cL_law 743 = .ok (.iconst 2, 1) := by decide +kernel
theorem dL_law_744 : decode cL_law 744 = .ok (.iadd, 1) := by decide +kernel
theorem dL_law_745 : decode cL_law 745 = .ok (.iaload, 1) := by decide +kernel
theorem dL_law_746 : decode cL_law 746 = .ok (.invokevirtual 99, 3) := by decide +kernel
theorem dL_law_749 : decode cL_law 749 = .ok (.if_icmp .eq 378, 3) := by decide +kernel
theorem dL_law_752 : decode cL_law 752 = .ok (.iconst 0, 1) := by decide +kernel
theorem dL_law_753 : decode cL_law 753 = .ok (.ireturn, 1) := by decide +kernel
theorem dL_law_754 : decode cL_law 754 = .ok (.aload_n 1, 1) := by decide +kernel
theorem dL_law_755 : decode cL_law 755 = .ok (.aload_n 0, 1) := by decide +kernel
theorem dL_law_756 : decode cL_law 756 = .ok (.iload_n 3, 1) := by decide +kernel
theorem dL_law_757 : decode cL_law 757 = .ok (.iconst 1, 1) := by decide +kernel
theorem dL_law_758 : decode cL_law 758 = .ok (.iadd, 1) := by decide +kernel
theorem dL_law_759 : decode cL_law 759 = .ok (.iaload, 1) := by decide +kernel
theorem dL_law_760 : decode cL_law 760 = .ok (.aload_n 0, 1) := by decide +kernel
theorem dL_law_761 : decode cL_law 761 = .ok (.iload_n 3, 1) := by decide +kernel
theorem dL_law_762 : decode cL_law 762 = .ok (.iconst 2, 1) := by decide +kernel
theorem dL_law_763 : decode cL_law 763 = .ok (.iadd, 1) := by decide +kernel
theorem dL_law_764 : decode cL_law 764 = .ok (.iaload, 1) := by decide +kernel
theorem dL_law_765 : decode cL_law 765 = .ok (.aload_n 0, 1) := by decide +kernel
theorem dL_law_766 : decode cL_law 766 = .ok (.iload_n 3, 1) := by decide +kernel
theorem dL_law_767 : decode cL_law 767 = .ok (.iconst 3, 1) := by decide +kernel
theorem dL_law_768 : decode cL_law 768 = .ok (.iadd, 1) := by decide +kernel
theorem dL_law_769 : decode cL_law 769 = .ok (.iaload, 1) := by decide +kernel
theorem dL_law_770 : decode cL_law 770 = .ok (.invokevirtual 100, 3) := by decide +kernel
theorem dL_law_773 : decode cL_law 773 = .ok (.aload_n 2, 1) := by decide +kernel
theorem dL_law_774 : decode cL_law 774 = .ok (.aload_n 0, 1) := by decide +kernel
theorem dL_law_775 : decode cL_law 775 = .ok (.iload_n 3, 1) := by decide +kernel
theorem dL_law_776 : decode cL_law 776 = .ok (.iconst 1, 1) := by decide +kernel
theorem dL_law_777 : decode cL_law 777 = .ok (.iadd, 1) := by decide +kernel
theorem dL_law_778 : decode cL_law 778 = .ok (.iaload, 1) := by decide +kernel
theorem dL_law_779 : decode cL_law 779 = .ok (.aload_n 0, 1) := by decide +kernel
theorem dL_law_780 : decode cL_law 780 = .ok (.iload_n 3, 1) := by decide +kernel
theorem dL_law_781 : decode cL_law 781 = .ok (.iconst 2, 1) := by decide +kernel
theorem dL_law_782 : decode cL_law 782 = .ok (.iadd, 1) := by decide +kernel
theorem dL_law_783 : decode cL_law 783 = .ok (.iaload, 1) := by decide +kernel
theorem dL_law_784 : decode cL_law 784 = .ok (.aload_n 0, 1) := by decide +kernel
theorem dL_law_785 : decode cL_law 785 = .ok (.iload_n 3, 1) := by decide +kernel
theorem dL_law_786 : decode cL_law 786 = .ok (.iconst 3, 1) := by decide +kernel
theorem dL_law_787 : decode cL_law 787 = .ok (.iadd, 1) := by decide +kernel
theorem dL_law_788 : decode cL_law 788 = .ok (.iaload, 1) := by decide +kernel
theorem dL_law_789 : decode cL_law 789 = .ok (.invokevirtual 103, 3) := by decide +kernel
theorem dL_law_792 : decode cL_law 792 = .ok (.if_icmp .eq 335, 3) := by decide +kernel
theorem dL_law_795 : decode cL_law 795 = .ok (.iconst 0, 1) := by decide +kernel
theorem dL_law_796 : decode cL_law 796 = .ok (.ireturn, 1) := by decide +kernel
theorem dL_law_797 : decode cL_law 797 = .ok (.aload_n 1, 1) := by decide +kernel
theorem dL_law_798 : decode cL_law 798 = .ok (.aload_n 0, 1) := by decide +kernel
theorem dL_law_799 : decode cL_law 799 = .ok (.iload_n 3, 1) := by decide +kernel
theorem dL_law_800 : decode cL_law 800 = .ok (.iconst 1, 1) := by decide +kernel
theorem dL_law_801 : decode cL_law 801 = .ok (.iadd, 1) := by decide +kernel
theorem dL_law_802 : decode cL_law 802 = .ok (.iaload, 1) := by decide +kernel
theorem dL_law_803 : decode cL_law 803 = .ok (.aload_n 0, 1) := by decide +kernel
theorem dL_law_804 : decode cL_law 804 = .ok (.iload_n 3, 1) := by decide +kernel
theorem dL_law_805 : decode cL_law 805 = .ok (.iconst 2, 1) := by decide +kernel
theorem dL_law_806 : decode cL_law 806 = .ok (.iadd, 1) := by decide +kernel
theorem dL_law_807 : decode cL_law 807 = .ok (.iaload, 1) := by decide +kernel
theorem dL_law_808 : decode cL_law 808 = .ok (.invokevirtual 104, 3) := by decide +kernel
theorem dL_law_811 : decode cL_law 811 = .ok (.aload_n 2, 1) := by decide +kernel
theorem dL_law_812 : decode cL_law 812 = .ok (.aload_n 0, 1) := by decide +kernel
theorem dL_law_813 : decode cL_law 813 = .ok (.iload_n 3, 1) := by decide +kernel
theorem dL_law_814 : decode cL_law 814 = .ok (.iconst 1, 1) := by decide +kernel
theorem dL_law_815 : decode cL_law 815 = .ok (.iadd, 1) := by decide +kernel
theorem dL_law_816 : decode cL_law 816 = .ok (.iaload, 1) := by decide +kernel
theorem dL_law_817 : decode cL_law 817 = .ok (.aload_n 0, 1) := by decide +kernel
theorem dL_law_818 : decode cL_law 818 = .ok (.iload_n 3, 1) := by decide +kernel
theorem dL_law_819 : decode cL_law 819 = .ok (.iconst 2, 1) := by decide +kernel
theorem dL_law_820 : decode cL_law 820 = .ok (.iadd, 1) := by decide +kernel
theorem dL_law_821 : decode cL_law 821 = .ok (.iaload, 1) := by decide +kernel
theorem dL_law_822 : decode cL_law 822 = .ok (.invokevirtual 107, 3) := by decide +kernel
theorem dL_law_825 : decode cL_law 825 = .ok (.if_icmp .eq 302, 3) := by decide +kernel
theorem dL_law_828 : decode cL_law 828 = .ok (.iconst 0, 1) := by decide +kernel
theorem dL_law_829 : decode cL_law 829 = .ok (.ireturn, 1) := by decide +kernel
theorem dL_law_830 : decode cL_law 830 = .ok (.aload_n 1, 1) := by decide +kernel
theorem dL_law_831 : decode cL_law 831 = .ok (.aload_n 0, 1) := by decide +kernel
theorem dL_law_832 : decode cL_law 832 = .ok (.iload_n 3, 1) := by decide +kernel
theorem dL_law_833 : decode cL_law 833 = .ok (.iconst 1, 1) := by decide +kernel
theorem dL_law_834 : decode cL_law 834 = .ok (.iadd, 1) := by decide +kernel
theorem dL_law_835 : decode cL_law 835 = .ok (.iaload, 1) := by decide +kernel
theorem dL_law_836 : decode cL_law 836 = .ok (.invokevirtual 108, 3) := by decide +kernel
theorem dL_law_839 : decode cL_law 839 = .ok (.aload_n 2, 1) := by decide +kernel
theorem dL_law_840 : decode cL_law 840 = .ok (.aload_n 0, 1) := by decide +kernel
theorem dL_law_841 : decode cL_law 841 = .ok (.iload_n 3, 1) := by decide +kernel
theorem dL_law_842 : decode cL_law 842 = .ok (.iconst 1, 1) := by decide +kernel
theorem dL_law_843 : decode cL_law 843 = .ok (.iadd, 1) := by decide +kernel
theorem dL_law_844 : decode cL_law 844 = .ok (.iaload, 1) := by decide +kernel
theorem dL_law_845 : decode cL_law 845 = .ok (.invokevirtual 111, 3) := by decide +kernel
theorem dL_law_848 : decode cL_law 848 = .ok (.if_icmp .eq 279, 3) := by decide +kernel
theorem dL_law_851 : decode cL_law 851 = .ok (.iconst 0, 1) := by decide +kernel
theorem dL_law_852 : decode cL_law 852 = .ok (.ireturn, 1) := by decide +kernel
theorem dL_law_853 : decode cL_law 853 = .ok (.aload_n 1, 1) := by decide +kernel
theorem dL_law_854 : decode cL_law 854 = .ok (.aload_n 0, 1) := by decide +kernel
theorem dL_law_855 : decode cL_law 855 = .ok (.iload_n 3, 1) := by decide +kernel
theorem dL_law_856 : decode cL_law 856 = .ok (.iconst 1, 1) := by decide +kernel
theorem dL_law_857 : decode cL_law 857 = .ok (.iadd, 1) := by decide +kernel
theorem dL_law_858 : decode cL_law 858 = .ok (.iaload, 1) := by decide +kernel
theorem dL_law_859 : decode cL_law 859 = .ok (.aload_n 0, 1) := by decide +kernel
theorem dL_law_860 : decode cL_law 860 = .ok (.iload_n 3, 1) := by decide +kernel
theorem dL_law_861 : decode cL_law 861 = .ok (.iconst 2, 1) := by decide +kernel
theorem dL_law_862 : decode cL_law 862 = .ok (.iadd, 1) := by decide +kernel
theorem dL_law_863 : decode cL_law 863 = .ok (.iaload, 1) := by decide +kernel
theorem dL_law_864 : decode cL_law 864 = .ok (.invokevirtual 112, 3) := by decide +kernel
theorem dL_law_867 : decode cL_law 867 = .ok (.aload_n 2, 1) := by decide +kernel
theorem dL_law_868 : decode cL_law 868 = .ok (.aload_n 0, 1) := by decide +kernel
theorem dL_law_869 : decode cL_law 869 = .ok (.iload_n 3, 1) := by decide +kernel
theorem dL_law_870 : decode cL_law 870 = .ok (.iconst 1, 1) := by decide +kernel
theorem dL_law_871 : decode cL_law 871 = .ok (.iadd, 1) := by decide +kernel
theorem dL_law_872 : decode cL_law 872 = .ok (.iaload, 1) := by decide +kernel
theorem dL_law_873 : decode cL_law 873 = .ok (.aload_n 0, 1) := by decide +kernel
theorem dL_law_874 : decode cL_law 874 = .ok (.iload_n 3, 1) := by decide +kernel
theorem dL_law_875 : decode cL_law 875 = .ok (.iconst 2, 1) := by decide +kernel
theorem dL_law_876 : decode cL_law 876 = .ok (.iadd, 1) := by decide +kernel
theorem dL_law_877 : decode cL_law 877 = .ok (.iaload, 1) := by decide +kernel
theorem dL_law_878 : decode cL_law 878 = .ok (.invokevirtual 115, 3) := by decide +kernel
theorem dL_law_881 : decode cL_law 881 = .ok (.if_icmp .eq 246, 3) := by decide +kernel
theorem dL_law_884 : decode cL_law 884 = .ok (.iconst 0, 1) := by decide +kernel
theorem dL_law_885 : decode cL_law 885 = .ok (.ireturn, 1) := by decide +kernel
theorem dL_law_886 : decode cL_law 886 = .ok (.aload_n 1, 1) := by decide +kernel
theorem dL_law_887 : decode cL_law 887 = .ok (.aload_n 0, 1) := by decide +kernel
theorem dL_law_888 : decode cL_law 888 = .ok (.iload_n 3, 1) := by decide +kernel
theorem dL_law_889 : decode cL_law 889 = .ok (.iconst 1, 1) := by decide +kernel
theorem dL_law_890 : decode cL_law 890 = .ok (.iadd, 1) := by decide +kernel
theorem dL_law_891 : decode cL_law 891 = .ok (.iaload, 1) := by decide +kernel
theorem dL_law_892 : decode cL_law 892 = .ok (.aload_n 0, 1) := by decide +kernel
theorem dL_law_893 : decode cL_law 893 = .ok (.iload_n 3, 1) := by decide +kernel
theorem dL_law_894 : decode cL_law 894 = .ok (.iconst 2, 1) := by decide +kernel
theorem dL_law_895 : decode cL_law 895 = .ok (.iadd, 1) := by decide +kernel
theorem dL_law_896 : decode cL_law 896 = .ok (.iaload, 1) := by decide +kernel
theorem dL_law_897 : decode cL_law 897 = .ok (.invokevirtual 116, 3) := by decide +kernel
theorem dL_law_900 : decode cL_law 900 = .ok (.aload_n 2, 1) := by decide +kernel
theorem dL_law_901 : decode cL_law 901 = .ok (.aload_n 0, 1) := by decide +kernel
theorem dL_law_902 : decode cL_law 902 = .ok (.iload_n 3, 1) := by decide +kernel
theorem dL_law_903 : decode cL_law 903 = .ok (.iconst 1, 1) := by decide +kernel
theorem dL_law_904 : decode cL_law 904 = .ok (.iadd, 1) := by decide +kernel
theorem dL_law_905 : decode cL_law 905 = .ok (.iaload, 1) := by decide +kernel
theorem dL_law_906 : decode cL_law 906 = .ok (.aload_n 0, 1) := by decide +kernel
theorem dL_law_907 : decode cL_law 907 = .ok (.iload_n 3, 1) := by decide +kernel
theorem dL_law_908 : decode cL_law 908 = .ok (.iconst 2, 1) := by decide +kernel
theorem dL_law_909 : decode cL_law 909 = .ok (.iadd, 1) := by decide +kernel
theorem dL_law_910 : decode cL_law 910 = .ok (.iaload, 1) := by decide +kernel
theorem dL_law_911 : decode cL_law 911 = .ok (.invokevirtual 119, 3) := by decide +kernel
theorem dL_law_914 : decode cL_law 914 = .ok (.if_icmp .eq 213, 3) := by decide +kernel
theorem dL_law_917 : decode cL_law 917 = .ok (.iconst 0, 1) := by decide +kernel
theorem dL_law_918 : decode cL_law 918 = .ok (.ireturn, 1) := by decide +kernel
theorem dL_law_919 : decode cL_law 919 = .ok (.aload_n 1, 1) := by decide +kernel
theorem dL_law_920 : decode cL_law 920 = .ok (.invokevirtual 120, 3) := by decide +kernel
theorem dL_law_923 : decode cL_law 923 = .ok (.aload_n 2, 1) := by decide +kernel
theorem dL_law_924 : decode cL_law 924 = .ok (.invokevirtual 123, 3) := by decide +kernel
theorem dL_law_927 : decode cL_law 927 = .ok (.if_icmp .eq 200, 3) := by decide +kernel
theorem dL_law_930 : decode cL_law 930 = .ok (.iconst 0, 1) := by decide +kernel
theorem dL_law_931 : decode cL_law 931 = .ok (.ireturn, 1) := by decide +kernel
theorem dL_law_932 : decode cL_law 932 = .ok (.aload_n 1, 1) := by decide +kernel
theorem dL_law_933 : decode cL_law 933 = .ok (.aload_n 0, 1) := by decide +kernel
theorem dL_law_934 : decode cL_law 934 = .ok (.iload_n 3, 1) := by decide +kernel
theorem dL_law_935 : decode cL_law 935 = .ok (.iconst 1, 1) := by decide +kernel
theorem dL_law_936 : decode cL_law 936 = .ok (.iadd, 1) := by decide +kernel
theorem dL_law_937 : decode cL_law 937 = .ok (.iaload, 1) := by decide +kernel
theorem dL_law_938 : decode cL_law 938 = .ok (.aload_n 0, 1) := by decide +kernel
theorem dL_law_939 : decode cL_law 939 = .ok (.iload_n 3, 1) := by decide +kernel
theorem dL_law_940 : decode cL_law 940 = .ok (.iconst 2, 1) := by decide +kernel
theorem dL_law_941 : decode cL_law 941 = .ok (.iadd, 1) := by decide +kernel
theorem dL_law_942 : decode cL_law 942 = .ok (.iaload, 1) := by decide +kernel
theorem dL_law_943 : decode cL_law 943 = .ok (.invokevirtual 124, 3) := by decide +kernel
theorem dL_law_946 : decode cL_law 946 = .ok (.aload_n 2, 1) := by decide +kernel
theorem dL_law_947 : decode cL_law 947 = .ok (.aload_n 0, 1) := by decide +kernel
theorem dL_law_948 : decode cL_law 948 = .ok (.iload_n 3, 1) := by decide +kernel
theorem dL_law_949 : decode cL_law 949 = .ok (.iconst 1, 1) := by decide +kernel
theorem dL_law_950 : decode cL_law 950 = .ok (.iadd, 1) := by decide +kernel
theorem dL_law_951 : decode cL_law 951 = .ok (.iaload, 1) := by decide +kernel
theorem dL_law_952 : decode cL_law 952 = .ok (.aload_n 0, 1) := by decide +kernel
theorem dL_law_953 : decode cL_law 953 = .ok (.iload_n 3, 1) := by decide +kernel
theorem dL_law_954 : decode cL_law 954 = .ok (.iconst 2, 1) := by decide +kernel
theorem dL_law_955 : decode cL_law 955 = .ok (.iadd, 1) := by decide +kernel
theorem dL_law_956 : decode cL_law 956 = .ok (.iaload, 1) := by decide +kernel
theorem dL_law_957 : decode cL_law 957 = .ok (.invokevirtual 127, 3) := by decide +kernel
theorem dL_law_960 : decode cL_law 960 = .ok (.if_icmp .eq 167, 3) := by decide +kernel
theorem dL_law_963 : decode cL_law 963 = .ok (.iconst 0, 1) := by decide +kernel
theorem dL_law_964 : decode cL_law 964 = .ok (.ireturn, 1) := by decide +kernel
theorem dL_law_965 : decode cL_law 965 = .ok (.aload_n 1, 1) := by decide +kernel
theorem dL_law_966 : decode cL_law 966 = .ok (.aload_n 0, 1) := by decide +kernel
theorem dL_law_967 : decode cL_law 967 = .ok (.iload_n 3, 1) := by decide +kernel
theorem dL_law_968 : decode cL_law 968 = .ok (.iconst 1, 1) := by decide +kernel
theorem dL_law_969 : decode cL_law 969 = .ok (.iadd, 1) := by decide +kernel
theorem dL_law_970 : decode cL_law 970 = .ok (.iaload, 1) := by decide +kernel
theorem dL_law_971 : decode cL_law 971 = .ok (.invokevirtual 128, 3) := by decide +kernel
theorem dL_law_974 : decode cL_law 974 = .ok (.aload_n 2, 1) := by decide +kernel
theorem dL_law_975 : decode cL_law 975 = .ok (.aload_n 0, 1) := by decide +kernel
theorem dL_law_976 : decode cL_law 976 = .ok (.iload_n 3, 1) := by decide +kernel
theorem dL_law_977 : decode cL_law 977 = .ok (.iconst 1, 1) := by decide +kernel
theorem dL_law_978 : decode cL_law 978 = .ok (.iadd, 1) := by decide +kernel
theorem dL_law_979 : decode cL_law 979 = .ok (.iaload, 1) := by decide +kernel
theorem dL_law_980 : decode cL_law 980 = .ok (.invokevirtual 131, 3) := by decide +kernel
theorem dL_law_983 : decode cL_law 983 = .ok (.if_icmp .eq 144, 3) := by decide +kernel
theorem dL_law_986 : decode cL_law 986 = .ok (.iconst 0, 1) := by decide +kernel
theorem dL_law_987 : decode cL_law 987 = .ok (.ireturn, 1) := by decide +kernel
theorem dL_law_988 : decode cL_law 988 = .ok (.aload_n 1, 1) := by decide +kernel
theorem dL_law_989 : decode cL_law 989 = .ok (.aload_n 0, 1) := by decide +kernel
theorem dL_law_990 : decode cL_law 990 = .ok (.iload_n 3, 1) := by decide +kernel
theorem dL_law_991 : decode cL_law 991 = .ok (.iconst 1, 1) := by decide +kernel
theorem dL_law_992 : decode cL_law 992 = .ok (.iadd, 1) := by decide +kernel
theorem dL_law_993 : decode cL_law 993 = .ok (.iaload, 1) := by decide +kernel
theorem dL_law_994 : decode cL_law 994 = .ok (.invokevirtual 132, 3) := by decide +kernel
theorem dL_law_997 : decode cL_law 997 = .ok (.aload_n 2, 1) := by decide +kernel
theorem dL_law_998 : decode cL_law 998 = .ok (.aload_n 0, 1) := by decide +kernel
theorem dL_law_999 : decode cL_law 999 = .ok (.iload_n 3, 1) := by decide +kernel
theorem dL_law_1000 : decode cL_law 1000 = .ok (.iconst 1, 1) := by decide +kernel
theorem dL_law_1001 : decode cL_law 1001 = .ok (.iadd, 1) := by decide +kernel
theorem dL_law_1002 : decode cL_law 1002 = .ok (.iaload, 1) := by decide +kernel
theorem dL_law_1003 : decode cL_law 1003 = .ok (.invokevirtual 135, 3) := by decide +kernel
theorem dL_law_1006 : decode cL_law 1006 = .ok (.if_icmp .eq 121, 3) := by decide +kernel
theorem dL_law_1009 : decode cL_law 1009 = .ok (.iconst 0, 1) := by decide +kernel
theorem dL_law_1010 : decode cL_law 1010 = .ok (.ireturn, 1) := by decide +kernel
theorem dL_law_1011 : decode cL_law 1011 = .ok (.aload_n 1, 1) := by decide +kernel
theorem dL_law_1012 : decode cL_law 1012 = .ok (.aload_n 0, 1) := by decide +kernel
theorem dL_law_1013 : decode cL_law 1013 = .ok (.iload_n 3, 1) := by decide +kernel
theorem dL_law_1014 : decode cL_law 1014 = .ok (.iconst 1, 1) := by decide +kernel
theorem dL_law_1015 : decode cL_law 1015 = .ok (.iadd, 1) := by decide +kernel
theorem dL_law_1016 : decode cL_law 1016 = .ok (.iaload, 1) := by decide +kernel
theorem dL_law_1017 : decode cL_law 1017 = .ok (.aload_n 0, 1) := by decide +kernel
theorem dL_law_1018 : decode cL_law 1018 = .ok (.iload_n 3, 1) := by decide +kernel
theorem dL_law_1019 : decode cL_law 1019 = .ok (.iconst 2, 1) := by decide +kernel
theorem dL_law_1020 : decode cL_law 1020 = .ok (.iadd, 1) := by decide +kernel
theorem dL_law_1021 : decode cL_law 1021 = .ok (.iaload, 1) := by decide +kernel
theorem dL_law_1022 : decode cL_law 1022 = .ok (.invokevirtual 136, 3) := by decide +kernel
theorem dL_law_1025 : decode cL_law 1025 = .ok (.aload_n 2, 1) := by decide +kernel
theorem dL_law_1026 : decode cL_law 1026 = .ok (.aload_n 0, 1) := by decide +kernel
theorem dL_law_1027 : decode cL_law 1027 = .ok (.iload_n 3, 1) := by decide +kernel
theorem dL_law_1028 : decode cL_law 1028 = .ok (.iconst 1, 1) := by decide +kernel
theorem dL_law_1029 : decode cL_law 1029 = .ok (.iadd, 1) := by decide +kernel
theorem dL_law_1030 : decode cL_law 1030 = .ok (.iaload, 1) := by decide +kernel
theorem dL_law_1031 : decode cL_law 1031 = .ok (.aload_n 0, 1) := by decide +kernel
theorem dL_law_1032 : decode cL_law 1032 = .ok (.iload_n 3, 1) := by decide +kernel
theorem dL_law_1033 : decode cL_law 1033 = .ok (.iconst 2, 1) := by decide +kernel
theorem dL_law_1034 : decode cL_law 1034 = .ok (.iadd, 1) := by decide +kernel
theorem dL_law_1035 : decode cL_law 1035 = .ok (.iaload, 1) := by decide +kernel
theorem dL_law_1036 : decode cL_law 1036 = .ok (.invokevirtual 139, 3) := by decide +kernel
theorem dL_law_1039 : decode cL_law 1039 = .ok (.if_icmp .eq 88, 3) := by decide +kernel
theorem dL_law_1042 : decode cL_law 1042 = .ok (.iconst 0, 1) := by decide +kernel
theorem dL_law_1043 : decode cL_law 1043 = .ok (.ireturn, 1) := by decide +kernel
theorem dL_law_1044 : decode cL_law 1044 = .ok (.aload_n 1, 1) := by decide +kernel
theorem dL_law_1045 : decode cL_law 1045 = .ok (.aload_n 0, 1) := by decide +kernel
theorem dL_law_1046 : decode cL_law 1046 = .ok (.iload_n 3, 1) := by decide +kernel
theorem dL_law_1047 : decode cL_law 1047 = .ok (.iconst 1, 1) := by decide +kernel
theorem dL_law_1048 : decode cL_law 1048 = .ok (.iadd, 1) := by decide +kernel
theorem dL_law_1049 : decode cL_law 1049 = .ok (.iaload, 1) := by decide +kernel
theorem dL_law_1050 : decode cL_law 1050 = .ok (.invokevirtual 140, 3) := by decide +kernel
theorem dL_law_1053 : decode cL_law 1053 = .ok (.aload_n 2, 1) := by decide +kernel
theorem dL_law_1054 : decode cL_law 1054 = .ok (.aload_n 0, 1) := by decide +kernel
theorem dL_law_1055 : decode cL_law 1055 = .ok (.iload_n 3, 1) := by decide +kernel
theorem dL_law_1056 : decode cL_law 1056 = .ok (.iconst 1, 1) := by decide +kernel
theorem dL_law_1057 : decode cL_law 1057 = .ok (.iadd, 1) := by decide +kernel
theorem dL_law_1058 : decode cL_law 1058 = .ok (.iaload, 1) := by decide +kernel
theorem dL_law_1059 : decode cL_law 1059 = .ok (.invokevirtual 143, 3) := by decide +kernel
theorem dL_law_1062 : decode cL_law 1062 = .ok (.if_icmp .eq 65, 3) := by decide +kernel
theorem dL_law_1065 : decode cL_law 1065 = .ok (.iconst 0, 1) := by decide +kernel
theorem dL_law_1066 : decode cL_law 1066 = .ok (.ireturn, 1) := by decide +kernel
theorem dL_law_1067 : decode cL_law 1067 = .ok (.aload_n 1, 1) := by decide +kernel
theorem dL_law_1068 : decode cL_law 1068 = .ok (.aload_n 0, 1) := by decide +kernel
theorem dL_law_1069 : decode cL_law 1069 = .ok (.iload_n 3, 1) := by decide +kernel
theorem dL_law_1070 : decode cL_law 1070 = .ok (.iconst 1, 1) := by decide +kernel
theorem dL_law_1071 : decode cL_law 1071 = .ok (.iadd, 1) := by decide +kernel
theorem dL_law_1072 : decode cL_law 1072 = .ok (.iaload, 1) := by decide +kernel
theorem dL_law_1073 : decode cL_law 1073 = .ok (.invokevirtual 144, 3) := by decide +kernel
theorem dL_law_1076 : decode cL_law 1076 = .ok (.aload_n 2, 1) := by decide +kernel
theorem dL_law_1077 : decode cL_law 1077 = .ok (.aload_n 0, 1) := by decide +kernel
theorem dL_law_1078 : decode cL_law 1078 = .ok (.iload_n 3, 1) := by decide +kernel
theorem dL_law_1079 : decode cL_law 1079 = .ok (.iconst 1, 1) := by decide +kernel
theorem dL_law_1080 : decode cL_law 1080 = .ok (.iadd, 1) := by decide +kernel
theorem dL_law_1081 : decode cL_law 1081 = .ok (.iaload, 1) := by decide +kernel
theorem dL_law_1082 : decode cL_law 1082 = .ok (.invokevirtual 147, 3) := by decide +kernel
theorem dL_law_1085 : decode cL_law 1085 = .ok (.if_icmp .eq 42, 3) := by decide +kernel
theorem dL_law_1088 : decode cL_law 1088 = .ok (.iconst 0, 1) := by decide +kernel
theorem dL_law_1089 : decode cL_law 1089 = .ok (.ireturn, 1) := by decide +kernel
theorem dL_law_1090 : decode cL_law 1090 = .ok (.aload_n 1, 1) := by decide +kernel
theorem dL_law_1091 : decode cL_law 1091 = .ok (.aload_n 0, 1) := by decide +kernel
theorem dL_law_1092 : decode cL_law 1092 = .ok (.iload_n 3, 1) := by decide +kernel
theorem dL_law_1093 : decode cL_law 1093 = .ok (.iconst 1, 1) := by decide +kernel
theorem dL_law_1094 : decode cL_law 1094 = .ok (.iadd, 1) := by decide +kernel
theorem dL_law_1095 : decode cL_law 1095 = .ok (.iaload, 1) := by decide +kernel
theorem dL_law_1096 : decode cL_law 1096 = .ok (.invokevirtual 148, 3) := by decide +kernel
theorem dL_law_1099 : decode cL_law 1099 = .ok (.aload_n 2, 1) := by decide +kernel
theorem dL_law_1100 : decode cL_law 1100 = .ok (.aload_n 0, 1) := by decide +kernel
theorem dL_law_1101 : decode cL_law 1101 = .ok (.iload_n 3, 1) := by decide +kernel
theorem dL_law_1102 : decode cL_law 1102 = .ok (.iconst 1, 1) := by decide +kernel
theorem dL_law_1103 : decode cL_law 1103 = .ok (.iadd, 1) := by decide +kernel
theorem dL_law_1104 : decode cL_law 1104 = .ok (.iaload, 1) := by decide +kernel
theorem dL_law_1105 : decode cL_law 1105 = .ok (.invokevirtual 151, 3) := by decide +kernel
theorem dL_law_1108 : decode cL_law 1108 = .ok (.if_icmp .eq 19, 3) := by decide +kernel
theorem dL_law_1111 : decode cL_law 1111 = .ok (.iconst 0, 1) := by decide +kernel
theorem dL_law_1112 : decode cL_law 1112 = .ok (.ireturn, 1) := by decide +kernel
theorem dL_law_1113 : decode cL_law 1113 = .ok (.aload_n 1, 1) := by decide +kernel
theorem dL_law_1114 : decode cL_law 1114 = .ok (.invokevirtual 152, 3) := by decide +kernel
theorem dL_law_1117 : decode cL_law 1117 = .ok (.aload_n 2, 1) := by decide +kernel
theorem dL_law_1118 : decode cL_law 1118 = .ok (.invokevirtual 156, 3) := by decide +kernel
theorem dL_law_1121 : decode cL_law 1121 = .ok (.lcmp, 1) := by decide +kernel
theorem dL_law_1122 : decode cL_law 1122 = .ok (.ifCond .eq 5, 3) := by decide +kernel
theorem dL_law_1125 : decode cL_law 1125 = .ok (.iconst 0, 1) := by decide +kernel
theorem dL_law_1126 : decode cL_law 1126 = .ok (.ireturn, 1) := by decide +kernel
theorem dL_law_1127 : decode cL_law 1127 = .ok (.iinc 3 4, 3) := by decide +kernel
theorem dL_law_1130 : decode cL_law 1130 = .ok (.goto (-1112), 3) := by decide +kernel
theorem dL_law_1133 : decode cL_law 1133 = .ok (.iconst 1, 1) := by decide +kernel
theorem dL_law_1134 : decode cL_law 1134 = .ok (.ireturn, 1) := by decide +kernel
end
section
def GG : List Cond := lw_tbl.filter goodWord
theorem gg_in {w : Cond} (i : Nat) (h : lw_tbl[i]? = some w) (g : goodWord w = true) : w ∈ GG := List.mem_filter.mpr ⟨List.mem_of_getElem? h, g⟩
theorem gg_good : ∀ w ∈ GG, w ∈ lw_tbl ∧ goodWord w = true := fun w h => List.mem_filter.mp h
theorem gw_0 : Cond.selects "StarChart$Reader" ⟨"StarChart$Reader","cut","()V"⟩ ⟨"StarChart$Reader","cut","()V"⟩ ∈ GG := gg_in 0 (by decide +kernel) (by decide +kernel)
theorem gw_1 : Cond.selects "StarChart$Reader" ⟨"StarChart$Reader","rowEnd","(I)I"⟩ ⟨"StarChart$Reader","rowEnd","(I)I"⟩ ∈ GG := gg_in 1 (by decide +kernel) (by decide +kernel)
theorem gw_2 : Cond.selects "StarChart$Reader" ⟨"StarChart$Reader","tokenOf","(II)I"⟩ ⟨"StarChart$Reader","tokenOf","(II)I"⟩ ∈ GG := gg_in 2 (by decide +kernel) (by decide +kernel)
theorem gw_3 : Cond.selects "StarChart$Reader" ⟨"StarChart$Reader","numberOf","(II)I"⟩ ⟨"StarChart$Reader","numberOf","(II)I"⟩ ∈ GG := gg_in 3 (by decide +kernel) (by decide +kernel)
theorem gw_4 : Cond.selects "StarChart$Reader" ⟨"StarChart$Reader","spells","(IILjava/lang/String;)Z"⟩ ⟨"StarChart$Reader","spells","(IILjava/lang/String;)Z"⟩ ∈ GG := gg_in 4 (by decide +kernel) (by decide +kernel)
theorem gw_5 : Cond.selects "StarChart$Reader" ⟨"StarChart$Reader","seen","()I"⟩ ⟨"StarChart$Reader","seen","()I"⟩ ∈ GG := gg_in 5 (by decide +kernel) (by decide +kernel)
theorem gw_6 : Cond.selects "StarChart$Reader" ⟨"StarChart$Reader","readItem","()Z"⟩ ⟨"StarChart$Reader","readItem","()Z"⟩ ∈ GG := gg_in 6 (by decide +kernel) (by decide +kernel)
theorem gw_7 : Cond.selects "StarChart$Reader" ⟨"StarChart$Reader","readChild","()Z"⟩ ⟨"StarChart$Reader","readChild","()Z"⟩ ∈ GG := gg_in 7 (by decide +kernel) (by decide +kernel)
theorem gw_8 : Cond.selects "StarChart$Reader" ⟨"StarChart$Reader","readNumber","(II)I"⟩ ⟨"StarChart$Reader","readNumber","(II)I"⟩ ∈ GG := gg_in 8 (by decide +kernel) (by decide +kernel)
theorem gw_9 : Cond.selects "StarChart$Reader" ⟨"StarChart$Reader","readBook","()Z"⟩ ⟨"StarChart$Reader","readBook","()Z"⟩ ∈ GG := gg_in 9 (by decide +kernel) (by decide +kernel)
theorem gw_10 : Cond.selects "StarChart$Reader" ⟨"StarChart$Reader","readPlan","()Z"⟩ ⟨"StarChart$Reader","readPlan","()Z"⟩ ∈ GG := gg_in 10 (by decide +kernel) (by decide +kernel)
theorem gw_11 : Cond.selects "StarChart$Reader" ⟨"StarChart$Reader","readWord","(I)Z"⟩ ⟨"StarChart$Reader","readWord","(I)Z"⟩ ∈ GG := gg_in 11 (by decide +kernel) (by decide +kernel)
theorem gw_12 : Cond.selects "StarChart$Reader" ⟨"StarChart$Reader","readPay","()Z"⟩ ⟨"StarChart$Reader","readPay","()Z"⟩ ∈ GG := gg_in 12 (by decide +kernel) (by decide +kernel)
theorem gw_13 : Cond.selects "StarChart" ⟨"StarChart","isChild","(I)Z"⟩ ⟨"StarChart","isChild","(I)Z"⟩ ∈ GG := gg_in 13 (by decide +kernel) (by decide +kernel)
theorem gw_14 : Cond.selects "StarChart" ⟨"StarChart","isSort","(I)Z"⟩ ⟨"StarChart","isSort","(I)Z"⟩ ∈ GG := gg_in 14 (by decide +kernel) (by decide +kernel)
theorem gw_15 : Cond.selects "StarChart$Course" ⟨"StarChart$Course","likingBehind","(LStarChart$Sheet;[III)I"⟩ ⟨"StarChart$Course","likingBehind","(LStarChart$Sheet;[III)I"⟩ ∈ GG := gg_in 15 (by decide +kernel) (by decide +kernel)
theorem gw_16 : Cond.selects "StarChart$Course" ⟨"StarChart$Course","worthBehind","(LStarChart$Sheet;[II)I"⟩ ⟨"StarChart$Course","worthBehind","(LStarChart$Sheet;[II)I"⟩ ∈ GG := gg_in 16 (by decide +kernel) (by decide +kernel)
theorem gw_17 : Cond.selects "StarChart" ⟨"StarChart","pagesBetween","(II)I"⟩ ⟨"StarChart","pagesBetween","(II)I"⟩ ∈ GG := gg_in 17 (by decide +kernel) (by decide +kernel)
theorem gw_18 : Cond.selects "StarChart" ⟨"StarChart","likingOn","(I)I"⟩ ⟨"StarChart","likingOn","(I)I"⟩ ∈ GG := gg_in 18 (by decide +kernel) (by decide +kernel)
theorem gw_19 : Cond.selects "StarChart" ⟨"StarChart","fillJar","(II)V"⟩ ⟨"StarChart","fillJar","(II)V"⟩ ∈ GG := gg_in 19 (by decide +kernel) (by decide +kernel)
theorem gw_20 : Cond.selects "StarChart$Jar" ⟨"StarChart$Jar","hasBy","(II)I"⟩ ⟨"StarChart$Jar","hasBy","(II)I"⟩ ∈ GG := gg_in 20 (by decide +kernel) (by decide +kernel)
theorem gw_21 : Cond.selects "StarChart$Jar" ⟨"StarChart$Jar","pagesOf","(I)I"⟩ ⟨"StarChart$Jar","pagesOf","(I)I"⟩ ∈ GG := gg_in 21 (by decide +kernel) (by decide +kernel)
theorem gw_22 : Cond.selects "StarChart$Trials" ⟨"StarChart$Trials","sumOf","(I)I"⟩ ⟨"StarChart$Trials","sumOf","(I)I"⟩ ∈ GG := gg_in 22 (by decide +kernel) (by decide +kernel)
theorem gw_23 : Cond.selects "StarChart" ⟨"StarChart","rateOfPay","(I)I"⟩ ⟨"StarChart","rateOfPay","(I)I"⟩ ∈ GG := gg_in 23 (by decide +kernel) (by decide +kernel)
theorem gw_24 : Cond.selects "StarChart" ⟨"StarChart","rateOfTold","(I)I"⟩ ⟨"StarChart","rateOfTold","(I)I"⟩ ∈ GG := gg_in 24 (by decide +kernel) (by decide +kernel)
theorem gw_25 : Cond.selects "StarChart" ⟨"StarChart","rateOfUnforeseen","(I)I"⟩ ⟨"StarChart","rateOfUnforeseen","(I)I"⟩ ∈ GG := gg_in 25 (by decide +kernel) (by decide +kernel)
theorem gw_26 : Cond.selects "StarChart" ⟨"StarChart","rateOfDoing","(I)I"⟩ ⟨"StarChart","rateOfDoing","(I)I"⟩ ∈ GG := gg_in 26 (by decide +kernel) (by decide +kernel)
theorem gw_27 : Cond.selects "StarChart" ⟨"StarChart","rateOfWell","(I)I"⟩ ⟨"StarChart","rateOfWell","(I)I"⟩ ∈ GG := gg_in 27 (by decide +kernel) (by decide +kernel)
theorem gw_28 : Cond.selects "StarChart" ⟨"StarChart","rateOfCommon","(I)I"⟩ ⟨"StarChart","rateOfCommon","(I)I"⟩ ∈ GG := gg_in 28 (by decide +kernel) (by decide +kernel)
theorem gw_29 : Cond.selects "StarChart" ⟨"StarChart","imageOf","(I)LStarChart$Image;"⟩ ⟨"StarChart","imageOf","(I)LStarChart$Image;"⟩ ∈ GG := gg_in 29 (by decide +kernel) (by decide +kernel)
theorem gw_30 : Cond.selects "StarChartModel" ⟨"StarChartModel","drafts","()V"⟩ ⟨"StarChartModel","drafts","()V"⟩ ∈ GG := gg_in 30 (by decide +kernel) (by decide +kernel)
theorem gw_31 : Cond.selects "StarChartModel" ⟨"StarChartModel","adopts","()V"⟩ ⟨"StarChartModel","adopts","()V"⟩ ∈ GG := gg_in 31 (by decide +kernel) (by decide +kernel)
theorem gw_32 : Cond.selects "StarChartModel" ⟨"StarChartModel","begins","([I)V"⟩ ⟨"StarChartModel","begins","([I)V"⟩ ∈ GG := gg_in 32 (by decide +kernel) (by decide +kernel)
theorem gw_33 : Cond.selects "StarChartModel" ⟨"StarChartModel","advances","()V"⟩ ⟨"StarChartModel","advances","()V"⟩ ∈ GG := gg_in 33 (by decide +kernel) (by decide +kernel)
theorem gw_34 : Cond.selects "StarChartModel" ⟨"StarChartModel","byteAt","(I)I"⟩ ⟨"StarChartModel","byteAt","(I)I"⟩ ∈ GG := gg_in 34 (by decide +kernel) (by decide +kernel)
theorem gw_35 : Cond.selects "StarChartModel" ⟨"StarChartModel","isWell","()Z"⟩ ⟨"StarChartModel","isWell","()Z"⟩ ∈ GG := gg_in 35 (by decide +kernel) (by decide +kernel)
theorem gw_36 : Cond.selects "StarChartModel" ⟨"StarChartModel","takes","(Z)I"⟩ ⟨"StarChartModel","takes","(Z)I"⟩ ∈ GG := gg_in 36 (by decide +kernel) (by decide +kernel)
theorem gw_37 : Cond.selects "StarChartModel" ⟨"StarChartModel","readsItem","(I)V"⟩ ⟨"StarChartModel","readsItem","(I)V"⟩ ∈ GG := gg_in 37 (by decide +kernel) (by decide +kernel)
theorem gw_38 : Cond.selects "StarChartModel" ⟨"StarChartModel","number","(II)I"⟩ ⟨"StarChartModel","number","(II)I"⟩ ∈ GG := gg_in 38 (by decide +kernel) (by decide +kernel)
theorem gw_39 : Cond.selects "StarChartModel" ⟨"StarChartModel","takesWord","(I)Z"⟩ ⟨"StarChartModel","takesWord","(I)Z"⟩ ∈ GG := gg_in 39 (by decide +kernel) (by decide +kernel)
theorem gw_40 : Cond.selects "StarChartModel" ⟨"StarChartModel","isChild","(I)Z"⟩ ⟨"StarChartModel","isChild","(I)Z"⟩ ∈ GG := gg_in 40 (by decide +kernel) (by decide +kernel)
theorem gw_41 : Cond.selects "StarChartModel" ⟨"StarChartModel","isSort","(I)Z"⟩ ⟨"StarChartModel","isSort","(I)Z"⟩ ∈ GG := gg_in 41 (by decide +kernel) (by decide +kernel)
theorem gw_42 : Cond.selects "StarChartModel" ⟨"StarChartModel","givenOf","(II)I"⟩ ⟨"StarChartModel","givenOf","(II)I"⟩ ∈ GG := gg_in 42 (by decide +kernel) (by decide +kernel)
theorem gw_43 : Cond.selects "StarChartModel" ⟨"StarChartModel","pagesOf","(II)I"⟩ ⟨"StarChartModel","pagesOf","(II)I"⟩ ∈ GG := gg_in 43 (by decide +kernel) (by decide +kernel)
theorem gw_44 : Cond.selects "StarChartModel" ⟨"StarChartModel","joysOf","([III)I"⟩ ⟨"StarChartModel","joysOf","([III)I"⟩ ∈ GG := gg_in 44 (by decide +kernel) (by decide +kernel)
theorem gw_45 : Cond.selects "StarChartModel" ⟨"StarChartModel","starsOf","([IIII)I"⟩ ⟨"StarChartModel","starsOf","([IIII)I"⟩ ∈ GG := gg_in 45 (by decide +kernel) (by decide +kernel)
theorem gw_46 : Cond.selects "StarChartModel" ⟨"StarChartModel","wantOf","([IIII)I"⟩ ⟨"StarChartModel","wantOf","([IIII)I"⟩ ∈ GG := gg_in 46 (by decide +kernel) (by decide +kernel)
theorem gw_47 : Cond.selects "StarChartModel" ⟨"StarChartModel","choiceOf","([III)I"⟩ ⟨"StarChartModel","choiceOf","([III)I"⟩ ∈ GG := gg_in 47 (by decide +kernel) (by decide +kernel)
theorem gw_48 : Cond.selects "StarChartModel" ⟨"StarChartModel","goesBy","([I)I"⟩ ⟨"StarChartModel","goesBy","([I)I"⟩ ∈ GG := gg_in 48 (by decide +kernel) (by decide +kernel)
theorem gw_49 : Cond.selects "StarChartModel" ⟨"StarChartModel","allOf","([II)I"⟩ ⟨"StarChartModel","allOf","([II)I"⟩ ∈ GG := gg_in 49 (by decide +kernel) (by decide +kernel)
theorem gw_50 : Cond.selects "StarChartModel" ⟨"StarChartModel","pagesBy","(II)I"⟩ ⟨"StarChartModel","pagesBy","(II)I"⟩ ∈ GG := gg_in 50 (by decide +kernel) (by decide +kernel)
theorem gw_51 : Cond.selects "StarChartModel" ⟨"StarChartModel","endOn","(I)I"⟩ ⟨"StarChartModel","endOn","(I)I"⟩ ∈ GG := gg_in 51 (by decide +kernel) (by decide +kernel)
theorem gw_52 : Cond.selects "StarChartModel" ⟨"StarChartModel","aside","(Z)V"⟩ ⟨"StarChartModel","aside","(Z)V"⟩ ∈ GG := gg_in 52 (by decide +kernel) (by decide +kernel)
theorem gw_53 : Cond.selects "StarChartModel" ⟨"StarChartModel","jarHas","(IIII)I"⟩ ⟨"StarChartModel","jarHas","(IIII)I"⟩ ∈ GG := gg_in 53 (by decide +kernel) (by decide +kernel)
theorem gw_54 : Cond.selects "StarChartModel" ⟨"StarChartModel","jarSort","(I)I"⟩ ⟨"StarChartModel","jarSort","(I)I"⟩ ∈ GG := gg_in 54 (by decide +kernel) (by decide +kernel)
theorem gw_55 : Cond.selects "StarChartModel" ⟨"StarChartModel","jarPages","(I)I"⟩ ⟨"StarChartModel","jarPages","(I)I"⟩ ∈ GG := gg_in 55 (by decide +kernel) (by decide +kernel)
theorem gw_56 : Cond.selects "StarChartModel" ⟨"StarChartModel","meanOf","(II)I"⟩ ⟨"StarChartModel","meanOf","(II)I"⟩ ∈ GG := gg_in 56 (by decide +kernel) (by decide +kernel)
theorem gw_57 : Cond.selects "StarChartModel" ⟨"StarChartModel","sumOf","(I)I"⟩ ⟨"StarChartModel","sumOf","(I)I"⟩ ∈ GG := gg_in 57 (by decide +kernel) (by decide +kernel)
theorem gw_58 : Cond.selects "StarChartModel" ⟨"StarChartModel","manyOf","(I)I"⟩ ⟨"StarChartModel","manyOf","(I)I"⟩ ∈ GG := gg_in 58 (by decide +kernel) (by decide +kernel)
theorem gw_59 : Cond.initialized "StarChartLaw" ∈ GG := gg_in 59 (by decide +kernel) (by decide +kernel)
theorem gw_60 : Cond.initialized "StarChart" ∈ GG := gg_in 60 (by decide +kernel) (by decide +kernel)
theorem gw_61 : Cond.initialized "StarChart$Sheet" ∈ GG := gg_in 61 (by decide +kernel) (by decide +kernel)
theorem gw_62 : Cond.initialized "StarChart$Reader" ∈ GG := gg_in 62 (by decide +kernel) (by decide +kernel)
theorem gw_63 : Cond.initialized "StarChart$Course" ∈ GG := gg_in 63 (by decide +kernel) (by decide +kernel)
theorem gw_64 : Cond.initialized "StarChart$Image" ∈ GG := gg_in 64 (by decide +kernel) (by decide +kernel)
theorem gw_65 : Cond.initialized "StarChart$Trials" ∈ GG := gg_in 65 (by decide +kernel) (by decide +kernel)
theorem gw_66 : Cond.initialized "StarChart$Jar" ∈ GG := gg_in 66 (by decide +kernel) (by decide +kernel)
theorem gw_67 : Cond.initialized "java/lang/System" ∈ GG := gg_in 67 (by decide +kernel) (by decide +kernel)
theorem gw_68 : Cond.initialized "StarChartModel" ∈ GG := gg_in 68 (by decide +kernel) (by decide +kernel)
theorem gw_69 : Cond.initialized "java/lang/String" ∈ GG := gg_in 69 (by decide +kernel) (by decide +kernel)
theorem gw_70 : Cond.initialized "java/lang/StringLatin1" ∈ GG := gg_in 70 (by decide +kernel) (by decide +kernel)
theorem gw_71 : Cond.initialized "jdk/internal/util/Preconditions" ∈ GG := gg_in 71 (by decide +kernel) (by decide +kernel)
theorem gw_72 : Cond.initialized "java/lang/StringUTF16" ∈ GG := gg_in 72 (by decide +kernel) (by decide +kernel)
theorem gw_73 : Cond.initialized "java/lang/Math" ∈ GG := gg_in 73 (by decide +kernel) (by decide +kernel)
theorem gw_74 : Cond.classLink "StarChartLaw" 7 "StarChart" ∈ GG := gg_in 74 (by decide +kernel) (by decide +kernel)
theorem gw_75 : Cond.instantiable "StarChart" 12 ∈ GG := gg_in 75 (by decide +kernel) (by decide +kernel)
theorem gw_76 : Cond.methodLink "StarChartLaw" 9 ⟨"StarChart","<init>","()V"⟩ ∈ GG := gg_in 76 (by decide +kernel) (by decide +kernel)
theorem gw_77 : Cond.instanceMethod ⟨"StarChart","<init>","()V"⟩ ∈ GG := gg_in 77 (by decide +kernel) (by decide +kernel)
set_option maxRecDepth 20000 in
theorem gw_78 : Cond.code ⟨"StarChart","<init>","()V"⟩ prog_1_method_1_code 1 none ∈ GG := gg_in 78 rfl rfl
theorem gw_79 : Cond.methodLink "StarChart" 1 ⟨"java/lang/Object","<init>","()V"⟩ ∈ GG := gg_in 79 (by decide +kernel) (by decide +kernel)
theorem gw_80 : Cond.instanceMethod ⟨"java/lang/Object","<init>","()V"⟩ ∈ GG := gg_in 80 (by decide +kernel) (by decide +kernel)
set_option maxRecDepth 20000 in
theorem gw_81 : Cond.code ⟨"java/lang/Object","<init>","()V"⟩ object_method_1_code 1 none ∈ GG := gg_in 81 rfl rfl
theorem gw_82 : Cond.classLink "StarChart" 7 "StarChart$Sheet" ∈ GG := gg_in 82 (by decide +kernel) (by decide +kernel)
theorem gw_83 : Cond.instantiable "StarChart$Sheet" 12 ∈ GG := gg_in 83 (by decide +kernel) (by decide +kernel)
theorem lt_84 : Cond.methodLinkNest "StarChart" 9 ⟨"StarChart$Sheet","<init>","()V"⟩ "StarChart" ∈ lw_tbl := List.mem_of_getElem? (i := 84) (by decide +kernel)
theorem gw_85 : Cond.instanceMethod ⟨"StarChart$Sheet","<init>","()V"⟩ ∈ GG := gg_in 85 (by decide +kernel) (by decide +kernel)
set_option maxRecDepth 20000 in
theorem gw_86 : Cond.code ⟨"StarChart$Sheet","<init>","()V"⟩ prog_6_method_1_code 1 none ∈ GG := gg_in 86 rfl rfl
theorem gw_87 : Cond.methodLink "StarChart$Sheet" 3 ⟨"java/lang/Object","<init>","()V"⟩ ∈ GG := gg_in 87 (by decide +kernel) (by decide +kernel)
theorem gw_88 : Cond.fieldLink "StarChart$Sheet" 30 "StarChart$Sheet" "children" "I" ∈ GG := gg_in 88 (by decide +kernel) (by decide +kernel)
theorem gw_89 : Cond.fieldLink "StarChart$Course" 67 "StarChart$Sheet" "children" "I" ∈ GG := gg_in 89 (by decide +kernel) (by decide +kernel)
theorem gw_90 : Cond.fieldLink "StarChart" 202 "StarChart$Sheet" "children" "I" ∈ GG := gg_in 90 (by decide +kernel) (by decide +kernel)
theorem gw_91 : Cond.fieldLink "StarChart$Reader" 102 "StarChart$Sheet" "children" "I" ∈ GG := gg_in 91 (by decide +kernel) (by decide +kernel)
theorem gw_92 : Cond.fieldLink "StarChart$Sheet" 34 "StarChart$Sheet" "sorts" "I" ∈ GG := gg_in 92 (by decide +kernel) (by decide +kernel)
theorem gw_93 : Cond.fieldLink "StarChart$Course" 61 "StarChart$Sheet" "sorts" "I" ∈ GG := gg_in 93 (by decide +kernel) (by decide +kernel)
theorem gw_94 : Cond.fieldLink "StarChart$Reader" 108 "StarChart$Sheet" "sorts" "I" ∈ GG := gg_in 94 (by decide +kernel) (by decide +kernel)
theorem gw_95 : Cond.fieldLink "StarChart" 223 "StarChart$Sheet" "sorts" "I" ∈ GG := gg_in 95 (by decide +kernel) (by decide +kernel)
theorem gw_96 : Cond.fieldLink "StarChart$Sheet" 9 "StarChart$Sheet" "liking" "[I" ∈ GG := gg_in 96 (by decide +kernel) (by decide +kernel)
theorem gw_97 : Cond.fieldLink "StarChart$Course" 28 "StarChart$Sheet" "liking" "[I" ∈ GG := gg_in 97 (by decide +kernel) (by decide +kernel)
theorem gw_98 : Cond.fieldLink "StarChart" 121 "StarChart$Sheet" "liking" "[I" ∈ GG := gg_in 98 (by decide +kernel) (by decide +kernel)
theorem gw_99 : Cond.fieldLink "StarChart$Sheet" 15 "StarChart$Sheet" "able" "[I" ∈ GG := gg_in 99 (by decide +kernel) (by decide +kernel)
theorem gw_100 : Cond.fieldLink "StarChart" 124 "StarChart$Sheet" "able" "[I" ∈ GG := gg_in 100 (by decide +kernel) (by decide +kernel)
theorem gw_101 : Cond.fieldLink "StarChart$Sheet" 18 "StarChart$Sheet" "take" "[I" ∈ GG := gg_in 101 (by decide +kernel) (by decide +kernel)
theorem gw_102 : Cond.fieldLink "StarChart" 127 "StarChart$Sheet" "take" "[I" ∈ GG := gg_in 102 (by decide +kernel) (by decide +kernel)
theorem gw_103 : Cond.fieldLink "StarChart$Course" 47 "StarChart$Sheet" "take" "[I" ∈ GG := gg_in 103 (by decide +kernel) (by decide +kernel)
theorem gw_104 : Cond.fieldLink "StarChart$Sheet" 21 "StarChart$Sheet" "hard" "[I" ∈ GG := gg_in 104 (by decide +kernel) (by decide +kernel)
theorem gw_105 : Cond.fieldLink "StarChart" 140 "StarChart$Sheet" "hard" "[I" ∈ GG := gg_in 105 (by decide +kernel) (by decide +kernel)
theorem gw_106 : Cond.fieldLink "StarChart$Sheet" 24 "StarChart$Sheet" "joy" "[I" ∈ GG := gg_in 106 (by decide +kernel) (by decide +kernel)
theorem gw_107 : Cond.fieldLink "StarChart$Course" 37 "StarChart$Sheet" "joy" "[I" ∈ GG := gg_in 107 (by decide +kernel) (by decide +kernel)
theorem gw_108 : Cond.fieldLink "StarChart" 143 "StarChart$Sheet" "joy" "[I" ∈ GG := gg_in 108 (by decide +kernel) (by decide +kernel)
theorem gw_109 : Cond.fieldLink "StarChart$Sheet" 27 "StarChart$Sheet" "pay" "[I" ∈ GG := gg_in 109 (by decide +kernel) (by decide +kernel)
theorem gw_110 : Cond.fieldLink "StarChart" 146 "StarChart$Sheet" "pay" "[I" ∈ GG := gg_in 110 (by decide +kernel) (by decide +kernel)
theorem gw_111 : Cond.fieldLink "StarChart$Reader" 135 "StarChart$Sheet" "pay" "[I" ∈ GG := gg_in 111 (by decide +kernel) (by decide +kernel)
theorem gw_112 : Cond.fieldLink "StarChart$Sheet" 44 "StarChart$Sheet" "from" "I" ∈ GG := gg_in 112 (by decide +kernel) (by decide +kernel)
theorem gw_113 : Cond.fieldLink "StarChart" 149 "StarChart$Sheet" "from" "I" ∈ GG := gg_in 113 (by decide +kernel) (by decide +kernel)
theorem gw_114 : Cond.fieldLink "StarChart$Sheet" 47 "StarChart$Sheet" "until" "I" ∈ GG := gg_in 114 (by decide +kernel) (by decide +kernel)
theorem gw_115 : Cond.fieldLink "StarChart" 152 "StarChart$Sheet" "until" "I" ∈ GG := gg_in 115 (by decide +kernel) (by decide +kernel)
theorem gw_116 : Cond.fieldLink "StarChart$Sheet" 54 "StarChart$Sheet" "thin" "I" ∈ GG := gg_in 116 (by decide +kernel) (by decide +kernel)
theorem gw_117 : Cond.fieldLink "StarChart" 158 "StarChart$Sheet" "thin" "I" ∈ GG := gg_in 117 (by decide +kernel) (by decide +kernel)
theorem gw_118 : Cond.fieldLink "StarChart$Sheet" 50 "StarChart$Sheet" "told" "Z" ∈ GG := gg_in 118 (by decide +kernel) (by decide +kernel)
theorem gw_119 : Cond.fieldLink "StarChart$Course" 54 "StarChart$Sheet" "told" "Z" ∈ GG := gg_in 119 (by decide +kernel) (by decide +kernel)
theorem gw_120 : Cond.fieldLink "StarChart" 155 "StarChart$Sheet" "told" "Z" ∈ GG := gg_in 120 (by decide +kernel) (by decide +kernel)
theorem gw_121 : Cond.lays "StarChart$Sheet" "StarChart$Sheet" "children" "I" ∈ GG := gg_in 121 (by decide +kernel) (by decide +kernel)
theorem gw_123 : Cond.lays "StarChart$Sheet" "StarChart$Sheet" "sorts" "I" ∈ GG := gg_in 123 (by decide +kernel) (by decide +kernel)
theorem gw_125 : Cond.laysFinal "StarChart$Sheet" "StarChart$Sheet" "liking" "[I" ∈ GG := gg_in 125 (by decide +kernel) (by decide +kernel)
theorem gw_127 : Cond.laysFinal "StarChart$Sheet" "StarChart$Sheet" "able" "[I" ∈ GG := gg_in 127 (by decide +kernel) (by decide +kernel)
theorem gw_129 : Cond.laysFinal "StarChart$Sheet" "StarChart$Sheet" "take" "[I" ∈ GG := gg_in 129 (by decide +kernel) (by decide +kernel)
theorem gw_131 : Cond.laysFinal "StarChart$Sheet" "StarChart$Sheet" "hard" "[I" ∈ GG := gg_in 131 (by decide +kernel) (by decide +kernel)
theorem gw_133 : Cond.laysFinal "StarChart$Sheet" "StarChart$Sheet" "joy" "[I" ∈ GG := gg_in 133 (by decide +kernel) (by decide +kernel)
theorem gw_135 : Cond.laysFinal "StarChart$Sheet" "StarChart$Sheet" "pay" "[I" ∈ GG := gg_in 135 (by decide +kernel) (by decide +kernel)
theorem gw_137 : Cond.lays "StarChart$Sheet" "StarChart$Sheet" "from" "I" ∈ GG := gg_in 137 (by decide +kernel) (by decide +kernel)
theorem gw_139 : Cond.lays "StarChart$Sheet" "StarChart$Sheet" "until" "I" ∈ GG := gg_in 139 (by decide +kernel) (by decide +kernel)
theorem gw_141 : Cond.lays "StarChart$Sheet" "StarChart$Sheet" "thin" "I" ∈ GG := gg_in 141 (by decide +kernel) (by decide +kernel)
theorem gw_143 : Cond.lays "StarChart$Sheet" "StarChart$Sheet" "told" "Z" ∈ GG := gg_in 143 (by decide +kernel) (by decide +kernel)
theorem gw_146 : Cond.arrayClass .int ∈ GG := gg_in 146 (by decide +kernel) (by decide +kernel)
theorem gw_147 : Cond.classLink "StarChart" 16 "StarChart$Reader" ∈ GG := gg_in 147 (by decide +kernel) (by decide +kernel)
theorem gw_148 : Cond.instantiable "StarChart$Reader" 7 ∈ GG := gg_in 148 (by decide +kernel) (by decide +kernel)
theorem lt_149 : Cond.methodLinkNest "StarChart" 18 ⟨"StarChart$Reader","<init>","()V"⟩ "StarChart" ∈ lw_tbl := List.mem_of_getElem? (i := 149) (by decide +kernel)
theorem gw_150 : Cond.instanceMethod ⟨"StarChart$Reader","<init>","()V"⟩ ∈ GG := gg_in 150 (by decide +kernel) (by decide +kernel)
set_option maxRecDepth 20000 in
theorem gw_151 : Cond.code ⟨"StarChart$Reader","<init>","()V"⟩ prog_5_method_1_code 1 none ∈ GG := gg_in 151 rfl rfl
theorem gw_152 : Cond.methodLink "StarChart$Reader" 3 ⟨"java/lang/Object","<init>","()V"⟩ ∈ GG := gg_in 152 (by decide +kernel) (by decide +kernel)
theorem gw_153 : Cond.classLink "StarChart$Reader" 19 "StarChart$Sheet" ∈ GG := gg_in 153 (by decide +kernel) (by decide +kernel)
theorem lt_154 : Cond.methodLinkNest "StarChart$Reader" 21 ⟨"StarChart$Sheet","<init>","()V"⟩ "StarChart" ∈ lw_tbl := List.mem_of_getElem? (i := 154) (by decide +kernel)
theorem gw_155 : Cond.fieldLink "StarChart$Reader" 9 "StarChart$Reader" "length" "I" ∈ GG := gg_in 155 (by decide +kernel) (by decide +kernel)
theorem gw_156 : Cond.fieldLink "StarChart" 96 "StarChart$Reader" "length" "I" ∈ GG := gg_in 156 (by decide +kernel) (by decide +kernel)
theorem gw_157 : Cond.fieldLink "StarChart$Reader" 15 "StarChart$Reader" "text" "[I" ∈ GG := gg_in 157 (by decide +kernel) (by decide +kernel)
theorem gw_158 : Cond.fieldLink "StarChart$Reader" 22 "StarChart$Reader" "draft" "LStarChart$Sheet;" ∈ GG := gg_in 158 (by decide +kernel) (by decide +kernel)
theorem gw_159 : Cond.fieldLink "StarChart" 106 "StarChart$Reader" "draft" "LStarChart$Sheet;" ∈ GG := gg_in 159 (by decide +kernel) (by decide +kernel)
theorem gw_160 : Cond.fieldLink "StarChart$Reader" 26 "StarChart$Reader" "token" "[I" ∈ GG := gg_in 160 (by decide +kernel) (by decide +kernel)
theorem gw_161 : Cond.fieldLink "StarChart$Reader" 29 "StarChart$Reader" "place" "[I" ∈ GG := gg_in 161 (by decide +kernel) (by decide +kernel)
theorem gw_162 : Cond.fieldLink "StarChart$Reader" 42 "StarChart$Reader" "at" "I" ∈ GG := gg_in 162 (by decide +kernel) (by decide +kernel)
theorem gw_163 : Cond.fieldLink "StarChart$Reader" 38 "StarChart$Reader" "planned" "Z" ∈ GG := gg_in 163 (by decide +kernel) (by decide +kernel)
theorem gw_164 : Cond.lays "StarChart$Reader" "StarChart$Reader" "length" "I" ∈ GG := gg_in 164 (by decide +kernel) (by decide +kernel)
theorem gw_166 : Cond.laysFinal "StarChart$Reader" "StarChart$Reader" "text" "[I" ∈ GG := gg_in 166 (by decide +kernel) (by decide +kernel)
theorem gw_168 : Cond.laysFinal "StarChart$Reader" "StarChart$Reader" "draft" "LStarChart$Sheet;" ∈ GG := gg_in 168 (by decide +kernel) (by decide +kernel)
theorem gw_170 : Cond.laysFinal "StarChart$Reader" "StarChart$Reader" "token" "[I" ∈ GG := gg_in 170 (by decide +kernel) (by decide +kernel)
theorem gw_172 : Cond.laysFinal "StarChart$Reader" "StarChart$Reader" "place" "[I" ∈ GG := gg_in 172 (by decide +kernel) (by decide +kernel)
theorem gw_174 : Cond.lays "StarChart$Reader" "StarChart$Reader" "at" "I" ∈ GG := gg_in 174 (by decide +kernel) (by decide +kernel)
theorem gw_176 : Cond.lays "StarChart$Reader" "StarChart$Reader" "planned" "Z" ∈ GG := gg_in 176 (by decide +kernel) (by decide +kernel)
theorem gw_179 : Cond.classLink "StarChart" 23 "StarChart$Course" ∈ GG := gg_in 179 (by decide +kernel) (by decide +kernel)
theorem gw_180 : Cond.instantiable "StarChart$Course" 5 ∈ GG := gg_in 180 (by decide +kernel) (by decide +kernel)
theorem lt_181 : Cond.methodLinkNest "StarChart" 25 ⟨"StarChart$Course","<init>","()V"⟩ "StarChart" ∈ lw_tbl := List.mem_of_getElem? (i := 181) (by decide +kernel)
theorem gw_182 : Cond.instanceMethod ⟨"StarChart$Course","<init>","()V"⟩ ∈ GG := gg_in 182 (by decide +kernel) (by decide +kernel)
set_option maxRecDepth 20000 in
theorem gw_183 : Cond.code ⟨"StarChart$Course","<init>","()V"⟩ prog_2_method_1_code 1 none ∈ GG := gg_in 183 rfl rfl
theorem gw_184 : Cond.methodLink "StarChart$Course" 3 ⟨"java/lang/Object","<init>","()V"⟩ ∈ GG := gg_in 184 (by decide +kernel) (by decide +kernel)
theorem gw_185 : Cond.fieldLink "StarChart$Course" 21 "StarChart$Course" "day" "I" ∈ GG := gg_in 185 (by decide +kernel) (by decide +kernel)
theorem gw_186 : Cond.fieldLink "StarChart" 187 "StarChart$Course" "day" "I" ∈ GG := gg_in 186 (by decide +kernel) (by decide +kernel)
theorem gw_187 : Cond.fieldLink "StarChart$Course" 25 "StarChart$Course" "worth" "I" ∈ GG := gg_in 187 (by decide +kernel) (by decide +kernel)
theorem gw_188 : Cond.fieldLink "StarChart" 199 "StarChart$Course" "worth" "I" ∈ GG := gg_in 188 (by decide +kernel) (by decide +kernel)
theorem gw_189 : Cond.fieldLink "StarChart$Course" 9 "StarChart$Course" "liking" "[I" ∈ GG := gg_in 189 (by decide +kernel) (by decide +kernel)
theorem gw_190 : Cond.fieldLink "StarChart" 130 "StarChart$Course" "liking" "[I" ∈ GG := gg_in 190 (by decide +kernel) (by decide +kernel)
theorem gw_191 : Cond.fieldLink "StarChart$Course" 15 "StarChart$Course" "pages" "[I" ∈ GG := gg_in 191 (by decide +kernel) (by decide +kernel)
theorem gw_192 : Cond.fieldLink "StarChart" 131 "StarChart$Course" "pages" "[I" ∈ GG := gg_in 192 (by decide +kernel) (by decide +kernel)
theorem gw_193 : Cond.fieldLink "StarChart$Course" 18 "StarChart$Course" "stars" "[I" ∈ GG := gg_in 193 (by decide +kernel) (by decide +kernel)
theorem gw_194 : Cond.fieldLink "StarChart" 134 "StarChart$Course" "stars" "[I" ∈ GG := gg_in 194 (by decide +kernel) (by decide +kernel)
theorem gw_195 : Cond.lays "StarChart$Course" "StarChart$Course" "day" "I" ∈ GG := gg_in 195 (by decide +kernel) (by decide +kernel)
theorem gw_197 : Cond.lays "StarChart$Course" "StarChart$Course" "worth" "I" ∈ GG := gg_in 197 (by decide +kernel) (by decide +kernel)
theorem gw_199 : Cond.laysFinal "StarChart$Course" "StarChart$Course" "liking" "[I" ∈ GG := gg_in 199 (by decide +kernel) (by decide +kernel)
theorem gw_201 : Cond.laysFinal "StarChart$Course" "StarChart$Course" "pages" "[I" ∈ GG := gg_in 201 (by decide +kernel) (by decide +kernel)
theorem gw_203 : Cond.laysFinal "StarChart$Course" "StarChart$Course" "stars" "[I" ∈ GG := gg_in 203 (by decide +kernel) (by decide +kernel)
theorem gw_206 : Cond.classLink "StarChart" 34 "StarChart$Image" ∈ GG := gg_in 206 (by decide +kernel) (by decide +kernel)
theorem gw_207 : Cond.instantiable "StarChart$Image" 3 ∈ GG := gg_in 207 (by decide +kernel) (by decide +kernel)
theorem lt_208 : Cond.methodLinkNest "StarChart" 36 ⟨"StarChart$Image","<init>","()V"⟩ "StarChart" ∈ lw_tbl := List.mem_of_getElem? (i := 208) (by decide +kernel)
theorem gw_209 : Cond.instanceMethod ⟨"StarChart$Image","<init>","()V"⟩ ∈ GG := gg_in 209 (by decide +kernel) (by decide +kernel)
set_option maxRecDepth 20000 in
theorem gw_210 : Cond.code ⟨"StarChart$Image","<init>","()V"⟩ prog_3_method_1_code 1 none ∈ GG := gg_in 210 rfl rfl
theorem gw_211 : Cond.methodLink "StarChart$Image" 1 ⟨"java/lang/Object","<init>","()V"⟩ ∈ GG := gg_in 211 (by decide +kernel) (by decide +kernel)
theorem gw_212 : Cond.classLink "StarChart$Image" 17 "StarChart$Course" ∈ GG := gg_in 212 (by decide +kernel) (by decide +kernel)
theorem lt_213 : Cond.methodLinkNest "StarChart$Image" 19 ⟨"StarChart$Course","<init>","()V"⟩ "StarChart" ∈ lw_tbl := List.mem_of_getElem? (i := 213) (by decide +kernel)
theorem gw_214 : Cond.fieldLink "StarChart$Image" 7 "StarChart$Image" "kept" "Z" ∈ GG := gg_in 214 (by decide +kernel) (by decide +kernel)
theorem gw_215 : Cond.fieldLink "StarChart" 113 "StarChart$Image" "kept" "Z" ∈ GG := gg_in 215 (by decide +kernel) (by decide +kernel)
theorem gw_216 : Cond.fieldLink "StarChart$Image" 13 "StarChart$Image" "chance" "I" ∈ GG := gg_in 216 (by decide +kernel) (by decide +kernel)
theorem gw_217 : Cond.fieldLink "StarChart" 279 "StarChart$Image" "chance" "I" ∈ GG := gg_in 217 (by decide +kernel) (by decide +kernel)
theorem gw_218 : Cond.fieldLink "StarChart$Image" 20 "StarChart$Image" "course" "LStarChart$Course;" ∈ GG := gg_in 218 (by decide +kernel) (by decide +kernel)
theorem gw_219 : Cond.fieldLink "StarChart" 280 "StarChart$Image" "course" "LStarChart$Course;" ∈ GG := gg_in 219 (by decide +kernel) (by decide +kernel)
theorem gw_220 : Cond.lays "StarChart$Image" "StarChart$Image" "kept" "Z" ∈ GG := gg_in 220 (by decide +kernel) (by decide +kernel)
theorem gw_222 : Cond.lays "StarChart$Image" "StarChart$Image" "chance" "I" ∈ GG := gg_in 222 (by decide +kernel) (by decide +kernel)
theorem gw_224 : Cond.laysFinal "StarChart$Image" "StarChart$Image" "course" "LStarChart$Course;" ∈ GG := gg_in 224 (by decide +kernel) (by decide +kernel)
theorem gw_227 : Cond.classLink "StarChart" 44 "StarChart$Trials" ∈ GG := gg_in 227 (by decide +kernel) (by decide +kernel)
theorem gw_228 : Cond.instantiable "StarChart$Trials" 3 ∈ GG := gg_in 228 (by decide +kernel) (by decide +kernel)
theorem lt_229 : Cond.methodLinkNest "StarChart" 46 ⟨"StarChart$Trials","<init>","()V"⟩ "StarChart" ∈ lw_tbl := List.mem_of_getElem? (i := 229) (by decide +kernel)
theorem gw_230 : Cond.instanceMethod ⟨"StarChart$Trials","<init>","()V"⟩ ∈ GG := gg_in 230 (by decide +kernel) (by decide +kernel)
set_option maxRecDepth 20000 in
theorem gw_231 : Cond.code ⟨"StarChart$Trials","<init>","()V"⟩ prog_7_method_1_code 1 none ∈ GG := gg_in 231 rfl rfl
theorem gw_232 : Cond.methodLink "StarChart$Trials" 3 ⟨"java/lang/Object","<init>","()V"⟩ ∈ GG := gg_in 232 (by decide +kernel) (by decide +kernel)
theorem gw_233 : Cond.fieldLink "StarChart$Trials" 9 "StarChart$Trials" "many" "I" ∈ GG := gg_in 233 (by decide +kernel) (by decide +kernel)
theorem gw_234 : Cond.fieldLink "StarChart" 243 "StarChart$Trials" "many" "I" ∈ GG := gg_in 234 (by decide +kernel) (by decide +kernel)
theorem gw_235 : Cond.fieldLink "StarChart$Trials" 15 "StarChart$Trials" "sort" "[I" ∈ GG := gg_in 235 (by decide +kernel) (by decide +kernel)
theorem gw_236 : Cond.fieldLink "StarChart$Trials" 19 "StarChart$Trials" "came" "[I" ∈ GG := gg_in 236 (by decide +kernel) (by decide +kernel)
theorem gw_237 : Cond.lays "StarChart$Trials" "StarChart$Trials" "many" "I" ∈ GG := gg_in 237 (by decide +kernel) (by decide +kernel)
theorem gw_239 : Cond.laysFinal "StarChart$Trials" "StarChart$Trials" "sort" "[I" ∈ GG := gg_in 239 (by decide +kernel) (by decide +kernel)
theorem gw_241 : Cond.laysFinal "StarChart$Trials" "StarChart$Trials" "came" "[I" ∈ GG := gg_in 241 (by decide +kernel) (by decide +kernel)
theorem gw_244 : Cond.classLink "StarChart" 51 "StarChart$Jar" ∈ GG := gg_in 244 (by decide +kernel) (by decide +kernel)
theorem gw_245 : Cond.instantiable "StarChart$Jar" 5 ∈ GG := gg_in 245 (by decide +kernel) (by decide +kernel)
theorem lt_246 : Cond.methodLinkNest "StarChart" 53 ⟨"StarChart$Jar","<init>","()V"⟩ "StarChart" ∈ lw_tbl := List.mem_of_getElem? (i := 246) (by decide +kernel)
theorem gw_247 : Cond.instanceMethod ⟨"StarChart$Jar","<init>","()V"⟩ ∈ GG := gg_in 247 (by decide +kernel) (by decide +kernel)
set_option maxRecDepth 20000 in
theorem gw_248 : Cond.code ⟨"StarChart$Jar","<init>","()V"⟩ prog_4_method_1_code 1 none ∈ GG := gg_in 248 rfl rfl
theorem gw_249 : Cond.methodLink "StarChart$Jar" 3 ⟨"java/lang/Object","<init>","()V"⟩ ∈ GG := gg_in 249 (by decide +kernel) (by decide +kernel)
theorem gw_250 : Cond.fieldLink "StarChart$Jar" 29 "StarChart$Jar" "goal" "I" ∈ GG := gg_in 250 (by decide +kernel) (by decide +kernel)
theorem gw_251 : Cond.fieldLink "StarChart" 286 "StarChart$Jar" "goal" "I" ∈ GG := gg_in 251 (by decide +kernel) (by decide +kernel)
theorem gw_252 : Cond.fieldLink "StarChart$Jar" 21 "StarChart$Jar" "children" "I" ∈ GG := gg_in 252 (by decide +kernel) (by decide +kernel)
theorem gw_253 : Cond.fieldLink "StarChart" 289 "StarChart$Jar" "children" "I" ∈ GG := gg_in 253 (by decide +kernel) (by decide +kernel)
theorem gw_254 : Cond.fieldLink "StarChart$Jar" 9 "StarChart$Jar" "pages" "[I" ∈ GG := gg_in 254 (by decide +kernel) (by decide +kernel)
theorem gw_255 : Cond.fieldLink "StarChart" 290 "StarChart$Jar" "pages" "[I" ∈ GG := gg_in 255 (by decide +kernel) (by decide +kernel)
theorem gw_256 : Cond.fieldLink "StarChart$Jar" 15 "StarChart$Jar" "gain" "[I" ∈ GG := gg_in 256 (by decide +kernel) (by decide +kernel)
theorem gw_257 : Cond.fieldLink "StarChart" 291 "StarChart$Jar" "gain" "[I" ∈ GG := gg_in 257 (by decide +kernel) (by decide +kernel)
theorem gw_258 : Cond.fieldLink "StarChart$Jar" 18 "StarChart$Jar" "prize" "[I" ∈ GG := gg_in 258 (by decide +kernel) (by decide +kernel)
theorem gw_259 : Cond.fieldLink "StarChart" 294 "StarChart$Jar" "prize" "[I" ∈ GG := gg_in 259 (by decide +kernel) (by decide +kernel)
theorem gw_260 : Cond.lays "StarChart$Jar" "StarChart$Jar" "goal" "I" ∈ GG := gg_in 260 (by decide +kernel) (by decide +kernel)
theorem gw_262 : Cond.lays "StarChart$Jar" "StarChart$Jar" "children" "I" ∈ GG := gg_in 262 (by decide +kernel) (by decide +kernel)
theorem gw_264 : Cond.laysFinal "StarChart$Jar" "StarChart$Jar" "pages" "[I" ∈ GG := gg_in 264 (by decide +kernel) (by decide +kernel)
theorem gw_266 : Cond.laysFinal "StarChart$Jar" "StarChart$Jar" "gain" "[I" ∈ GG := gg_in 266 (by decide +kernel) (by decide +kernel)
theorem gw_268 : Cond.laysFinal "StarChart$Jar" "StarChart$Jar" "prize" "[I" ∈ GG := gg_in 268 (by decide +kernel) (by decide +kernel)
theorem gw_271 : Cond.fieldLink "StarChart" 72 "StarChart" "TUNE_FIRST" "[I" ∈ GG := gg_in 271 (by decide +kernel) (by decide +kernel)
theorem lt_272 : Cond.laysStatic "StarChart" "TUNE_FIRST" "[I" ∈ lw_tbl := List.mem_of_getElem? (i := 272) (by decide +kernel)
theorem gw_273 : Cond.methodLink "StarChart" 75 ⟨"java/lang/System","arraycopy","(Ljava/lang/Object;ILjava/lang/Object;II)V"⟩ ∈ GG := gg_in 273 (by decide +kernel) (by decide +kernel)
theorem gw_274 : Cond.static ⟨"java/lang/System","arraycopy","(Ljava/lang/Object;ILjava/lang/Object;II)V"⟩ ∈ GG := gg_in 274 (by decide +kernel) (by decide +kernel)
theorem gw_275 : Cond.native ⟨"java/lang/System","arraycopy","(Ljava/lang/Object;ILjava/lang/Object;II)V"⟩ ∈ GG := gg_in 275 (by decide +kernel) (by decide +kernel)
theorem gw_276 : Cond.methodLink "StarChart" 81 ⟨"StarChart$Sheet","wipe","()V"⟩ ∈ GG := gg_in 276 (by decide +kernel) (by decide +kernel)
theorem gw_277 : Cond.instanceMethod ⟨"StarChart$Sheet","wipe","()V"⟩ ∈ GG := gg_in 277 (by decide +kernel) (by decide +kernel)
theorem gw_278 : Cond.selects "StarChart$Sheet" ⟨"StarChart$Sheet","wipe","()V"⟩ ⟨"StarChart$Sheet","wipe","()V"⟩ ∈ GG := gg_in 278 (by decide +kernel) (by decide +kernel)
set_option maxRecDepth 20000 in
theorem gw_279 : Cond.code ⟨"StarChart$Sheet","wipe","()V"⟩ prog_6_method_2_code 1 none ∈ GG := gg_in 279 rfl rfl
theorem gw_280 : Cond.methodLink "StarChart$Sheet" 37 ⟨"StarChart$Sheet","schedule","(IIZI)V"⟩ ∈ GG := gg_in 280 (by decide +kernel) (by decide +kernel)
theorem gw_281 : Cond.instanceMethod ⟨"StarChart$Sheet","schedule","(IIZI)V"⟩ ∈ GG := gg_in 281 (by decide +kernel) (by decide +kernel)
theorem gw_282 : Cond.selects "StarChart$Sheet" ⟨"StarChart$Sheet","schedule","(IIZI)V"⟩ ⟨"StarChart$Sheet","schedule","(IIZI)V"⟩ ∈ GG := gg_in 282 (by decide +kernel) (by decide +kernel)
set_option maxRecDepth 20000 in
theorem gw_283 : Cond.code ⟨"StarChart$Sheet","schedule","(IIZI)V"⟩ prog_6_method_3_code 5 none ∈ GG := gg_in 283 rfl rfl
theorem gw_284 : Cond.methodLink "StarChart$Sheet" 41 ⟨"StarChart$Sheet","payNothing","()V"⟩ ∈ GG := gg_in 284 (by decide +kernel) (by decide +kernel)
theorem gw_285 : Cond.instanceMethod ⟨"StarChart$Sheet","payNothing","()V"⟩ ∈ GG := gg_in 285 (by decide +kernel) (by decide +kernel)
theorem gw_286 : Cond.selects "StarChart$Sheet" ⟨"StarChart$Sheet","payNothing","()V"⟩ ⟨"StarChart$Sheet","payNothing","()V"⟩ ∈ GG := gg_in 286 (by decide +kernel) (by decide +kernel)
set_option maxRecDepth 20000 in
theorem gw_287 : Cond.code ⟨"StarChart$Sheet","payNothing","()V"⟩ prog_6_method_5_code 2 none ∈ GG := gg_in 287 rfl rfl
theorem gw_288 : Cond.methodLink "StarChart" 84 ⟨"StarChart$Course","begin","(LStarChart$Sheet;I)V"⟩ ∈ GG := gg_in 288 (by decide +kernel) (by decide +kernel)
theorem gw_289 : Cond.instanceMethod ⟨"StarChart$Course","begin","(LStarChart$Sheet;I)V"⟩ ∈ GG := gg_in 289 (by decide +kernel) (by decide +kernel)
theorem gw_290 : Cond.selects "StarChart$Course" ⟨"StarChart$Course","begin","(LStarChart$Sheet;I)V"⟩ ⟨"StarChart$Course","begin","(LStarChart$Sheet;I)V"⟩ ∈ GG := gg_in 290 (by decide +kernel) (by decide +kernel)
set_option maxRecDepth 20000 in
theorem gw_291 : Cond.code ⟨"StarChart$Course","begin","(LStarChart$Sheet;I)V"⟩ prog_2_method_2_code 4 none ∈ GG := gg_in 291 rfl rfl
theorem gw_292 : Cond.fieldLink "StarChart" 10 "StarChart" "sheet" "LStarChart$Sheet;" ∈ GG := gg_in 292 (by decide +kernel) (by decide +kernel)
theorem gw_293 : Cond.fieldLink "StarChart" 19 "StarChart" "reader" "LStarChart$Reader;" ∈ GG := gg_in 293 (by decide +kernel) (by decide +kernel)
theorem gw_294 : Cond.fieldLink "StarChart" 26 "StarChart" "today" "LStarChart$Course;" ∈ GG := gg_in 294 (by decide +kernel) (by decide +kernel)
theorem gw_295 : Cond.fieldLink "StarChart" 30 "StarChart" "tunes" "[I" ∈ GG := gg_in 295 (by decide +kernel) (by decide +kernel)
theorem gw_296 : Cond.fieldLink "StarChart" 37 "StarChart" "first" "LStarChart$Image;" ∈ GG := gg_in 296 (by decide +kernel) (by decide +kernel)
theorem gw_297 : Cond.fieldLink "StarChart" 41 "StarChart" "second" "LStarChart$Image;" ∈ GG := gg_in 297 (by decide +kernel) (by decide +kernel)
theorem gw_298 : Cond.fieldLink "StarChart" 47 "StarChart" "trials" "LStarChart$Trials;" ∈ GG := gg_in 298 (by decide +kernel) (by decide +kernel)
theorem gw_299 : Cond.fieldLink "StarChart" 54 "StarChart" "jar" "LStarChart$Jar;" ∈ GG := gg_in 299 (by decide +kernel) (by decide +kernel)
theorem gw_300 : Cond.fieldLink "StarChart" 58 "StarChart" "guess" "LStarChart$Sheet;" ∈ GG := gg_in 300 (by decide +kernel) (by decide +kernel)
theorem gw_301 : Cond.fieldLink "StarChart" 61 "StarChart" "dream" "LStarChart$Course;" ∈ GG := gg_in 301 (by decide +kernel) (by decide +kernel)
theorem gw_302 : Cond.fieldLink "StarChart" 64 "StarChart" "chance" "I" ∈ GG := gg_in 302 (by decide +kernel) (by decide +kernel)
theorem gw_303 : Cond.fieldLink "StarChart" 68 "StarChart" "asked" "J" ∈ GG := gg_in 303 (by decide +kernel) (by decide +kernel)
theorem gw_304 : Cond.laysFinal "StarChart" "StarChart" "sheet" "LStarChart$Sheet;" ∈ GG := gg_in 304 (by decide +kernel) (by decide +kernel)
theorem gw_306 : Cond.laysFinal "StarChart" "StarChart" "reader" "LStarChart$Reader;" ∈ GG := gg_in 306 (by decide +kernel) (by decide +kernel)
theorem gw_308 : Cond.laysFinal "StarChart" "StarChart" "today" "LStarChart$Course;" ∈ GG := gg_in 308 (by decide +kernel) (by decide +kernel)
theorem gw_310 : Cond.laysFinal "StarChart" "StarChart" "tunes" "[I" ∈ GG := gg_in 310 (by decide +kernel) (by decide +kernel)
theorem gw_312 : Cond.laysFinal "StarChart" "StarChart" "first" "LStarChart$Image;" ∈ GG := gg_in 312 (by decide +kernel) (by decide +kernel)
theorem gw_314 : Cond.laysFinal "StarChart" "StarChart" "second" "LStarChart$Image;" ∈ GG := gg_in 314 (by decide +kernel) (by decide +kernel)
theorem gw_316 : Cond.laysFinal "StarChart" "StarChart" "trials" "LStarChart$Trials;" ∈ GG := gg_in 316 (by decide +kernel) (by decide +kernel)
theorem gw_318 : Cond.laysFinal "StarChart" "StarChart" "jar" "LStarChart$Jar;" ∈ GG := gg_in 318 (by decide +kernel) (by decide +kernel)
theorem gw_320 : Cond.laysFinal "StarChart" "StarChart" "guess" "LStarChart$Sheet;" ∈ GG := gg_in 320 (by decide +kernel) (by decide +kernel)
theorem gw_322 : Cond.laysFinal "StarChart" "StarChart" "dream" "LStarChart$Course;" ∈ GG := gg_in 322 (by decide +kernel) (by decide +kernel)
theorem gw_324 : Cond.lays "StarChart" "StarChart" "chance" "I" ∈ GG := gg_in 324 (by decide +kernel) (by decide +kernel)
theorem gw_326 : Cond.lays "StarChart" "StarChart" "asked" "J" ∈ GG := gg_in 326 (by decide +kernel) (by decide +kernel)
theorem gw_329 : Cond.methodLink "StarChartLaw" 15 ⟨"StarChart","type","(JI)I"⟩ ∈ GG := gg_in 329 (by decide +kernel) (by decide +kernel)
theorem gw_330 : Cond.instanceMethod ⟨"StarChart","type","(JI)I"⟩ ∈ GG := gg_in 330 (by decide +kernel) (by decide +kernel)
theorem gw_331 : Cond.selects "StarChart" ⟨"StarChart","type","(JI)I"⟩ ⟨"StarChart","type","(JI)I"⟩ ∈ GG := gg_in 331 (by decide +kernel) (by decide +kernel)
set_option maxRecDepth 20000 in
theorem gw_332 : Cond.code ⟨"StarChart","type","(JI)I"⟩ prog_1_method_2_code 4 (some .int) ∈ GG := gg_in 332 rfl rfl
theorem gw_333 : Cond.methodLink "StarChart" 88 ⟨"StarChart","within","(III)Z"⟩ ∈ GG := gg_in 333 (by decide +kernel) (by decide +kernel)
theorem gw_334 : Cond.static ⟨"StarChart","within","(III)Z"⟩ ∈ GG := gg_in 334 (by decide +kernel) (by decide +kernel)
set_option maxRecDepth 20000 in
theorem gw_335 : Cond.code ⟨"StarChart","within","(III)Z"⟩ prog_1_method_36_code 3 (some .boolean) ∈ GG := gg_in 335 rfl rfl
theorem gw_336 : Cond.methodLink "StarChart" 92 ⟨"StarChart$Reader","hear","(JI)Z"⟩ ∈ GG := gg_in 336 (by decide +kernel) (by decide +kernel)
theorem gw_337 : Cond.instanceMethod ⟨"StarChart$Reader","hear","(JI)Z"⟩ ∈ GG := gg_in 337 (by decide +kernel) (by decide +kernel)
theorem gw_338 : Cond.selects "StarChart$Reader" ⟨"StarChart$Reader","hear","(JI)Z"⟩ ⟨"StarChart$Reader","hear","(JI)Z"⟩ ∈ GG := gg_in 338 (by decide +kernel) (by decide +kernel)
set_option maxRecDepth 20000 in
theorem gw_339 : Cond.code ⟨"StarChart$Reader","hear","(JI)Z"⟩ prog_5_method_2_code 5 (some .boolean) ∈ GG := gg_in 339 rfl rfl
theorem gw_340 : Cond.methodLink "StarChartLaw" 20 ⟨"StarChart","clear","()I"⟩ ∈ GG := gg_in 340 (by decide +kernel) (by decide +kernel)
theorem gw_341 : Cond.instanceMethod ⟨"StarChart","clear","()I"⟩ ∈ GG := gg_in 341 (by decide +kernel) (by decide +kernel)
theorem gw_342 : Cond.selects "StarChart" ⟨"StarChart","clear","()I"⟩ ⟨"StarChart","clear","()I"⟩ ∈ GG := gg_in 342 (by decide +kernel) (by decide +kernel)
set_option maxRecDepth 20000 in
theorem gw_343 : Cond.code ⟨"StarChart","clear","()I"⟩ prog_1_method_3_code 2 (some .int) ∈ GG := gg_in 343 rfl rfl
theorem gw_344 : Cond.methodLink "StarChartLaw" 25 ⟨"StarChart","chart","()I"⟩ ∈ GG := gg_in 344 (by decide +kernel) (by decide +kernel)
theorem gw_345 : Cond.instanceMethod ⟨"StarChart","chart","()I"⟩ ∈ GG := gg_in 345 (by decide +kernel) (by decide +kernel)
theorem gw_346 : Cond.selects "StarChart" ⟨"StarChart","chart","()I"⟩ ⟨"StarChart","chart","()I"⟩ ∈ GG := gg_in 346 (by decide +kernel) (by decide +kernel)
set_option maxRecDepth 20000 in
theorem gw_347 : Cond.code ⟨"StarChart","chart","()I"⟩ prog_1_method_4_code 2 (some .int) ∈ GG := gg_in 347 rfl rfl
theorem gw_348 : Cond.methodLink "StarChart" 99 ⟨"StarChart$Reader","readItems","()I"⟩ ∈ GG := gg_in 348 (by decide +kernel) (by decide +kernel)
theorem gw_349 : Cond.instanceMethod ⟨"StarChart$Reader","readItems","()I"⟩ ∈ GG := gg_in 349 (by decide +kernel) (by decide +kernel)
theorem gw_350 : Cond.selects "StarChart$Reader" ⟨"StarChart$Reader","readItems","()I"⟩ ⟨"StarChart$Reader","readItems","()I"⟩ ∈ GG := gg_in 350 (by decide +kernel) (by decide +kernel)
set_option maxRecDepth 20000 in
theorem gw_351 : Cond.code ⟨"StarChart$Reader","readItems","()I"⟩ prog_5_method_3_code 2 (some .int) ∈ GG := gg_in 351 rfl rfl
theorem gw_352 : Cond.methodLink "StarChart$Reader" 32 ⟨"StarChart$Reader","cut","()V"⟩ ∈ GG := gg_in 352 (by decide +kernel) (by decide +kernel)
theorem gw_354 : Cond.instanceMethod ⟨"StarChart$Reader","cut","()V"⟩ ∈ GG := gg_in 354 (by decide +kernel) (by decide +kernel)
set_option maxRecDepth 20000 in
theorem gw_355 : Cond.code ⟨"StarChart$Reader","cut","()V"⟩ prog_5_method_5_code 4 none ∈ GG := gg_in 355 rfl rfl
theorem gw_356 : Cond.methodLink "StarChart$Reader" 57 ⟨"StarChart$Reader","rowEnd","(I)I"⟩ ∈ GG := gg_in 356 (by decide +kernel) (by decide +kernel)
theorem gw_358 : Cond.instanceMethod ⟨"StarChart$Reader","rowEnd","(I)I"⟩ ∈ GG := gg_in 358 (by decide +kernel) (by decide +kernel)
set_option maxRecDepth 20000 in
theorem gw_359 : Cond.code ⟨"StarChart$Reader","rowEnd","(I)I"⟩ prog_5_method_8_code 5 (some .int) ∈ GG := gg_in 359 rfl rfl
theorem gw_360 : Cond.methodLink "StarChart$Reader" 65 ⟨"StarChart$Reader","isLetter","(I)Z"⟩ ∈ GG := gg_in 360 (by decide +kernel) (by decide +kernel)
theorem gw_361 : Cond.static ⟨"StarChart$Reader","isLetter","(I)Z"⟩ ∈ GG := gg_in 361 (by decide +kernel) (by decide +kernel)
set_option maxRecDepth 20000 in
theorem gw_362 : Cond.code ⟨"StarChart$Reader","isLetter","(I)Z"⟩ prog_5_method_6_code 1 (some .boolean) ∈ GG := gg_in 362 rfl rfl
theorem gw_363 : Cond.methodLink "StarChart$Reader" 68 ⟨"StarChart$Reader","isDigit","(I)Z"⟩ ∈ GG := gg_in 363 (by decide +kernel) (by decide +kernel)
theorem gw_364 : Cond.static ⟨"StarChart$Reader","isDigit","(I)Z"⟩ ∈ GG := gg_in 364 (by decide +kernel) (by decide +kernel)
set_option maxRecDepth 20000 in
theorem gw_365 : Cond.code ⟨"StarChart$Reader","isDigit","(I)Z"⟩ prog_5_method_7_code 1 (some .boolean) ∈ GG := gg_in 365 rfl rfl
theorem gw_366 : Cond.methodLink "StarChart$Reader" 61 ⟨"StarChart$Reader","tokenOf","(II)I"⟩ ∈ GG := gg_in 366 (by decide +kernel) (by decide +kernel)
theorem gw_368 : Cond.instanceMethod ⟨"StarChart$Reader","tokenOf","(II)I"⟩ ∈ GG := gg_in 368 (by decide +kernel) (by decide +kernel)
set_option maxRecDepth 20000 in
theorem gw_369 : Cond.code ⟨"StarChart$Reader","tokenOf","(II)I"⟩ prog_5_method_9_code 3 (some .int) ∈ GG := gg_in 369 rfl rfl
theorem gw_370 : Cond.methodLink "StarChart$Reader" 71 ⟨"StarChart$Reader","numberOf","(II)I"⟩ ∈ GG := gg_in 370 (by decide +kernel) (by decide +kernel)
theorem gw_372 : Cond.instanceMethod ⟨"StarChart$Reader","numberOf","(II)I"⟩ ∈ GG := gg_in 372 (by decide +kernel) (by decide +kernel)
set_option maxRecDepth 20000 in
theorem gw_373 : Cond.code ⟨"StarChart$Reader","numberOf","(II)I"⟩ prog_5_method_10_code 5 (some .int) ∈ GG := gg_in 373 rfl rfl
theorem lt_374 : Cond.stringRef "StarChart$Reader" 74 "child" ∈ lw_tbl := List.mem_of_getElem? (i := 374) (by decide +kernel)
theorem gw_375 : Cond.methodLink "StarChart$Reader" 76 ⟨"StarChart$Reader","spells","(IILjava/lang/String;)Z"⟩ ∈ GG := gg_in 375 (by decide +kernel) (by decide +kernel)
theorem gw_377 : Cond.instanceMethod ⟨"StarChart$Reader","spells","(IILjava/lang/String;)Z"⟩ ∈ GG := gg_in 377 (by decide +kernel) (by decide +kernel)
set_option maxRecDepth 20000 in
theorem gw_378 : Cond.code ⟨"StarChart$Reader","spells","(IILjava/lang/String;)Z"⟩ prog_5_method_11_code 5 (some .boolean) ∈ GG := gg_in 378 rfl rfl
theorem gw_379 : Cond.methodLink "StarChart$Reader" 90 ⟨"java/lang/String","length","()I"⟩ ∈ GG := gg_in 379 (by decide +kernel) (by decide +kernel)
theorem gw_380 : Cond.instanceMethod ⟨"java/lang/String","length","()I"⟩ ∈ GG := gg_in 380 (by decide +kernel) (by decide +kernel)
theorem gw_381 : Cond.selects "java/lang/String" ⟨"java/lang/String","length","()I"⟩ ⟨"java/lang/String","length","()I"⟩ ∈ GG := gg_in 381 (by decide +kernel) (by decide +kernel)
set_option maxRecDepth 20000 in
theorem gw_382 : Cond.code ⟨"java/lang/String","length","()I"⟩ prog_11_method_54_code 1 (some .int) ∈ GG := gg_in 382 rfl rfl
theorem gw_383 : Cond.methodLink "java/lang/String" 335 ⟨"java/lang/String","coder","()B"⟩ ∈ GG := gg_in 383 (by decide +kernel) (by decide +kernel)
theorem gw_384 : Cond.instanceMethod ⟨"java/lang/String","coder","()B"⟩ ∈ GG := gg_in 384 (by decide +kernel) (by decide +kernel)
theorem gw_385 : Cond.selects "java/lang/String" ⟨"java/lang/String","coder","()B"⟩ ⟨"java/lang/String","coder","()B"⟩ ∈ GG := gg_in 385 (by decide +kernel) (by decide +kernel)
set_option maxRecDepth 20000 in
theorem gw_386 : Cond.code ⟨"java/lang/String","coder","()B"⟩ prog_11_method_152_code 1 (some .byte) ∈ GG := gg_in 386 rfl rfl
theorem gw_387 : Cond.fieldLink "java/lang/String" 38 "java/lang/String" "COMPACT_STRINGS" "Z" ∈ GG := gg_in 387 (by decide +kernel) (by decide +kernel)
theorem lt_388 : Cond.laysStatic "java/lang/String" "COMPACT_STRINGS" "Z" ∈ lw_tbl := List.mem_of_getElem? (i := 388) (by decide +kernel)
theorem gw_389 : Cond.methodLink "StarChart$Reader" 94 ⟨"java/lang/String","charAt","(I)C"⟩ ∈ GG := gg_in 389 (by decide +kernel) (by decide +kernel)
theorem gw_390 : Cond.instanceMethod ⟨"java/lang/String","charAt","(I)C"⟩ ∈ GG := gg_in 390 (by decide +kernel) (by decide +kernel)
theorem gw_391 : Cond.selects "java/lang/String" ⟨"java/lang/String","charAt","(I)C"⟩ ⟨"java/lang/String","charAt","(I)C"⟩ ∈ GG := gg_in 391 (by decide +kernel) (by decide +kernel)
set_option maxRecDepth 20000 in
theorem gw_392 : Cond.code ⟨"java/lang/String","charAt","(I)C"⟩ prog_11_method_56_code 2 (some .char) ∈ GG := gg_in 392 rfl rfl
theorem gw_393 : Cond.methodLink "java/lang/String" 492 ⟨"java/lang/String","isLatin1","()Z"⟩ ∈ GG := gg_in 393 (by decide +kernel) (by decide +kernel)
theorem gw_394 : Cond.instanceMethod ⟨"java/lang/String","isLatin1","()Z"⟩ ∈ GG := gg_in 394 (by decide +kernel) (by decide +kernel)
theorem gw_395 : Cond.selects "java/lang/String" ⟨"java/lang/String","isLatin1","()Z"⟩ ⟨"java/lang/String","isLatin1","()Z"⟩ ∈ GG := gg_in 395 (by decide +kernel) (by decide +kernel)
set_option maxRecDepth 20000 in
theorem gw_396 : Cond.code ⟨"java/lang/String","isLatin1","()Z"⟩ prog_11_method_154_code 1 (some .boolean) ∈ GG := gg_in 396 rfl rfl
theorem gw_397 : Cond.methodLink "java/lang/String" 495 ⟨"java/lang/StringLatin1","charAt","([BI)C"⟩ ∈ GG := gg_in 397 (by decide +kernel) (by decide +kernel)
theorem gw_398 : Cond.static ⟨"java/lang/StringLatin1","charAt","([BI)C"⟩ ∈ GG := gg_in 398 (by decide +kernel) (by decide +kernel)
set_option maxRecDepth 20000 in
theorem gw_399 : Cond.code ⟨"java/lang/StringLatin1","charAt","([BI)C"⟩ prog_12_method_2_code 2 (some .char) ∈ GG := gg_in 399 rfl rfl
theorem gw_400 : Cond.methodLink "java/lang/StringLatin1" 9 ⟨"java/lang/String","checkIndex","(II)V"⟩ ∈ GG := gg_in 400 (by decide +kernel) (by decide +kernel)
theorem gw_401 : Cond.static ⟨"java/lang/String","checkIndex","(II)V"⟩ ∈ GG := gg_in 401 (by decide +kernel) (by decide +kernel)
set_option maxRecDepth 20000 in
theorem gw_402 : Cond.code ⟨"java/lang/String","checkIndex","(II)V"⟩ prog_11_method_155_code 2 none ∈ GG := gg_in 402 rfl rfl
theorem gw_403 : Cond.fieldLink "java/lang/String" 1053 "jdk/internal/util/Preconditions" "SIOOBE_FORMATTER" "Ljava/util/function/BiFunction;" ∈ GG := gg_in 403 (by decide +kernel) (by decide +kernel)
theorem lt_404 : Cond.laysStatic "jdk/internal/util/Preconditions" "SIOOBE_FORMATTER" "Ljava/util/function/BiFunction;" ∈ lw_tbl := List.mem_of_getElem? (i := 404) (by decide +kernel)
theorem gw_405 : Cond.methodLink "java/lang/String" 1059 ⟨"jdk/internal/util/Preconditions","checkIndex","(IILjava/util/function/BiFunction;)I"⟩ ∈ GG := gg_in 405 (by decide +kernel) (by decide +kernel)
theorem gw_406 : Cond.static ⟨"jdk/internal/util/Preconditions","checkIndex","(IILjava/util/function/BiFunction;)I"⟩ ∈ GG := gg_in 406 (by decide +kernel) (by decide +kernel)
set_option maxRecDepth 20000 in
theorem gw_407 : Cond.code ⟨"jdk/internal/util/Preconditions","checkIndex","(IILjava/util/function/BiFunction;)I"⟩ prog_15_method_11_code 3 (some .int) ∈ GG := gg_in 407 rfl rfl
theorem gw_408 : Cond.methodLink "java/lang/String" 498 ⟨"java/lang/StringUTF16","charAt","([BI)C"⟩ ∈ GG := gg_in 408 (by decide +kernel) (by decide +kernel)
theorem gw_409 : Cond.static ⟨"java/lang/StringUTF16","charAt","([BI)C"⟩ ∈ GG := gg_in 409 (by decide +kernel) (by decide +kernel)
set_option maxRecDepth 20000 in
theorem gw_410 : Cond.code ⟨"java/lang/StringUTF16","charAt","([BI)C"⟩ prog_13_method_83_code 2 (some .char) ∈ GG := gg_in 410 rfl rfl
theorem gw_411 : Cond.methodLink "java/lang/StringUTF16" 67 ⟨"java/lang/StringUTF16","checkIndex","(I[B)V"⟩ ∈ GG := gg_in 411 (by decide +kernel) (by decide +kernel)
theorem gw_412 : Cond.static ⟨"java/lang/StringUTF16","checkIndex","(I[B)V"⟩ ∈ GG := gg_in 412 (by decide +kernel) (by decide +kernel)
set_option maxRecDepth 20000 in
theorem gw_413 : Cond.code ⟨"java/lang/StringUTF16","checkIndex","(I[B)V"⟩ prog_13_method_91_code 2 none ∈ GG := gg_in 413 rfl rfl
theorem gw_414 : Cond.methodLink "java/lang/StringUTF16" 48 ⟨"java/lang/StringUTF16","length","([B)I"⟩ ∈ GG := gg_in 414 (by decide +kernel) (by decide +kernel)
theorem gw_415 : Cond.static ⟨"java/lang/StringUTF16","length","([B)I"⟩ ∈ GG := gg_in 415 (by decide +kernel) (by decide +kernel)
set_option maxRecDepth 20000 in
theorem gw_416 : Cond.code ⟨"java/lang/StringUTF16","length","([B)I"⟩ prog_13_method_6_code 1 (some .int) ∈ GG := gg_in 416 rfl rfl
theorem gw_417 : Cond.methodLink "java/lang/StringUTF16" 414 ⟨"java/lang/String","checkIndex","(II)V"⟩ ∈ GG := gg_in 417 (by decide +kernel) (by decide +kernel)
theorem gw_418 : Cond.methodLink "java/lang/StringUTF16" 71 ⟨"java/lang/StringUTF16","getChar","([BI)C"⟩ ∈ GG := gg_in 418 (by decide +kernel) (by decide +kernel)
theorem gw_419 : Cond.static ⟨"java/lang/StringUTF16","getChar","([BI)C"⟩ ∈ GG := gg_in 419 (by decide +kernel) (by decide +kernel)
set_option maxRecDepth 20000 in
theorem gw_420 : Cond.code ⟨"java/lang/StringUTF16","getChar","([BI)C"⟩ prog_13_method_5_code 2 (some .char) ∈ GG := gg_in 420 rfl rfl
theorem gw_421 : Cond.fieldLink "java/lang/StringUTF16" 44 "java/lang/StringUTF16" "$assertionsDisabled" "Z" ∈ GG := gg_in 421 (by decide +kernel) (by decide +kernel)
theorem lt_422 : Cond.laysStatic "java/lang/StringUTF16" "$assertionsDisabled" "Z" ∈ lw_tbl := List.mem_of_getElem? (i := 422) (by decide +kernel)
theorem gw_423 : Cond.fieldLink "java/lang/StringUTF16" 59 "java/lang/StringUTF16" "HI_BYTE_SHIFT" "I" ∈ GG := gg_in 423 (by decide +kernel) (by decide +kernel)
theorem lt_424 : Cond.laysStatic "java/lang/StringUTF16" "HI_BYTE_SHIFT" "I" ∈ lw_tbl := List.mem_of_getElem? (i := 424) (by decide +kernel)
theorem gw_425 : Cond.fieldLink "java/lang/StringUTF16" 63 "java/lang/StringUTF16" "LO_BYTE_SHIFT" "I" ∈ GG := gg_in 425 (by decide +kernel) (by decide +kernel)
theorem lt_426 : Cond.laysStatic "java/lang/StringUTF16" "LO_BYTE_SHIFT" "I" ∈ lw_tbl := List.mem_of_getElem? (i := 426) (by decide +kernel)
theorem lt_427 : Cond.stringRef "StarChart$Reader" 80 "book" ∈ lw_tbl := List.mem_of_getElem? (i := 427) (by decide +kernel)
theorem lt_428 : Cond.stringRef "StarChart$Reader" 82 "plan" ∈ lw_tbl := List.mem_of_getElem? (i := 428) (by decide +kernel)
theorem lt_429 : Cond.stringRef "StarChart$Reader" 84 "after" ∈ lw_tbl := List.mem_of_getElem? (i := 429) (by decide +kernel)
theorem lt_430 : Cond.stringRef "StarChart$Reader" 86 "thin" ∈ lw_tbl := List.mem_of_getElem? (i := 430) (by decide +kernel)
theorem lt_431 : Cond.stringRef "StarChart$Reader" 88 "pay" ∈ lw_tbl := List.mem_of_getElem? (i := 431) (by decide +kernel)
theorem gw_432 : Cond.methodLink "StarChart$Reader" 35 ⟨"StarChart$Sheet","wipe","()V"⟩ ∈ GG := gg_in 432 (by decide +kernel) (by decide +kernel)
theorem gw_433 : Cond.methodLink "StarChart$Reader" 45 ⟨"StarChart$Reader","seen","()I"⟩ ∈ GG := gg_in 433 (by decide +kernel) (by decide +kernel)
theorem gw_435 : Cond.instanceMethod ⟨"StarChart$Reader","seen","()I"⟩ ∈ GG := gg_in 435 (by decide +kernel) (by decide +kernel)
set_option maxRecDepth 20000 in
theorem gw_436 : Cond.code ⟨"StarChart$Reader","seen","()I"⟩ prog_5_method_12_code 1 (some .int) ∈ GG := gg_in 436 rfl rfl
theorem gw_437 : Cond.methodLink "StarChart$Reader" 49 ⟨"StarChart$Reader","readItem","()Z"⟩ ∈ GG := gg_in 437 (by decide +kernel) (by decide +kernel)
theorem gw_439 : Cond.instanceMethod ⟨"StarChart$Reader","readItem","()Z"⟩ ∈ GG := gg_in 439 (by decide +kernel) (by decide +kernel)
set_option maxRecDepth 20000 in
theorem gw_440 : Cond.code ⟨"StarChart$Reader","readItem","()Z"⟩ prog_5_method_15_code 1 (some .boolean) ∈ GG := gg_in 440 rfl rfl
theorem gw_441 : Cond.methodLink "StarChart$Reader" 105 ⟨"StarChart$Reader","readChild","()Z"⟩ ∈ GG := gg_in 441 (by decide +kernel) (by decide +kernel)
theorem gw_443 : Cond.instanceMethod ⟨"StarChart$Reader","readChild","()Z"⟩ ∈ GG := gg_in 443 (by decide +kernel) (by decide +kernel)
set_option maxRecDepth 20000 in
theorem gw_444 : Cond.code ⟨"StarChart$Reader","readChild","()Z"⟩ prog_5_method_16_code 4 (some .boolean) ∈ GG := gg_in 444 rfl rfl
theorem gw_445 : Cond.methodLink "StarChart$Reader" 120 ⟨"StarChart$Reader","readNumber","(II)I"⟩ ∈ GG := gg_in 445 (by decide +kernel) (by decide +kernel)
theorem gw_447 : Cond.instanceMethod ⟨"StarChart$Reader","readNumber","(II)I"⟩ ∈ GG := gg_in 447 (by decide +kernel) (by decide +kernel)
set_option maxRecDepth 20000 in
theorem gw_448 : Cond.code ⟨"StarChart$Reader","readNumber","(II)I"⟩ prog_5_method_13_code 4 (some .int) ∈ GG := gg_in 448 rfl rfl
theorem lt_449 : Cond.methodLinkNest "StarChart$Reader" 98 ⟨"StarChart","within","(III)Z"⟩ "StarChart" ∈ lw_tbl := List.mem_of_getElem? (i := 449) (by decide +kernel)
theorem gw_450 : Cond.methodLink "StarChart$Reader" 123 ⟨"StarChart$Sheet","addChild","(III)V"⟩ ∈ GG := gg_in 450 (by decide +kernel) (by decide +kernel)
theorem gw_451 : Cond.instanceMethod ⟨"StarChart$Sheet","addChild","(III)V"⟩ ∈ GG := gg_in 451 (by decide +kernel) (by decide +kernel)
theorem gw_452 : Cond.selects "StarChart$Sheet" ⟨"StarChart$Sheet","addChild","(III)V"⟩ ⟨"StarChart$Sheet","addChild","(III)V"⟩ ∈ GG := gg_in 452 (by decide +kernel) (by decide +kernel)
set_option maxRecDepth 20000 in
theorem gw_453 : Cond.code ⟨"StarChart$Sheet","addChild","(III)V"⟩ prog_6_method_6_code 4 none ∈ GG := gg_in 453 rfl rfl
theorem gw_454 : Cond.methodLink "StarChart$Reader" 111 ⟨"StarChart$Reader","readBook","()Z"⟩ ∈ GG := gg_in 454 (by decide +kernel) (by decide +kernel)
theorem gw_456 : Cond.instanceMethod ⟨"StarChart$Reader","readBook","()Z"⟩ ∈ GG := gg_in 456 (by decide +kernel) (by decide +kernel)
set_option maxRecDepth 20000 in
theorem gw_457 : Cond.code ⟨"StarChart$Reader","readBook","()Z"⟩ prog_5_method_17_code 3 (some .boolean) ∈ GG := gg_in 457 rfl rfl
theorem gw_458 : Cond.methodLink "StarChart$Reader" 127 ⟨"StarChart$Sheet","addSort","(II)V"⟩ ∈ GG := gg_in 458 (by decide +kernel) (by decide +kernel)
theorem gw_459 : Cond.instanceMethod ⟨"StarChart$Sheet","addSort","(II)V"⟩ ∈ GG := gg_in 459 (by decide +kernel) (by decide +kernel)
theorem gw_460 : Cond.selects "StarChart$Sheet" ⟨"StarChart$Sheet","addSort","(II)V"⟩ ⟨"StarChart$Sheet","addSort","(II)V"⟩ ∈ GG := gg_in 460 (by decide +kernel) (by decide +kernel)
set_option maxRecDepth 20000 in
theorem gw_461 : Cond.code ⟨"StarChart$Sheet","addSort","(II)V"⟩ prog_6_method_7_code 3 none ∈ GG := gg_in 461 rfl rfl
theorem gw_462 : Cond.methodLink "StarChart$Reader" 114 ⟨"StarChart$Reader","readPlan","()Z"⟩ ∈ GG := gg_in 462 (by decide +kernel) (by decide +kernel)
theorem gw_464 : Cond.instanceMethod ⟨"StarChart$Reader","readPlan","()Z"⟩ ∈ GG := gg_in 464 (by decide +kernel) (by decide +kernel)
set_option maxRecDepth 20000 in
theorem gw_465 : Cond.code ⟨"StarChart$Reader","readPlan","()Z"⟩ prog_5_method_18_code 5 (some .boolean) ∈ GG := gg_in 465 rfl rfl
theorem gw_466 : Cond.methodLink "StarChart$Reader" 53 ⟨"StarChart$Reader","readWord","(I)Z"⟩ ∈ GG := gg_in 466 (by decide +kernel) (by decide +kernel)
theorem gw_468 : Cond.instanceMethod ⟨"StarChart$Reader","readWord","(I)Z"⟩ ∈ GG := gg_in 468 (by decide +kernel) (by decide +kernel)
set_option maxRecDepth 20000 in
theorem gw_469 : Cond.code ⟨"StarChart$Reader","readWord","(I)Z"⟩ prog_5_method_14_code 2 (some .boolean) ∈ GG := gg_in 469 rfl rfl
theorem gw_470 : Cond.methodLink "StarChart$Reader" 131 ⟨"StarChart$Sheet","schedule","(IIZI)V"⟩ ∈ GG := gg_in 470 (by decide +kernel) (by decide +kernel)
theorem gw_471 : Cond.methodLink "StarChart$Reader" 117 ⟨"StarChart$Reader","readPay","()Z"⟩ ∈ GG := gg_in 471 (by decide +kernel) (by decide +kernel)
theorem gw_473 : Cond.instanceMethod ⟨"StarChart$Reader","readPay","()Z"⟩ ∈ GG := gg_in 473 (by decide +kernel) (by decide +kernel)
set_option maxRecDepth 20000 in
theorem gw_474 : Cond.code ⟨"StarChart$Reader","readPay","()Z"⟩ prog_5_method_19_code 3 (some .boolean) ∈ GG := gg_in 474 rfl rfl
theorem gw_475 : Cond.methodLink "StarChart" 103 ⟨"StarChart$Reader","fault","()I"⟩ ∈ GG := gg_in 475 (by decide +kernel) (by decide +kernel)
theorem gw_476 : Cond.instanceMethod ⟨"StarChart$Reader","fault","()I"⟩ ∈ GG := gg_in 476 (by decide +kernel) (by decide +kernel)
theorem gw_477 : Cond.selects "StarChart$Reader" ⟨"StarChart$Reader","fault","()I"⟩ ⟨"StarChart$Reader","fault","()I"⟩ ∈ GG := gg_in 477 (by decide +kernel) (by decide +kernel)
set_option maxRecDepth 20000 in
theorem gw_478 : Cond.code ⟨"StarChart$Reader","fault","()I"⟩ prog_5_method_4_code 1 (some .int) ∈ GG := gg_in 478 rfl rfl
theorem gw_479 : Cond.methodLink "StarChart" 109 ⟨"StarChart$Sheet","copyOf","(LStarChart$Sheet;)V"⟩ ∈ GG := gg_in 479 (by decide +kernel) (by decide +kernel)
theorem gw_480 : Cond.instanceMethod ⟨"StarChart$Sheet","copyOf","(LStarChart$Sheet;)V"⟩ ∈ GG := gg_in 480 (by decide +kernel) (by decide +kernel)
theorem gw_481 : Cond.selects "StarChart$Sheet" ⟨"StarChart$Sheet","copyOf","(LStarChart$Sheet;)V"⟩ ⟨"StarChart$Sheet","copyOf","(LStarChart$Sheet;)V"⟩ ∈ GG := gg_in 481 (by decide +kernel) (by decide +kernel)
set_option maxRecDepth 20000 in
theorem gw_482 : Cond.code ⟨"StarChart$Sheet","copyOf","(LStarChart$Sheet;)V"⟩ prog_6_method_4_code 2 none ∈ GG := gg_in 482 rfl rfl
theorem gw_483 : Cond.methodLink "StarChart$Sheet" 57 ⟨"java/lang/System","arraycopy","(Ljava/lang/Object;ILjava/lang/Object;II)V"⟩ ∈ GG := gg_in 483 (by decide +kernel) (by decide +kernel)
theorem gw_484 : Cond.arrayClass .byte ∈ GG := gg_in 484 (by decide +kernel) (by decide +kernel)
theorem gw_485 : Cond.methodLink "StarChartLaw" 29 ⟨"StarChart","child","(II)I"⟩ ∈ GG := gg_in 485 (by decide +kernel) (by decide +kernel)
theorem gw_486 : Cond.instanceMethod ⟨"StarChart","child","(II)I"⟩ ∈ GG := gg_in 486 (by decide +kernel) (by decide +kernel)
theorem gw_487 : Cond.selects "StarChart" ⟨"StarChart","child","(II)I"⟩ ⟨"StarChart","child","(II)I"⟩ ∈ GG := gg_in 487 (by decide +kernel) (by decide +kernel)
set_option maxRecDepth 20000 in
theorem gw_488 : Cond.code ⟨"StarChart","child","(II)I"⟩ prog_1_method_5_code 3 (some .int) ∈ GG := gg_in 488 rfl rfl
theorem gw_489 : Cond.methodLink "StarChart" 117 ⟨"StarChart","isChild","(I)Z"⟩ ∈ GG := gg_in 489 (by decide +kernel) (by decide +kernel)
theorem gw_491 : Cond.instanceMethod ⟨"StarChart","isChild","(I)Z"⟩ ∈ GG := gg_in 491 (by decide +kernel) (by decide +kernel)
set_option maxRecDepth 20000 in
theorem gw_492 : Cond.code ⟨"StarChart","isChild","(I)Z"⟩ prog_1_method_37_code 2 (some .boolean) ∈ GG := gg_in 492 rfl rfl
theorem gw_493 : Cond.methodLink "StarChartLaw" 34 ⟨"StarChart","book","(II)I"⟩ ∈ GG := gg_in 493 (by decide +kernel) (by decide +kernel)
theorem gw_494 : Cond.instanceMethod ⟨"StarChart","book","(II)I"⟩ ∈ GG := gg_in 494 (by decide +kernel) (by decide +kernel)
theorem gw_495 : Cond.selects "StarChart" ⟨"StarChart","book","(II)I"⟩ ⟨"StarChart","book","(II)I"⟩ ∈ GG := gg_in 495 (by decide +kernel) (by decide +kernel)
set_option maxRecDepth 20000 in
theorem gw_496 : Cond.code ⟨"StarChart","book","(II)I"⟩ prog_1_method_6_code 3 (some .int) ∈ GG := gg_in 496 rfl rfl
theorem gw_497 : Cond.methodLink "StarChart" 137 ⟨"StarChart","isSort","(I)Z"⟩ ∈ GG := gg_in 497 (by decide +kernel) (by decide +kernel)
theorem gw_499 : Cond.instanceMethod ⟨"StarChart","isSort","(I)Z"⟩ ∈ GG := gg_in 499 (by decide +kernel) (by decide +kernel)
set_option maxRecDepth 20000 in
theorem gw_500 : Cond.code ⟨"StarChart","isSort","(I)Z"⟩ prog_1_method_38_code 2 (some .boolean) ∈ GG := gg_in 500 rfl rfl
theorem gw_501 : Cond.methodLink "StarChartLaw" 38 ⟨"StarChart","plan","(I)I"⟩ ∈ GG := gg_in 501 (by decide +kernel) (by decide +kernel)
theorem gw_502 : Cond.instanceMethod ⟨"StarChart","plan","(I)I"⟩ ∈ GG := gg_in 502 (by decide +kernel) (by decide +kernel)
theorem gw_503 : Cond.selects "StarChart" ⟨"StarChart","plan","(I)I"⟩ ⟨"StarChart","plan","(I)I"⟩ ∈ GG := gg_in 503 (by decide +kernel) (by decide +kernel)
set_option maxRecDepth 20000 in
theorem gw_504 : Cond.code ⟨"StarChart","plan","(I)I"⟩ prog_1_method_7_code 2 (some .int) ∈ GG := gg_in 504 rfl rfl
theorem gw_505 : Cond.methodLink "StarChartLaw" 43 ⟨"StarChart","tune","(II)I"⟩ ∈ GG := gg_in 505 (by decide +kernel) (by decide +kernel)
theorem gw_506 : Cond.instanceMethod ⟨"StarChart","tune","(II)I"⟩ ∈ GG := gg_in 506 (by decide +kernel) (by decide +kernel)
theorem gw_507 : Cond.selects "StarChart" ⟨"StarChart","tune","(II)I"⟩ ⟨"StarChart","tune","(II)I"⟩ ∈ GG := gg_in 507 (by decide +kernel) (by decide +kernel)
set_option maxRecDepth 20000 in
theorem gw_508 : Cond.code ⟨"StarChart","tune","(II)I"⟩ prog_1_method_8_code 4 (some .int) ∈ GG := gg_in 508 rfl rfl
theorem gw_509 : Cond.fieldLink "StarChart" 161 "StarChart" "TUNE_MOST" "[I" ∈ GG := gg_in 509 (by decide +kernel) (by decide +kernel)
theorem lt_510 : Cond.laysStatic "StarChart" "TUNE_MOST" "[I" ∈ lw_tbl := List.mem_of_getElem? (i := 510) (by decide +kernel)
theorem gw_511 : Cond.methodLink "StarChartLaw" 47 ⟨"StarChart","given","(II)I"⟩ ∈ GG := gg_in 511 (by decide +kernel) (by decide +kernel)
theorem gw_512 : Cond.instanceMethod ⟨"StarChart","given","(II)I"⟩ ∈ GG := gg_in 512 (by decide +kernel) (by decide +kernel)
theorem gw_513 : Cond.selects "StarChart" ⟨"StarChart","given","(II)I"⟩ ⟨"StarChart","given","(II)I"⟩ ∈ GG := gg_in 513 (by decide +kernel) (by decide +kernel)
set_option maxRecDepth 20000 in
theorem gw_514 : Cond.code ⟨"StarChart","given","(II)I"⟩ prog_1_method_9_code 3 (some .int) ∈ GG := gg_in 514 rfl rfl
theorem gw_515 : Cond.methodLink "StarChart" 164 ⟨"StarChart","isDay","(I)Z"⟩ ∈ GG := gg_in 515 (by decide +kernel) (by decide +kernel)
theorem gw_516 : Cond.static ⟨"StarChart","isDay","(I)Z"⟩ ∈ GG := gg_in 516 (by decide +kernel) (by decide +kernel)
set_option maxRecDepth 20000 in
theorem gw_517 : Cond.code ⟨"StarChart","isDay","(I)Z"⟩ prog_1_method_39_code 1 (some .boolean) ∈ GG := gg_in 517 rfl rfl
theorem gw_518 : Cond.methodLink "StarChart" 167 ⟨"StarChart$Sheet","givenOn","(II)I"⟩ ∈ GG := gg_in 518 (by decide +kernel) (by decide +kernel)
theorem gw_519 : Cond.instanceMethod ⟨"StarChart$Sheet","givenOn","(II)I"⟩ ∈ GG := gg_in 519 (by decide +kernel) (by decide +kernel)
theorem gw_520 : Cond.selects "StarChart$Sheet" ⟨"StarChart$Sheet","givenOn","(II)I"⟩ ⟨"StarChart$Sheet","givenOn","(II)I"⟩ ∈ GG := gg_in 520 (by decide +kernel) (by decide +kernel)
set_option maxRecDepth 20000 in
theorem gw_521 : Cond.code ⟨"StarChart$Sheet","givenOn","(II)I"⟩ prog_6_method_10_code 3 (some .int) ∈ GG := gg_in 521 rfl rfl
theorem gw_522 : Cond.methodLink "StarChartLaw" 51 ⟨"StarChart","want","(III)I"⟩ ∈ GG := gg_in 522 (by decide +kernel) (by decide +kernel)
theorem gw_523 : Cond.instanceMethod ⟨"StarChart","want","(III)I"⟩ ∈ GG := gg_in 523 (by decide +kernel) (by decide +kernel)
theorem gw_524 : Cond.selects "StarChart" ⟨"StarChart","want","(III)I"⟩ ⟨"StarChart","want","(III)I"⟩ ∈ GG := gg_in 524 (by decide +kernel) (by decide +kernel)
set_option maxRecDepth 20000 in
theorem gw_525 : Cond.code ⟨"StarChart","want","(III)I"⟩ prog_1_method_10_code 4 (some .int) ∈ GG := gg_in 525 rfl rfl
theorem gw_526 : Cond.methodLink "StarChart" 171 ⟨"StarChart$Sheet","pagesIn","(II)I"⟩ ∈ GG := gg_in 526 (by decide +kernel) (by decide +kernel)
theorem gw_527 : Cond.instanceMethod ⟨"StarChart$Sheet","pagesIn","(II)I"⟩ ∈ GG := gg_in 527 (by decide +kernel) (by decide +kernel)
theorem gw_528 : Cond.selects "StarChart$Sheet" ⟨"StarChart$Sheet","pagesIn","(II)I"⟩ ⟨"StarChart$Sheet","pagesIn","(II)I"⟩ ∈ GG := gg_in 528 (by decide +kernel) (by decide +kernel)
set_option maxRecDepth 20000 in
theorem gw_529 : Cond.code ⟨"StarChart$Sheet","pagesIn","(II)I"⟩ prog_6_method_9_code 3 (some .int) ∈ GG := gg_in 529 rfl rfl
theorem gw_530 : Cond.methodLink "StarChart" 174 ⟨"StarChart$Course","joysOf","(LStarChart$Sheet;II)I"⟩ ∈ GG := gg_in 530 (by decide +kernel) (by decide +kernel)
theorem gw_531 : Cond.instanceMethod ⟨"StarChart$Course","joysOf","(LStarChart$Sheet;II)I"⟩ ∈ GG := gg_in 531 (by decide +kernel) (by decide +kernel)
theorem gw_532 : Cond.selects "StarChart$Course" ⟨"StarChart$Course","joysOf","(LStarChart$Sheet;II)I"⟩ ⟨"StarChart$Course","joysOf","(LStarChart$Sheet;II)I"⟩ ∈ GG := gg_in 532 (by decide +kernel) (by decide +kernel)
set_option maxRecDepth 20000 in
theorem gw_533 : Cond.code ⟨"StarChart$Course","joysOf","(LStarChart$Sheet;II)I"⟩ prog_2_method_5_code 4 (some .int) ∈ GG := gg_in 533 rfl rfl
theorem gw_534 : Cond.methodLink "StarChart" 178 ⟨"StarChart$Course","starsFor","(LStarChart$Sheet;II)I"⟩ ∈ GG := gg_in 534 (by decide +kernel) (by decide +kernel)
theorem gw_535 : Cond.instanceMethod ⟨"StarChart$Course","starsFor","(LStarChart$Sheet;II)I"⟩ ∈ GG := gg_in 535 (by decide +kernel) (by decide +kernel)
theorem gw_536 : Cond.selects "StarChart$Course" ⟨"StarChart$Course","starsFor","(LStarChart$Sheet;II)I"⟩ ⟨"StarChart$Course","starsFor","(LStarChart$Sheet;II)I"⟩ ∈ GG := gg_in 536 (by decide +kernel) (by decide +kernel)
set_option maxRecDepth 20000 in
theorem gw_537 : Cond.code ⟨"StarChart$Course","starsFor","(LStarChart$Sheet;II)I"⟩ prog_2_method_6_code 4 (some .int) ∈ GG := gg_in 537 rfl rfl
theorem gw_538 : Cond.methodLink "StarChart$Course" 40 ⟨"StarChart$Sheet","pagesIn","(II)I"⟩ ∈ GG := gg_in 538 (by decide +kernel) (by decide +kernel)
theorem gw_539 : Cond.methodLink "StarChart$Course" 44 ⟨"StarChart$Sheet","givenOn","(II)I"⟩ ∈ GG := gg_in 539 (by decide +kernel) (by decide +kernel)
theorem gw_540 : Cond.methodLink "StarChart" 181 ⟨"StarChart$Course","wantOf","(LStarChart$Sheet;II)I"⟩ ∈ GG := gg_in 540 (by decide +kernel) (by decide +kernel)
theorem gw_541 : Cond.instanceMethod ⟨"StarChart$Course","wantOf","(LStarChart$Sheet;II)I"⟩ ∈ GG := gg_in 541 (by decide +kernel) (by decide +kernel)
theorem gw_542 : Cond.selects "StarChart$Course" ⟨"StarChart$Course","wantOf","(LStarChart$Sheet;II)I"⟩ ⟨"StarChart$Course","wantOf","(LStarChart$Sheet;II)I"⟩ ∈ GG := gg_in 542 (by decide +kernel) (by decide +kernel)
set_option maxRecDepth 20000 in
theorem gw_543 : Cond.code ⟨"StarChart$Course","wantOf","(LStarChart$Sheet;II)I"⟩ prog_2_method_7_code 5 (some .int) ∈ GG := gg_in 543 rfl rfl
theorem gw_544 : Cond.methodLink "StarChart$Course" 50 ⟨"StarChart$Course","joysOf","(LStarChart$Sheet;II)I"⟩ ∈ GG := gg_in 544 (by decide +kernel) (by decide +kernel)
theorem gw_545 : Cond.methodLink "StarChart$Course" 58 ⟨"StarChart$Course","starsFor","(LStarChart$Sheet;II)I"⟩ ∈ GG := gg_in 545 (by decide +kernel) (by decide +kernel)
theorem gw_546 : Cond.methodLink "StarChartLaw" 56 ⟨"StarChart","choice","(I)I"⟩ ∈ GG := gg_in 546 (by decide +kernel) (by decide +kernel)
theorem gw_547 : Cond.instanceMethod ⟨"StarChart","choice","(I)I"⟩ ∈ GG := gg_in 547 (by decide +kernel) (by decide +kernel)
theorem gw_548 : Cond.selects "StarChart" ⟨"StarChart","choice","(I)I"⟩ ⟨"StarChart","choice","(I)I"⟩ ∈ GG := gg_in 548 (by decide +kernel) (by decide +kernel)
set_option maxRecDepth 20000 in
theorem gw_549 : Cond.code ⟨"StarChart","choice","(I)I"⟩ prog_1_method_11_code 2 (some .int) ∈ GG := gg_in 549 rfl rfl
theorem gw_550 : Cond.methodLink "StarChart" 184 ⟨"StarChart$Course","choiceOf","(LStarChart$Sheet;II)I"⟩ ∈ GG := gg_in 550 (by decide +kernel) (by decide +kernel)
theorem gw_551 : Cond.instanceMethod ⟨"StarChart$Course","choiceOf","(LStarChart$Sheet;II)I"⟩ ∈ GG := gg_in 551 (by decide +kernel) (by decide +kernel)
theorem gw_552 : Cond.selects "StarChart$Course" ⟨"StarChart$Course","choiceOf","(LStarChart$Sheet;II)I"⟩ ⟨"StarChart$Course","choiceOf","(LStarChart$Sheet;II)I"⟩ ∈ GG := gg_in 552 (by decide +kernel) (by decide +kernel)
set_option maxRecDepth 20000 in
theorem gw_553 : Cond.code ⟨"StarChart$Course","choiceOf","(LStarChart$Sheet;II)I"⟩ prog_2_method_8_code 8 (some .int) ∈ GG := gg_in 553 rfl rfl
theorem gw_554 : Cond.methodLink "StarChart$Course" 64 ⟨"StarChart$Course","wantOf","(LStarChart$Sheet;II)I"⟩ ∈ GG := gg_in 554 (by decide +kernel) (by decide +kernel)
theorem gw_555 : Cond.methodLink "StarChartLaw" 60 ⟨"StarChart","go","(I)I"⟩ ∈ GG := gg_in 555 (by decide +kernel) (by decide +kernel)
theorem gw_556 : Cond.instanceMethod ⟨"StarChart","go","(I)I"⟩ ∈ GG := gg_in 556 (by decide +kernel) (by decide +kernel)
theorem gw_557 : Cond.selects "StarChart" ⟨"StarChart","go","(I)I"⟩ ⟨"StarChart","go","(I)I"⟩ ∈ GG := gg_in 557 (by decide +kernel) (by decide +kernel)
set_option maxRecDepth 20000 in
theorem gw_558 : Cond.code ⟨"StarChart","go","(I)I"⟩ prog_1_method_12_code 4 (some .int) ∈ GG := gg_in 558 rfl rfl
theorem gw_559 : Cond.methodLink "StarChart" 190 ⟨"java/lang/Math","min","(II)I"⟩ ∈ GG := gg_in 559 (by decide +kernel) (by decide +kernel)
theorem gw_560 : Cond.static ⟨"java/lang/Math","min","(II)I"⟩ ∈ GG := gg_in 560 (by decide +kernel) (by decide +kernel)
set_option maxRecDepth 20000 in
theorem gw_561 : Cond.code ⟨"java/lang/Math","min","(II)I"⟩ prog_10_method_69_code 2 (some .int) ∈ GG := gg_in 561 rfl rfl
theorem gw_562 : Cond.methodLink "StarChart" 195 ⟨"StarChart$Course","pass","(LStarChart$Sheet;[I)I"⟩ ∈ GG := gg_in 562 (by decide +kernel) (by decide +kernel)
theorem gw_563 : Cond.instanceMethod ⟨"StarChart$Course","pass","(LStarChart$Sheet;[I)I"⟩ ∈ GG := gg_in 563 (by decide +kernel) (by decide +kernel)
theorem gw_564 : Cond.selects "StarChart$Course" ⟨"StarChart$Course","pass","(LStarChart$Sheet;[I)I"⟩ ⟨"StarChart$Course","pass","(LStarChart$Sheet;[I)I"⟩ ∈ GG := gg_in 564 (by decide +kernel) (by decide +kernel)
set_option maxRecDepth 20000 in
theorem gw_565 : Cond.code ⟨"StarChart$Course","pass","(LStarChart$Sheet;[I)I"⟩ prog_2_method_9_code 9 (some .int) ∈ GG := gg_in 565 rfl rfl
theorem gw_566 : Cond.methodLink "StarChart$Course" 70 ⟨"StarChart$Course","choiceOf","(LStarChart$Sheet;II)I"⟩ ∈ GG := gg_in 566 (by decide +kernel) (by decide +kernel)
theorem gw_567 : Cond.methodLink "StarChart$Course" 73 ⟨"StarChart$Course","likingBehind","(LStarChart$Sheet;[III)I"⟩ ∈ GG := gg_in 567 (by decide +kernel) (by decide +kernel)
theorem gw_569 : Cond.instanceMethod ⟨"StarChart$Course","likingBehind","(LStarChart$Sheet;[III)I"⟩ ∈ GG := gg_in 569 (by decide +kernel) (by decide +kernel)
set_option maxRecDepth 20000 in
theorem gw_570 : Cond.code ⟨"StarChart$Course","likingBehind","(LStarChart$Sheet;[III)I"⟩ prog_2_method_10_code 9 (some .int) ∈ GG := gg_in 570 rfl rfl
theorem gw_571 : Cond.methodLink "StarChart$Course" 81 ⟨"java/lang/Math","min","(II)I"⟩ ∈ GG := gg_in 571 (by decide +kernel) (by decide +kernel)
theorem gw_572 : Cond.methodLink "StarChart$Course" 86 ⟨"java/lang/Math","max","(II)I"⟩ ∈ GG := gg_in 572 (by decide +kernel) (by decide +kernel)
theorem gw_573 : Cond.static ⟨"java/lang/Math","max","(II)I"⟩ ∈ GG := gg_in 573 (by decide +kernel) (by decide +kernel)
set_option maxRecDepth 20000 in
theorem gw_574 : Cond.code ⟨"java/lang/Math","max","(II)I"⟩ prog_10_method_65_code 2 (some .int) ∈ GG := gg_in 574 rfl rfl
theorem gw_575 : Cond.methodLink "StarChart$Course" 77 ⟨"StarChart$Course","worthBehind","(LStarChart$Sheet;[II)I"⟩ ∈ GG := gg_in 575 (by decide +kernel) (by decide +kernel)
theorem gw_577 : Cond.instanceMethod ⟨"StarChart$Course","worthBehind","(LStarChart$Sheet;[II)I"⟩ ∈ GG := gg_in 577 (by decide +kernel) (by decide +kernel)
set_option maxRecDepth 20000 in
theorem gw_578 : Cond.code ⟨"StarChart$Course","worthBehind","(LStarChart$Sheet;[II)I"⟩ prog_2_method_11_code 5 (some .int) ∈ GG := gg_in 578 rfl rfl
theorem gw_579 : Cond.methodLink "StarChart$Course" 89 ⟨"StarChart$Sheet","givesNothing","(I)Z"⟩ ∈ GG := gg_in 579 (by decide +kernel) (by decide +kernel)
theorem gw_580 : Cond.instanceMethod ⟨"StarChart$Sheet","givesNothing","(I)Z"⟩ ∈ GG := gg_in 580 (by decide +kernel) (by decide +kernel)
theorem gw_581 : Cond.selects "StarChart$Sheet" ⟨"StarChart$Sheet","givesNothing","(I)Z"⟩ ⟨"StarChart$Sheet","givesNothing","(I)Z"⟩ ∈ GG := gg_in 581 (by decide +kernel) (by decide +kernel)
set_option maxRecDepth 20000 in
theorem gw_582 : Cond.code ⟨"StarChart$Sheet","givesNothing","(I)Z"⟩ prog_6_method_11_code 3 (some .boolean) ∈ GG := gg_in 582 rfl rfl
theorem gw_583 : Cond.methodLink "StarChart$Sheet" 67 ⟨"StarChart$Sheet","givenOn","(II)I"⟩ ∈ GG := gg_in 583 (by decide +kernel) (by decide +kernel)
theorem gw_584 : Cond.methodLink "StarChartLaw" 64 ⟨"StarChart","now","(I)I"⟩ ∈ GG := gg_in 584 (by decide +kernel) (by decide +kernel)
theorem gw_585 : Cond.instanceMethod ⟨"StarChart","now","(I)I"⟩ ∈ GG := gg_in 585 (by decide +kernel) (by decide +kernel)
theorem gw_586 : Cond.selects "StarChart" ⟨"StarChart","now","(I)I"⟩ ⟨"StarChart","now","(I)I"⟩ ∈ GG := gg_in 586 (by decide +kernel) (by decide +kernel)
set_option maxRecDepth 20000 in
theorem gw_587 : Cond.code ⟨"StarChart","now","(I)I"⟩ prog_1_method_13_code 2 (some .int) ∈ GG := gg_in 587 rfl rfl
theorem gw_588 : Cond.methodLink "StarChart" 205 ⟨"StarChart$Course","sumOf","([II)I"⟩ ∈ GG := gg_in 588 (by decide +kernel) (by decide +kernel)
theorem gw_589 : Cond.static ⟨"StarChart$Course","sumOf","([II)I"⟩ ∈ GG := gg_in 589 (by decide +kernel) (by decide +kernel)
set_option maxRecDepth 20000 in
theorem gw_590 : Cond.code ⟨"StarChart$Course","sumOf","([II)I"⟩ prog_2_method_4_code 4 (some .int) ∈ GG := gg_in 590 rfl rfl
theorem gw_591 : Cond.methodLink "StarChartLaw" 68 ⟨"StarChart","anew","()I"⟩ ∈ GG := gg_in 591 (by decide +kernel) (by decide +kernel)
theorem gw_592 : Cond.instanceMethod ⟨"StarChart","anew","()I"⟩ ∈ GG := gg_in 592 (by decide +kernel) (by decide +kernel)
theorem gw_593 : Cond.selects "StarChart" ⟨"StarChart","anew","()I"⟩ ⟨"StarChart","anew","()I"⟩ ∈ GG := gg_in 593 (by decide +kernel) (by decide +kernel)
set_option maxRecDepth 20000 in
theorem gw_594 : Cond.code ⟨"StarChart","anew","()I"⟩ prog_1_method_14_code 2 (some .int) ∈ GG := gg_in 594 rfl rfl
theorem gw_595 : Cond.methodLink "StarChartLaw" 72 ⟨"StarChart","term","(I)I"⟩ ∈ GG := gg_in 595 (by decide +kernel) (by decide +kernel)
theorem gw_596 : Cond.instanceMethod ⟨"StarChart","term","(I)I"⟩ ∈ GG := gg_in 596 (by decide +kernel) (by decide +kernel)
theorem gw_597 : Cond.selects "StarChart" ⟨"StarChart","term","(I)I"⟩ ⟨"StarChart","term","(I)I"⟩ ∈ GG := gg_in 597 (by decide +kernel) (by decide +kernel)
set_option maxRecDepth 20000 in
theorem gw_598 : Cond.code ⟨"StarChart","term","(I)I"⟩ prog_1_method_15_code 3 (some .int) ∈ GG := gg_in 598 rfl rfl
theorem gw_599 : Cond.methodLink "StarChart" 209 ⟨"StarChart","pagesBetween","(II)I"⟩ ∈ GG := gg_in 599 (by decide +kernel) (by decide +kernel)
theorem gw_601 : Cond.instanceMethod ⟨"StarChart","pagesBetween","(II)I"⟩ ∈ GG := gg_in 601 (by decide +kernel) (by decide +kernel)
set_option maxRecDepth 20000 in
theorem gw_602 : Cond.code ⟨"StarChart","pagesBetween","(II)I"⟩ prog_1_method_41_code 6 (some .int) ∈ GG := gg_in 602 rfl rfl
theorem gw_603 : Cond.methodLink "StarChart" 212 ⟨"StarChart$Sheet","payNothing","()V"⟩ ∈ GG := gg_in 603 (by decide +kernel) (by decide +kernel)
theorem gw_604 : Cond.methodLink "StarChartLaw" 76 ⟨"StarChart","end","(I)I"⟩ ∈ GG := gg_in 604 (by decide +kernel) (by decide +kernel)
theorem gw_605 : Cond.instanceMethod ⟨"StarChart","end","(I)I"⟩ ∈ GG := gg_in 605 (by decide +kernel) (by decide +kernel)
theorem gw_606 : Cond.selects "StarChart" ⟨"StarChart","end","(I)I"⟩ ⟨"StarChart","end","(I)I"⟩ ∈ GG := gg_in 606 (by decide +kernel) (by decide +kernel)
set_option maxRecDepth 20000 in
theorem gw_607 : Cond.code ⟨"StarChart","end","(I)I"⟩ prog_1_method_16_code 2 (some .int) ∈ GG := gg_in 607 rfl rfl
theorem gw_608 : Cond.methodLink "StarChart" 215 ⟨"StarChart","likingOn","(I)I"⟩ ∈ GG := gg_in 608 (by decide +kernel) (by decide +kernel)
theorem gw_610 : Cond.instanceMethod ⟨"StarChart","likingOn","(I)I"⟩ ∈ GG := gg_in 610 (by decide +kernel) (by decide +kernel)
set_option maxRecDepth 20000 in
theorem gw_611 : Cond.code ⟨"StarChart","likingOn","(I)I"⟩ prog_1_method_42_code 3 (some .int) ∈ GG := gg_in 611 rfl rfl
theorem gw_612 : Cond.methodLink "StarChartLaw" 80 ⟨"StarChart","best","(III)I"⟩ ∈ GG := gg_in 612 (by decide +kernel) (by decide +kernel)
theorem gw_613 : Cond.instanceMethod ⟨"StarChart","best","(III)I"⟩ ∈ GG := gg_in 613 (by decide +kernel) (by decide +kernel)
theorem gw_614 : Cond.selects "StarChart" ⟨"StarChart","best","(III)I"⟩ ⟨"StarChart","best","(III)I"⟩ ∈ GG := gg_in 614 (by decide +kernel) (by decide +kernel)
set_option maxRecDepth 20000 in
theorem gw_615 : Cond.code ⟨"StarChart","best","(III)I"⟩ prog_1_method_17_code 11 (some .int) ∈ GG := gg_in 615 rfl rfl
theorem gw_616 : Cond.methodLink "StarChartLaw" 84 ⟨"StarChart","line","(III)I"⟩ ∈ GG := gg_in 616 (by decide +kernel) (by decide +kernel)
theorem gw_617 : Cond.instanceMethod ⟨"StarChart","line","(III)I"⟩ ∈ GG := gg_in 617 (by decide +kernel) (by decide +kernel)
theorem gw_618 : Cond.selects "StarChart" ⟨"StarChart","line","(III)I"⟩ ⟨"StarChart","line","(III)I"⟩ ∈ GG := gg_in 618 (by decide +kernel) (by decide +kernel)
set_option maxRecDepth 20000 in
theorem gw_619 : Cond.code ⟨"StarChart","line","(III)I"⟩ prog_1_method_18_code 6 (some .int) ∈ GG := gg_in 619 rfl rfl
theorem gw_620 : Cond.methodLink "StarChart" 219 ⟨"StarChart$Sheet","teachOne","(III)V"⟩ ∈ GG := gg_in 620 (by decide +kernel) (by decide +kernel)
theorem gw_621 : Cond.instanceMethod ⟨"StarChart$Sheet","teachOne","(III)V"⟩ ∈ GG := gg_in 621 (by decide +kernel) (by decide +kernel)
theorem gw_622 : Cond.selects "StarChart$Sheet" ⟨"StarChart$Sheet","teachOne","(III)V"⟩ ⟨"StarChart$Sheet","teachOne","(III)V"⟩ ∈ GG := gg_in 622 (by decide +kernel) (by decide +kernel)
set_option maxRecDepth 20000 in
theorem gw_623 : Cond.code ⟨"StarChart$Sheet","teachOne","(III)V"⟩ prog_6_method_8_code 4 none ∈ GG := gg_in 623 rfl rfl
theorem gw_624 : Cond.methodLink "StarChart$Sheet" 63 ⟨"StarChart$Sheet","addChild","(III)V"⟩ ∈ GG := gg_in 624 (by decide +kernel) (by decide +kernel)
theorem gw_625 : Cond.methodLink "StarChartLaw" 88 ⟨"StarChart","ending","(I)I"⟩ ∈ GG := gg_in 625 (by decide +kernel) (by decide +kernel)
theorem gw_626 : Cond.instanceMethod ⟨"StarChart","ending","(I)I"⟩ ∈ GG := gg_in 626 (by decide +kernel) (by decide +kernel)
theorem gw_627 : Cond.selects "StarChart" ⟨"StarChart","ending","(I)I"⟩ ⟨"StarChart","ending","(I)I"⟩ ∈ GG := gg_in 627 (by decide +kernel) (by decide +kernel)
set_option maxRecDepth 20000 in
theorem gw_628 : Cond.code ⟨"StarChart","ending","(I)I"⟩ prog_1_method_19_code 6 (some .int) ∈ GG := gg_in 628 rfl rfl
theorem gw_629 : Cond.methodLink "StarChartLaw" 92 ⟨"StarChart","easy","()I"⟩ ∈ GG := gg_in 629 (by decide +kernel) (by decide +kernel)
theorem gw_630 : Cond.instanceMethod ⟨"StarChart","easy","()I"⟩ ∈ GG := gg_in 630 (by decide +kernel) (by decide +kernel)
theorem gw_631 : Cond.selects "StarChart" ⟨"StarChart","easy","()I"⟩ ⟨"StarChart","easy","()I"⟩ ∈ GG := gg_in 631 (by decide +kernel) (by decide +kernel)
set_option maxRecDepth 20000 in
theorem gw_632 : Cond.code ⟨"StarChart","easy","()I"⟩ prog_1_method_20_code 4 (some .int) ∈ GG := gg_in 632 rfl rfl
theorem gw_633 : Cond.methodLink "StarChartLaw" 96 ⟨"StarChart","stays","(II)I"⟩ ∈ GG := gg_in 633 (by decide +kernel) (by decide +kernel)
theorem gw_634 : Cond.instanceMethod ⟨"StarChart","stays","(II)I"⟩ ∈ GG := gg_in 634 (by decide +kernel) (by decide +kernel)
theorem gw_635 : Cond.selects "StarChart" ⟨"StarChart","stays","(II)I"⟩ ⟨"StarChart","stays","(II)I"⟩ ∈ GG := gg_in 635 (by decide +kernel) (by decide +kernel)
set_option maxRecDepth 20000 in
theorem gw_636 : Cond.code ⟨"StarChart","stays","(II)I"⟩ prog_1_method_21_code 4 (some .int) ∈ GG := gg_in 636 rfl rfl
theorem gw_637 : Cond.methodLink "StarChartLaw" 100 ⟨"StarChart","rests","(III)I"⟩ ∈ GG := gg_in 637 (by decide +kernel) (by decide +kernel)
theorem gw_638 : Cond.instanceMethod ⟨"StarChart","rests","(III)I"⟩ ∈ GG := gg_in 638 (by decide +kernel) (by decide +kernel)
theorem gw_639 : Cond.selects "StarChart" ⟨"StarChart","rests","(III)I"⟩ ⟨"StarChart","rests","(III)I"⟩ ∈ GG := gg_in 639 (by decide +kernel) (by decide +kernel)
set_option maxRecDepth 20000 in
theorem gw_640 : Cond.code ⟨"StarChart","rests","(III)I"⟩ prog_1_method_22_code 7 (some .int) ∈ GG := gg_in 640 rfl rfl
theorem gw_641 : Cond.methodLink "StarChart" 226 ⟨"StarChart","fillJar","(II)V"⟩ ∈ GG := gg_in 641 (by decide +kernel) (by decide +kernel)
theorem gw_643 : Cond.instanceMethod ⟨"StarChart","fillJar","(II)V"⟩ ∈ GG := gg_in 643 (by decide +kernel) (by decide +kernel)
set_option maxRecDepth 20000 in
theorem gw_644 : Cond.code ⟨"StarChart","fillJar","(II)V"⟩ prog_1_method_43_code 5 none ∈ GG := gg_in 644 rfl rfl
theorem gw_645 : Cond.methodLink "StarChart" 236 ⟨"java/lang/Math","max","(II)I"⟩ ∈ GG := gg_in 645 (by decide +kernel) (by decide +kernel)
theorem gw_646 : Cond.methodLink "StarChart" 230 ⟨"StarChart$Jar","isRest","(I)Z"⟩ ∈ GG := gg_in 646 (by decide +kernel) (by decide +kernel)
theorem gw_647 : Cond.instanceMethod ⟨"StarChart$Jar","isRest","(I)Z"⟩ ∈ GG := gg_in 647 (by decide +kernel) (by decide +kernel)
theorem gw_648 : Cond.selects "StarChart$Jar" ⟨"StarChart$Jar","isRest","(I)Z"⟩ ⟨"StarChart$Jar","isRest","(I)Z"⟩ ∈ GG := gg_in 648 (by decide +kernel) (by decide +kernel)
set_option maxRecDepth 20000 in
theorem gw_649 : Cond.code ⟨"StarChart$Jar","isRest","(I)Z"⟩ prog_4_method_4_code 3 (some .boolean) ∈ GG := gg_in 649 rfl rfl
theorem gw_650 : Cond.methodLink "StarChart$Jar" 32 ⟨"StarChart$Jar","hasBy","(II)I"⟩ ∈ GG := gg_in 650 (by decide +kernel) (by decide +kernel)
theorem gw_652 : Cond.instanceMethod ⟨"StarChart$Jar","hasBy","(II)I"⟩ ∈ GG := gg_in 652 (by decide +kernel) (by decide +kernel)
set_option maxRecDepth 20000 in
theorem gw_653 : Cond.code ⟨"StarChart$Jar","hasBy","(II)I"⟩ prog_4_method_3_code 4 (some .int) ∈ GG := gg_in 653 rfl rfl
theorem gw_654 : Cond.methodLink "StarChart$Jar" 25 ⟨"StarChart$Jar","pagesOf","(I)I"⟩ ∈ GG := gg_in 654 (by decide +kernel) (by decide +kernel)
theorem gw_656 : Cond.instanceMethod ⟨"StarChart$Jar","pagesOf","(I)I"⟩ ∈ GG := gg_in 656 (by decide +kernel) (by decide +kernel)
set_option maxRecDepth 20000 in
theorem gw_657 : Cond.code ⟨"StarChart$Jar","pagesOf","(I)I"⟩ prog_4_method_2_code 4 (some .int) ∈ GG := gg_in 657 rfl rfl
theorem gw_658 : Cond.methodLink "StarChartLaw" 104 ⟨"StarChart","blamed","(II)I"⟩ ∈ GG := gg_in 658 (by decide +kernel) (by decide +kernel)
theorem gw_659 : Cond.instanceMethod ⟨"StarChart","blamed","(II)I"⟩ ∈ GG := gg_in 659 (by decide +kernel) (by decide +kernel)
theorem gw_660 : Cond.selects "StarChart" ⟨"StarChart","blamed","(II)I"⟩ ⟨"StarChart","blamed","(II)I"⟩ ∈ GG := gg_in 660 (by decide +kernel) (by decide +kernel)
set_option maxRecDepth 20000 in
theorem gw_661 : Cond.code ⟨"StarChart","blamed","(II)I"⟩ prog_1_method_23_code 3 (some .int) ∈ GG := gg_in 661 rfl rfl
theorem gw_662 : Cond.methodLink "StarChart" 233 ⟨"StarChart$Jar","blamedFor","(I)I"⟩ ∈ GG := gg_in 662 (by decide +kernel) (by decide +kernel)
theorem gw_663 : Cond.instanceMethod ⟨"StarChart$Jar","blamedFor","(I)I"⟩ ∈ GG := gg_in 663 (by decide +kernel) (by decide +kernel)
theorem gw_664 : Cond.selects "StarChart$Jar" ⟨"StarChart$Jar","blamedFor","(I)I"⟩ ⟨"StarChart$Jar","blamedFor","(I)I"⟩ ∈ GG := gg_in 664 (by decide +kernel) (by decide +kernel)
set_option maxRecDepth 20000 in
theorem gw_665 : Cond.code ⟨"StarChart$Jar","blamedFor","(I)I"⟩ prog_4_method_5_code 4 (some .int) ∈ GG := gg_in 665 rfl rfl
theorem gw_666 : Cond.methodLink "StarChartLaw" 108 ⟨"StarChart","checks","(I)I"⟩ ∈ GG := gg_in 666 (by decide +kernel) (by decide +kernel)
theorem gw_667 : Cond.instanceMethod ⟨"StarChart","checks","(I)I"⟩ ∈ GG := gg_in 667 (by decide +kernel) (by decide +kernel)
theorem gw_668 : Cond.selects "StarChart" ⟨"StarChart","checks","(I)I"⟩ ⟨"StarChart","checks","(I)I"⟩ ∈ GG := gg_in 668 (by decide +kernel) (by decide +kernel)
set_option maxRecDepth 20000 in
theorem gw_669 : Cond.code ⟨"StarChart","checks","(I)I"⟩ prog_1_method_24_code 5 (some .int) ∈ GG := gg_in 669 rfl rfl
theorem gw_670 : Cond.methodLink "StarChartLaw" 112 ⟨"StarChart","trial","(II)I"⟩ ∈ GG := gg_in 670 (by decide +kernel) (by decide +kernel)
theorem gw_671 : Cond.instanceMethod ⟨"StarChart","trial","(II)I"⟩ ∈ GG := gg_in 671 (by decide +kernel) (by decide +kernel)
theorem gw_672 : Cond.selects "StarChart" ⟨"StarChart","trial","(II)I"⟩ ⟨"StarChart","trial","(II)I"⟩ ∈ GG := gg_in 672 (by decide +kernel) (by decide +kernel)
set_option maxRecDepth 20000 in
theorem gw_673 : Cond.code ⟨"StarChart","trial","(II)I"⟩ prog_1_method_25_code 3 (some .int) ∈ GG := gg_in 673 rfl rfl
theorem gw_674 : Cond.methodLink "StarChart" 239 ⟨"StarChart$Trials","note","(II)Z"⟩ ∈ GG := gg_in 674 (by decide +kernel) (by decide +kernel)
theorem gw_675 : Cond.instanceMethod ⟨"StarChart$Trials","note","(II)Z"⟩ ∈ GG := gg_in 675 (by decide +kernel) (by decide +kernel)
theorem gw_676 : Cond.selects "StarChart$Trials" ⟨"StarChart$Trials","note","(II)Z"⟩ ⟨"StarChart$Trials","note","(II)Z"⟩ ∈ GG := gg_in 676 (by decide +kernel) (by decide +kernel)
set_option maxRecDepth 20000 in
theorem gw_677 : Cond.code ⟨"StarChart$Trials","note","(II)Z"⟩ prog_7_method_2_code 3 (some .boolean) ∈ GG := gg_in 677 rfl rfl
theorem gw_678 : Cond.methodLink "StarChartLaw" 116 ⟨"StarChart","joined","(II)I"⟩ ∈ GG := gg_in 678 (by decide +kernel) (by decide +kernel)
theorem gw_679 : Cond.instanceMethod ⟨"StarChart","joined","(II)I"⟩ ∈ GG := gg_in 679 (by decide +kernel) (by decide +kernel)
theorem gw_680 : Cond.selects "StarChart" ⟨"StarChart","joined","(II)I"⟩ ⟨"StarChart","joined","(II)I"⟩ ∈ GG := gg_in 680 (by decide +kernel) (by decide +kernel)
set_option maxRecDepth 20000 in
theorem gw_681 : Cond.code ⟨"StarChart","joined","(II)I"⟩ prog_1_method_26_code 3 (some .int) ∈ GG := gg_in 681 rfl rfl
theorem gw_682 : Cond.constant "StarChart" 246 (-1000000) ∈ GG := gg_in 682 (by decide +kernel) (by decide +kernel)
theorem gw_683 : Cond.methodLink "StarChart" 247 ⟨"StarChart$Trials","meanOf","(II)I"⟩ ∈ GG := gg_in 683 (by decide +kernel) (by decide +kernel)
theorem gw_684 : Cond.instanceMethod ⟨"StarChart$Trials","meanOf","(II)I"⟩ ∈ GG := gg_in 684 (by decide +kernel) (by decide +kernel)
theorem gw_685 : Cond.selects "StarChart$Trials" ⟨"StarChart$Trials","meanOf","(II)I"⟩ ⟨"StarChart$Trials","meanOf","(II)I"⟩ ∈ GG := gg_in 685 (by decide +kernel) (by decide +kernel)
set_option maxRecDepth 20000 in
theorem gw_686 : Cond.code ⟨"StarChart$Trials","meanOf","(II)I"⟩ prog_7_method_5_code 7 (some .int) ∈ GG := gg_in 686 rfl rfl
theorem gw_687 : Cond.methodLink "StarChart$Trials" 22 ⟨"StarChart$Trials","sumOf","(I)I"⟩ ∈ GG := gg_in 687 (by decide +kernel) (by decide +kernel)
theorem gw_689 : Cond.instanceMethod ⟨"StarChart$Trials","sumOf","(I)I"⟩ ∈ GG := gg_in 689 (by decide +kernel) (by decide +kernel)
set_option maxRecDepth 20000 in
theorem gw_690 : Cond.code ⟨"StarChart$Trials","sumOf","(I)I"⟩ prog_7_method_4_code 4 (some .int) ∈ GG := gg_in 690 rfl rfl
theorem gw_691 : Cond.methodLink "StarChart$Trials" 26 ⟨"StarChart$Trials","manyOf","(I)I"⟩ ∈ GG := gg_in 691 (by decide +kernel) (by decide +kernel)
theorem gw_692 : Cond.instanceMethod ⟨"StarChart$Trials","manyOf","(I)I"⟩ ∈ GG := gg_in 692 (by decide +kernel) (by decide +kernel)
theorem gw_693 : Cond.selects "StarChart$Trials" ⟨"StarChart$Trials","manyOf","(I)I"⟩ ⟨"StarChart$Trials","manyOf","(I)I"⟩ ∈ GG := gg_in 693 (by decide +kernel) (by decide +kernel)
set_option maxRecDepth 20000 in
theorem gw_694 : Cond.code ⟨"StarChart$Trials","manyOf","(I)I"⟩ prog_7_method_3_code 4 (some .int) ∈ GG := gg_in 694 rfl rfl
theorem gw_695 : Cond.constant "StarChart$Trials" 29 (-1000000) ∈ GG := gg_in 695 (by decide +kernel) (by decide +kernel)
theorem gw_696 : Cond.methodLink "StarChartLaw" 120 ⟨"StarChart","parts","()I"⟩ ∈ GG := gg_in 696 (by decide +kernel) (by decide +kernel)
theorem gw_697 : Cond.instanceMethod ⟨"StarChart","parts","()I"⟩ ∈ GG := gg_in 697 (by decide +kernel) (by decide +kernel)
theorem gw_698 : Cond.selects "StarChart" ⟨"StarChart","parts","()I"⟩ ⟨"StarChart","parts","()I"⟩ ∈ GG := gg_in 698 (by decide +kernel) (by decide +kernel)
set_option maxRecDepth 20000 in
theorem gw_699 : Cond.code ⟨"StarChart","parts","()I"⟩ prog_1_method_27_code 1 (some .int) ∈ GG := gg_in 699 rfl rfl
theorem gw_700 : Cond.methodLink "StarChart" 250 ⟨"StarChart$Trials","farthestBit","()I"⟩ ∈ GG := gg_in 700 (by decide +kernel) (by decide +kernel)
theorem gw_701 : Cond.instanceMethod ⟨"StarChart$Trials","farthestBit","()I"⟩ ∈ GG := gg_in 701 (by decide +kernel) (by decide +kernel)
theorem gw_702 : Cond.selects "StarChart$Trials" ⟨"StarChart$Trials","farthestBit","()I"⟩ ⟨"StarChart$Trials","farthestBit","()I"⟩ ∈ GG := gg_in 702 (by decide +kernel) (by decide +kernel)
set_option maxRecDepth 20000 in
theorem gw_703 : Cond.code ⟨"StarChart$Trials","farthestBit","()I"⟩ prog_7_method_6_code 11 (some .int) ∈ GG := gg_in 703 rfl rfl
theorem gw_704 : Cond.fieldLink "StarChart$Trials" 30 "StarChart$Trials" "SORTS_WITH" "[I" ∈ GG := gg_in 704 (by decide +kernel) (by decide +kernel)
theorem lt_705 : Cond.laysStatic "StarChart$Trials" "SORTS_WITH" "[I" ∈ lw_tbl := List.mem_of_getElem? (i := 705) (by decide +kernel)
theorem gw_706 : Cond.methodLink "StarChart$Trials" 33 ⟨"java/lang/Math","abs","(I)I"⟩ ∈ GG := gg_in 706 (by decide +kernel) (by decide +kernel)
theorem gw_707 : Cond.static ⟨"java/lang/Math","abs","(I)I"⟩ ∈ GG := gg_in 707 (by decide +kernel) (by decide +kernel)
set_option maxRecDepth 20000 in
theorem gw_708 : Cond.code ⟨"java/lang/Math","abs","(I)I"⟩ prog_10_method_59_code 1 (some .int) ∈ GG := gg_in 708 rfl rfl
theorem gw_709 : Cond.methodLink "StarChartLaw" 124 ⟨"StarChart","ahead","(II)I"⟩ ∈ GG := gg_in 709 (by decide +kernel) (by decide +kernel)
theorem gw_710 : Cond.instanceMethod ⟨"StarChart","ahead","(II)I"⟩ ∈ GG := gg_in 710 (by decide +kernel) (by decide +kernel)
theorem gw_711 : Cond.selects "StarChart" ⟨"StarChart","ahead","(II)I"⟩ ⟨"StarChart","ahead","(II)I"⟩ ∈ GG := gg_in 711 (by decide +kernel) (by decide +kernel)
set_option maxRecDepth 20000 in
theorem gw_712 : Cond.code ⟨"StarChart","ahead","(II)I"⟩ prog_1_method_28_code 4 (some .int) ∈ GG := gg_in 712 rfl rfl
theorem gw_713 : Cond.methodLink "StarChart" 253 ⟨"StarChart$Trials","manyOf","(I)I"⟩ ∈ GG := gg_in 713 (by decide +kernel) (by decide +kernel)
theorem gw_714 : Cond.methodLink "StarChartLaw" 128 ⟨"StarChart","halves","(I)I"⟩ ∈ GG := gg_in 714 (by decide +kernel) (by decide +kernel)
theorem gw_715 : Cond.instanceMethod ⟨"StarChart","halves","(I)I"⟩ ∈ GG := gg_in 715 (by decide +kernel) (by decide +kernel)
theorem gw_716 : Cond.selects "StarChart" ⟨"StarChart","halves","(I)I"⟩ ⟨"StarChart","halves","(I)I"⟩ ∈ GG := gg_in 716 (by decide +kernel) (by decide +kernel)
set_option maxRecDepth 20000 in
theorem gw_717 : Cond.code ⟨"StarChart","halves","(I)I"⟩ prog_1_method_29_code 6 (some .int) ∈ GG := gg_in 717 rfl rfl
theorem gw_718 : Cond.constant "StarChart" 256 1103515245 ∈ GG := gg_in 718 (by decide +kernel) (by decide +kernel)
theorem gw_719 : Cond.methodLink "StarChartLaw" 132 ⟨"StarChart","lot","(I)I"⟩ ∈ GG := gg_in 719 (by decide +kernel) (by decide +kernel)
theorem gw_720 : Cond.instanceMethod ⟨"StarChart","lot","(I)I"⟩ ∈ GG := gg_in 720 (by decide +kernel) (by decide +kernel)
theorem gw_721 : Cond.selects "StarChart" ⟨"StarChart","lot","(I)I"⟩ ⟨"StarChart","lot","(I)I"⟩ ∈ GG := gg_in 721 (by decide +kernel) (by decide +kernel)
set_option maxRecDepth 20000 in
theorem gw_722 : Cond.code ⟨"StarChart","lot","(I)I"⟩ prog_1_method_30_code 3 (some .int) ∈ GG := gg_in 722 rfl rfl
theorem gw_723 : Cond.methodLink "StarChartLaw" 136 ⟨"StarChart","rate","(II)I"⟩ ∈ GG := gg_in 723 (by decide +kernel) (by decide +kernel)
theorem gw_724 : Cond.instanceMethod ⟨"StarChart","rate","(II)I"⟩ ∈ GG := gg_in 724 (by decide +kernel) (by decide +kernel)
theorem gw_725 : Cond.selects "StarChart" ⟨"StarChart","rate","(II)I"⟩ ⟨"StarChart","rate","(II)I"⟩ ∈ GG := gg_in 725 (by decide +kernel) (by decide +kernel)
set_option maxRecDepth 20000 in
theorem gw_726 : Cond.code ⟨"StarChart","rate","(II)I"⟩ prog_1_method_31_code 3 (some .int) ∈ GG := gg_in 726 rfl rfl
theorem gw_727 : Cond.methodLink "StarChart" 257 ⟨"StarChart","rateOfPay","(I)I"⟩ ∈ GG := gg_in 727 (by decide +kernel) (by decide +kernel)
theorem gw_729 : Cond.instanceMethod ⟨"StarChart","rateOfPay","(I)I"⟩ ∈ GG := gg_in 729 (by decide +kernel) (by decide +kernel)
set_option maxRecDepth 20000 in
theorem gw_730 : Cond.code ⟨"StarChart","rateOfPay","(I)I"⟩ prog_1_method_44_code 2 (some .int) ∈ GG := gg_in 730 rfl rfl
theorem gw_731 : Cond.methodLink "StarChart" 260 ⟨"StarChart","rateOfTold","(I)I"⟩ ∈ GG := gg_in 731 (by decide +kernel) (by decide +kernel)
theorem gw_733 : Cond.instanceMethod ⟨"StarChart","rateOfTold","(I)I"⟩ ∈ GG := gg_in 733 (by decide +kernel) (by decide +kernel)
set_option maxRecDepth 20000 in
theorem gw_734 : Cond.code ⟨"StarChart","rateOfTold","(I)I"⟩ prog_1_method_45_code 2 (some .int) ∈ GG := gg_in 734 rfl rfl
theorem gw_735 : Cond.constantLong "StarChart" 297 10 ∈ GG := gg_in 735 (by decide +kernel) (by decide +kernel)
theorem gw_736 : Cond.methodLink "StarChart" 263 ⟨"StarChart","rateOfUnforeseen","(I)I"⟩ ∈ GG := gg_in 736 (by decide +kernel) (by decide +kernel)
theorem gw_738 : Cond.instanceMethod ⟨"StarChart","rateOfUnforeseen","(I)I"⟩ ∈ GG := gg_in 738 (by decide +kernel) (by decide +kernel)
set_option maxRecDepth 20000 in
theorem gw_739 : Cond.code ⟨"StarChart","rateOfUnforeseen","(I)I"⟩ prog_1_method_46_code 2 (some .int) ∈ GG := gg_in 739 rfl rfl
theorem gw_740 : Cond.constantLong "StarChart" 299 100 ∈ GG := gg_in 740 (by decide +kernel) (by decide +kernel)
theorem gw_741 : Cond.methodLink "StarChart" 266 ⟨"StarChart","rateOfDoing","(I)I"⟩ ∈ GG := gg_in 741 (by decide +kernel) (by decide +kernel)
theorem gw_743 : Cond.instanceMethod ⟨"StarChart","rateOfDoing","(I)I"⟩ ∈ GG := gg_in 743 (by decide +kernel) (by decide +kernel)
set_option maxRecDepth 20000 in
theorem gw_744 : Cond.code ⟨"StarChart","rateOfDoing","(I)I"⟩ prog_1_method_47_code 2 (some .int) ∈ GG := gg_in 744 rfl rfl
theorem gw_745 : Cond.constantLong "StarChart" 301 1000 ∈ GG := gg_in 745 (by decide +kernel) (by decide +kernel)
theorem gw_746 : Cond.methodLink "StarChart" 269 ⟨"StarChart","rateOfWell","(I)I"⟩ ∈ GG := gg_in 746 (by decide +kernel) (by decide +kernel)
theorem gw_748 : Cond.instanceMethod ⟨"StarChart","rateOfWell","(I)I"⟩ ∈ GG := gg_in 748 (by decide +kernel) (by decide +kernel)
set_option maxRecDepth 20000 in
theorem gw_749 : Cond.code ⟨"StarChart","rateOfWell","(I)I"⟩ prog_1_method_48_code 2 (some .int) ∈ GG := gg_in 749 rfl rfl
theorem gw_750 : Cond.constantLong "StarChart" 303 10000 ∈ GG := gg_in 750 (by decide +kernel) (by decide +kernel)
theorem gw_751 : Cond.methodLink "StarChart" 272 ⟨"StarChart","rateOfCommon","(I)I"⟩ ∈ GG := gg_in 751 (by decide +kernel) (by decide +kernel)
theorem gw_753 : Cond.instanceMethod ⟨"StarChart","rateOfCommon","(I)I"⟩ ∈ GG := gg_in 753 (by decide +kernel) (by decide +kernel)
set_option maxRecDepth 20000 in
theorem gw_754 : Cond.code ⟨"StarChart","rateOfCommon","(I)I"⟩ prog_1_method_49_code 2 (some .int) ∈ GG := gg_in 754 rfl rfl
theorem gw_755 : Cond.constantLong "StarChart" 305 100000 ∈ GG := gg_in 755 (by decide +kernel) (by decide +kernel)
theorem gw_756 : Cond.methodLink "StarChartLaw" 140 ⟨"StarChart","keep","(I)I"⟩ ∈ GG := gg_in 756 (by decide +kernel) (by decide +kernel)
theorem gw_757 : Cond.instanceMethod ⟨"StarChart","keep","(I)I"⟩ ∈ GG := gg_in 757 (by decide +kernel) (by decide +kernel)
theorem gw_758 : Cond.selects "StarChart" ⟨"StarChart","keep","(I)I"⟩ ⟨"StarChart","keep","(I)I"⟩ ∈ GG := gg_in 758 (by decide +kernel) (by decide +kernel)
set_option maxRecDepth 20000 in
theorem gw_759 : Cond.code ⟨"StarChart","keep","(I)I"⟩ prog_1_method_32_code 3 (some .int) ∈ GG := gg_in 759 rfl rfl
theorem gw_760 : Cond.methodLink "StarChart" 275 ⟨"StarChart","imageOf","(I)LStarChart$Image;"⟩ ∈ GG := gg_in 760 (by decide +kernel) (by decide +kernel)
theorem gw_762 : Cond.instanceMethod ⟨"StarChart","imageOf","(I)LStarChart$Image;"⟩ ∈ GG := gg_in 762 (by decide +kernel) (by decide +kernel)
set_option maxRecDepth 20000 in
theorem gw_763 : Cond.code ⟨"StarChart","imageOf","(I)LStarChart$Image;"⟩ prog_1_method_40_code 2 (some (.object "StarChart$Image")) ∈ GG := gg_in 763 rfl rfl
theorem gw_764 : Cond.methodLink "StarChart" 283 ⟨"StarChart$Course","copyOf","(LStarChart$Course;)V"⟩ ∈ GG := gg_in 764 (by decide +kernel) (by decide +kernel)
theorem gw_765 : Cond.instanceMethod ⟨"StarChart$Course","copyOf","(LStarChart$Course;)V"⟩ ∈ GG := gg_in 765 (by decide +kernel) (by decide +kernel)
theorem gw_766 : Cond.selects "StarChart$Course" ⟨"StarChart$Course","copyOf","(LStarChart$Course;)V"⟩ ⟨"StarChart$Course","copyOf","(LStarChart$Course;)V"⟩ ∈ GG := gg_in 766 (by decide +kernel) (by decide +kernel)
set_option maxRecDepth 20000 in
theorem gw_767 : Cond.code ⟨"StarChart$Course","copyOf","(LStarChart$Course;)V"⟩ prog_2_method_3_code 2 none ∈ GG := gg_in 767 rfl rfl
theorem gw_768 : Cond.methodLink "StarChart$Course" 31 ⟨"java/lang/System","arraycopy","(Ljava/lang/Object;ILjava/lang/Object;II)V"⟩ ∈ GG := gg_in 768 (by decide +kernel) (by decide +kernel)
theorem gw_769 : Cond.methodLink "StarChartLaw" 144 ⟨"StarChart","back","(I)I"⟩ ∈ GG := gg_in 769 (by decide +kernel) (by decide +kernel)
theorem gw_770 : Cond.instanceMethod ⟨"StarChart","back","(I)I"⟩ ∈ GG := gg_in 770 (by decide +kernel) (by decide +kernel)
theorem gw_771 : Cond.selects "StarChart" ⟨"StarChart","back","(I)I"⟩ ⟨"StarChart","back","(I)I"⟩ ∈ GG := gg_in 771 (by decide +kernel) (by decide +kernel)
set_option maxRecDepth 20000 in
theorem gw_772 : Cond.code ⟨"StarChart","back","(I)I"⟩ prog_1_method_33_code 3 (some .int) ∈ GG := gg_in 772 rfl rfl
theorem gw_773 : Cond.methodLink "StarChartLaw" 148 ⟨"StarChart","count","(I)I"⟩ ∈ GG := gg_in 773 (by decide +kernel) (by decide +kernel)
theorem gw_774 : Cond.instanceMethod ⟨"StarChart","count","(I)I"⟩ ∈ GG := gg_in 774 (by decide +kernel) (by decide +kernel)
theorem gw_775 : Cond.selects "StarChart" ⟨"StarChart","count","(I)I"⟩ ⟨"StarChart","count","(I)I"⟩ ∈ GG := gg_in 775 (by decide +kernel) (by decide +kernel)
set_option maxRecDepth 20000 in
theorem gw_776 : Cond.code ⟨"StarChart","count","(I)I"⟩ prog_1_method_34_code 2 (some .int) ∈ GG := gg_in 776 rfl rfl
theorem gw_777 : Cond.methodLink "StarChartLaw" 152 ⟨"StarChart","trace","()J"⟩ ∈ GG := gg_in 777 (by decide +kernel) (by decide +kernel)
theorem gw_778 : Cond.instanceMethod ⟨"StarChart","trace","()J"⟩ ∈ GG := gg_in 778 (by decide +kernel) (by decide +kernel)
theorem gw_779 : Cond.selects "StarChart" ⟨"StarChart","trace","()J"⟩ ⟨"StarChart","trace","()J"⟩ ∈ GG := gg_in 779 (by decide +kernel) (by decide +kernel)
set_option maxRecDepth 20000 in
theorem gw_780 : Cond.code ⟨"StarChart","trace","()J"⟩ prog_1_method_35_code 1 (some .long) ∈ GG := gg_in 780 rfl rfl
theorem gw_781 : Cond.classLink "StarChartLaw" 10 "StarChartModel" ∈ GG := gg_in 781 (by decide +kernel) (by decide +kernel)
theorem gw_782 : Cond.instantiable "StarChartModel" 20 ∈ GG := gg_in 782 (by decide +kernel) (by decide +kernel)
theorem gw_783 : Cond.methodLink "StarChartLaw" 12 ⟨"StarChartModel","<init>","()V"⟩ ∈ GG := gg_in 783 (by decide +kernel) (by decide +kernel)
theorem gw_784 : Cond.instanceMethod ⟨"StarChartModel","<init>","()V"⟩ ∈ GG := gg_in 784 (by decide +kernel) (by decide +kernel)
set_option maxRecDepth 20000 in
theorem gw_785 : Cond.code ⟨"StarChartModel","<init>","()V"⟩ prog_9_method_1_code 1 none ∈ GG := gg_in 785 rfl rfl
theorem gw_786 : Cond.methodLink "StarChartModel" 1 ⟨"java/lang/Object","<init>","()V"⟩ ∈ GG := gg_in 786 (by decide +kernel) (by decide +kernel)
theorem gw_787 : Cond.methodLink "StarChartModel" 41 ⟨"StarChartModel","drafts","()V"⟩ ∈ GG := gg_in 787 (by decide +kernel) (by decide +kernel)
theorem gw_789 : Cond.instanceMethod ⟨"StarChartModel","drafts","()V"⟩ ∈ GG := gg_in 789 (by decide +kernel) (by decide +kernel)
set_option maxRecDepth 20000 in
theorem gw_790 : Cond.code ⟨"StarChartModel","drafts","()V"⟩ prog_9_method_15_code 2 none ∈ GG := gg_in 790 rfl rfl
theorem gw_791 : Cond.methodLink "StarChartModel" 44 ⟨"StarChartModel","adopts","()V"⟩ ∈ GG := gg_in 791 (by decide +kernel) (by decide +kernel)
theorem gw_793 : Cond.instanceMethod ⟨"StarChartModel","adopts","()V"⟩ ∈ GG := gg_in 793 (by decide +kernel) (by decide +kernel)
set_option maxRecDepth 20000 in
theorem gw_794 : Cond.code ⟨"StarChartModel","adopts","()V"⟩ prog_9_method_18_code 2 none ∈ GG := gg_in 794 rfl rfl
theorem gw_795 : Cond.methodLink "StarChartModel" 116 ⟨"StarChartModel","begins","([I)V"⟩ ∈ GG := gg_in 795 (by decide +kernel) (by decide +kernel)
theorem gw_797 : Cond.instanceMethod ⟨"StarChartModel","begins","([I)V"⟩ ∈ GG := gg_in 797 (by decide +kernel) (by decide +kernel)
set_option maxRecDepth 20000 in
theorem gw_798 : Cond.code ⟨"StarChartModel","begins","([I)V"⟩ prog_9_method_19_code 3 none ∈ GG := gg_in 798 rfl rfl
theorem gw_799 : Cond.fieldLink "StarChartModel" 47 "StarChartModel" "thrown" "I" ∈ GG := gg_in 799 (by decide +kernel) (by decide +kernel)
theorem gw_800 : Cond.fieldLink "StarChartModel" 201 "StarChartModel" "trace" "J" ∈ GG := gg_in 800 (by decide +kernel) (by decide +kernel)
theorem gw_801 : Cond.fieldLink "StarChartModel" 7 "StarChartModel" "text" "[I" ∈ GG := gg_in 801 (by decide +kernel) (by decide +kernel)
theorem gw_802 : Cond.fieldLink "StarChartModel" 55 "StarChartModel" "typed" "I" ∈ GG := gg_in 802 (by decide +kernel) (by decide +kernel)
theorem gw_803 : Cond.fieldLink "StarChartModel" 70 "StarChartModel" "next" "I" ∈ GG := gg_in 803 (by decide +kernel) (by decide +kernel)
theorem gw_804 : Cond.fieldLink "StarChartModel" 80 "StarChartModel" "token" "I" ∈ GG := gg_in 804 (by decide +kernel) (by decide +kernel)
theorem gw_805 : Cond.fieldLink "StarChartModel" 77 "StarChartModel" "place" "I" ∈ GG := gg_in 805 (by decide +kernel) (by decide +kernel)
theorem gw_806 : Cond.fieldLink "StarChartModel" 87 "StarChartModel" "value" "I" ∈ GG := gg_in 806 (by decide +kernel) (by decide +kernel)
theorem gw_807 : Cond.fieldLink "StarChartModel" 90 "StarChartModel" "fault" "I" ∈ GG := gg_in 807 (by decide +kernel) (by decide +kernel)
theorem gw_808 : Cond.fieldLink "StarChartModel" 13 "StarChartModel" "told" "[I" ∈ GG := gg_in 808 (by decide +kernel) (by decide +kernel)
theorem gw_809 : Cond.fieldLink "StarChartModel" 16 "StarChartModel" "tunes" "[I" ∈ GG := gg_in 809 (by decide +kernel) (by decide +kernel)
theorem gw_810 : Cond.fieldLink "StarChartModel" 19 "StarChartModel" "s" "[I" ∈ GG := gg_in 810 (by decide +kernel) (by decide +kernel)
theorem gw_811 : Cond.fieldLink "StarChartModel" 22 "StarChartModel" "kept" "[I" ∈ GG := gg_in 811 (by decide +kernel) (by decide +kernel)
theorem gw_812 : Cond.fieldLink "StarChartModel" 25 "StarChartModel" "isKept" "[Z" ∈ GG := gg_in 812 (by decide +kernel) (by decide +kernel)
theorem gw_813 : Cond.fieldLink "StarChartModel" 29 "StarChartModel" "f" "[I" ∈ GG := gg_in 813 (by decide +kernel) (by decide +kernel)
theorem gw_814 : Cond.fieldLink "StarChartModel" 32 "StarChartModel" "was" "[I" ∈ GG := gg_in 814 (by decide +kernel) (by decide +kernel)
theorem gw_815 : Cond.fieldLink "StarChartModel" 126 "StarChartModel" "isBare" "Z" ∈ GG := gg_in 815 (by decide +kernel) (by decide +kernel)
theorem gw_816 : Cond.fieldLink "StarChartModel" 35 "StarChartModel" "trialSort" "[I" ∈ GG := gg_in 816 (by decide +kernel) (by decide +kernel)
theorem gw_817 : Cond.fieldLink "StarChartModel" 38 "StarChartModel" "trialCame" "[I" ∈ GG := gg_in 817 (by decide +kernel) (by decide +kernel)
theorem gw_818 : Cond.fieldLink "StarChartModel" 184 "StarChartModel" "trials" "I" ∈ GG := gg_in 818 (by decide +kernel) (by decide +kernel)
theorem gw_819 : Cond.lays "StarChartModel" "StarChartModel" "thrown" "I" ∈ GG := gg_in 819 (by decide +kernel) (by decide +kernel)
theorem gw_821 : Cond.lays "StarChartModel" "StarChartModel" "trace" "J" ∈ GG := gg_in 821 (by decide +kernel) (by decide +kernel)
theorem gw_823 : Cond.laysFinal "StarChartModel" "StarChartModel" "text" "[I" ∈ GG := gg_in 823 (by decide +kernel) (by decide +kernel)
theorem gw_825 : Cond.lays "StarChartModel" "StarChartModel" "typed" "I" ∈ GG := gg_in 825 (by decide +kernel) (by decide +kernel)
theorem gw_827 : Cond.lays "StarChartModel" "StarChartModel" "next" "I" ∈ GG := gg_in 827 (by decide +kernel) (by decide +kernel)
theorem gw_829 : Cond.lays "StarChartModel" "StarChartModel" "token" "I" ∈ GG := gg_in 829 (by decide +kernel) (by decide +kernel)
theorem gw_831 : Cond.lays "StarChartModel" "StarChartModel" "place" "I" ∈ GG := gg_in 831 (by decide +kernel) (by decide +kernel)
theorem gw_833 : Cond.lays "StarChartModel" "StarChartModel" "value" "I" ∈ GG := gg_in 833 (by decide +kernel) (by decide +kernel)
theorem gw_835 : Cond.lays "StarChartModel" "StarChartModel" "fault" "I" ∈ GG := gg_in 835 (by decide +kernel) (by decide +kernel)
theorem gw_837 : Cond.laysFinal "StarChartModel" "StarChartModel" "told" "[I" ∈ GG := gg_in 837 (by decide +kernel) (by decide +kernel)
theorem gw_839 : Cond.laysFinal "StarChartModel" "StarChartModel" "tunes" "[I" ∈ GG := gg_in 839 (by decide +kernel) (by decide +kernel)
theorem gw_841 : Cond.laysFinal "StarChartModel" "StarChartModel" "s" "[I" ∈ GG := gg_in 841 (by decide +kernel) (by decide +kernel)
theorem gw_843 : Cond.laysFinal "StarChartModel" "StarChartModel" "kept" "[I" ∈ GG := gg_in 843 (by decide +kernel) (by decide +kernel)
theorem gw_845 : Cond.laysFinal "StarChartModel" "StarChartModel" "isKept" "[Z" ∈ GG := gg_in 845 (by decide +kernel) (by decide +kernel)
theorem gw_847 : Cond.laysFinal "StarChartModel" "StarChartModel" "f" "[I" ∈ GG := gg_in 847 (by decide +kernel) (by decide +kernel)
theorem gw_849 : Cond.laysFinal "StarChartModel" "StarChartModel" "was" "[I" ∈ GG := gg_in 849 (by decide +kernel) (by decide +kernel)
theorem gw_851 : Cond.lays "StarChartModel" "StarChartModel" "isBare" "Z" ∈ GG := gg_in 851 (by decide +kernel) (by decide +kernel)
theorem gw_853 : Cond.laysFinal "StarChartModel" "StarChartModel" "trialSort" "[I" ∈ GG := gg_in 853 (by decide +kernel) (by decide +kernel)
theorem gw_855 : Cond.laysFinal "StarChartModel" "StarChartModel" "trialCame" "[I" ∈ GG := gg_in 855 (by decide +kernel) (by decide +kernel)
theorem gw_857 : Cond.lays "StarChartModel" "StarChartModel" "trials" "I" ∈ GG := gg_in 857 (by decide +kernel) (by decide +kernel)
theorem gw_860 : Cond.arrayClass .boolean ∈ GG := gg_in 860 (by decide +kernel) (by decide +kernel)
theorem gw_861 : Cond.methodLink "StarChartLaw" 19 ⟨"StarChartModel","type","(JI)I"⟩ ∈ GG := gg_in 861 (by decide +kernel) (by decide +kernel)
theorem gw_862 : Cond.instanceMethod ⟨"StarChartModel","type","(JI)I"⟩ ∈ GG := gg_in 862 (by decide +kernel) (by decide +kernel)
theorem gw_863 : Cond.selects "StarChartModel" ⟨"StarChartModel","type","(JI)I"⟩ ⟨"StarChartModel","type","(JI)I"⟩ ∈ GG := gg_in 863 (by decide +kernel) (by decide +kernel)
set_option maxRecDepth 20000 in
theorem gw_864 : Cond.code ⟨"StarChartModel","type","(JI)I"⟩ prog_9_method_4_code 5 (some .int) ∈ GG := gg_in 864 rfl rfl
theorem gw_865 : Cond.methodLink "StarChartModel" 51 ⟨"StarChartModel","in","(III)Z"⟩ ∈ GG := gg_in 865 (by decide +kernel) (by decide +kernel)
theorem gw_866 : Cond.static ⟨"StarChartModel","in","(III)Z"⟩ ∈ GG := gg_in 866 (by decide +kernel) (by decide +kernel)
set_option maxRecDepth 20000 in
theorem gw_867 : Cond.code ⟨"StarChartModel","in","(III)Z"⟩ prog_9_method_3_code 3 (some .boolean) ∈ GG := gg_in 867 rfl rfl
theorem gw_868 : Cond.constantLong "StarChartModel" 58 255 ∈ GG := gg_in 868 (by decide +kernel) (by decide +kernel)
theorem gw_869 : Cond.methodLink "StarChartLaw" 24 ⟨"StarChartModel","clear","()I"⟩ ∈ GG := gg_in 869 (by decide +kernel) (by decide +kernel)
theorem gw_870 : Cond.instanceMethod ⟨"StarChartModel","clear","()I"⟩ ∈ GG := gg_in 870 (by decide +kernel) (by decide +kernel)
theorem gw_871 : Cond.selects "StarChartModel" ⟨"StarChartModel","clear","()I"⟩ ⟨"StarChartModel","clear","()I"⟩ ∈ GG := gg_in 871 (by decide +kernel) (by decide +kernel)
set_option maxRecDepth 20000 in
theorem gw_872 : Cond.code ⟨"StarChartModel","clear","()I"⟩ prog_9_method_5_code 2 (some .int) ∈ GG := gg_in 872 rfl rfl
theorem gw_873 : Cond.methodLink "StarChartLaw" 28 ⟨"StarChartModel","chart","()I"⟩ ∈ GG := gg_in 873 (by decide +kernel) (by decide +kernel)
theorem gw_874 : Cond.instanceMethod ⟨"StarChartModel","chart","()I"⟩ ∈ GG := gg_in 874 (by decide +kernel) (by decide +kernel)
theorem gw_875 : Cond.selects "StarChartModel" ⟨"StarChartModel","chart","()I"⟩ ⟨"StarChartModel","chart","()I"⟩ ∈ GG := gg_in 875 (by decide +kernel) (by decide +kernel)
set_option maxRecDepth 20000 in
theorem gw_876 : Cond.code ⟨"StarChartModel","chart","()I"⟩ prog_9_method_17_code 5 (some .int) ∈ GG := gg_in 876 rfl rfl
theorem gw_877 : Cond.methodLink "StarChartModel" 97 ⟨"StarChartModel","advances","()V"⟩ ∈ GG := gg_in 877 (by decide +kernel) (by decide +kernel)
theorem gw_879 : Cond.instanceMethod ⟨"StarChartModel","advances","()V"⟩ ∈ GG := gg_in 879 (by decide +kernel) (by decide +kernel)
set_option maxRecDepth 20000 in
theorem gw_880 : Cond.code ⟨"StarChartModel","advances","()V"⟩ prog_9_method_10_code 4 none ∈ GG := gg_in 880 rfl rfl
theorem gw_881 : Cond.methodLink "StarChartModel" 73 ⟨"StarChartModel","byteAt","(I)I"⟩ ∈ GG := gg_in 881 (by decide +kernel) (by decide +kernel)
theorem gw_883 : Cond.instanceMethod ⟨"StarChartModel","byteAt","(I)I"⟩ ∈ GG := gg_in 883 (by decide +kernel) (by decide +kernel)
set_option maxRecDepth 20000 in
theorem gw_884 : Cond.code ⟨"StarChartModel","byteAt","(I)I"⟩ prog_9_method_6_code 2 (some .int) ∈ GG := gg_in 884 rfl rfl
theorem gw_885 : Cond.methodLink "StarChartModel" 62 ⟨"StarChartModel","add","(JI)J"⟩ ∈ GG := gg_in 885 (by decide +kernel) (by decide +kernel)
theorem gw_886 : Cond.static ⟨"StarChartModel","add","(JI)J"⟩ ∈ GG := gg_in 886 (by decide +kernel) (by decide +kernel)
set_option maxRecDepth 20000 in
theorem gw_887 : Cond.code ⟨"StarChartModel","add","(JI)J"⟩ prog_9_method_7_code 3 (some .long) ∈ GG := gg_in 887 rfl rfl
theorem gw_888 : Cond.constantLong "StarChartModel" 60 256 ∈ GG := gg_in 888 (by decide +kernel) (by decide +kernel)
theorem gw_889 : Cond.methodLink "StarChartModel" 83 ⟨"StarChartModel","wordOf","(J)I"⟩ ∈ GG := gg_in 889 (by decide +kernel) (by decide +kernel)
theorem gw_890 : Cond.static ⟨"StarChartModel","wordOf","(J)I"⟩ ∈ GG := gg_in 890 (by decide +kernel) (by decide +kernel)
set_option maxRecDepth 20000 in
theorem gw_891 : Cond.code ⟨"StarChartModel","wordOf","(J)I"⟩ prog_9_method_9_code 3 (some .int) ∈ GG := gg_in 891 rfl rfl
theorem gw_892 : Cond.methodLink "StarChartModel" 66 ⟨"StarChartModel","named","(IIIII)J"⟩ ∈ GG := gg_in 892 (by decide +kernel) (by decide +kernel)
theorem gw_893 : Cond.static ⟨"StarChartModel","named","(IIIII)J"⟩ ∈ GG := gg_in 893 (by decide +kernel) (by decide +kernel)
set_option maxRecDepth 20000 in
theorem gw_894 : Cond.code ⟨"StarChartModel","named","(IIIII)J"⟩ prog_9_method_8_code 5 (some .long) ∈ GG := gg_in 894 rfl rfl
theorem gw_895 : Cond.methodLink "StarChartModel" 93 ⟨"StarChartModel","isWell","()Z"⟩ ∈ GG := gg_in 895 (by decide +kernel) (by decide +kernel)
theorem gw_897 : Cond.instanceMethod ⟨"StarChartModel","isWell","()Z"⟩ ∈ GG := gg_in 897 (by decide +kernel) (by decide +kernel)
set_option maxRecDepth 20000 in
theorem gw_898 : Cond.code ⟨"StarChartModel","isWell","()Z"⟩ prog_9_method_11_code 1 (some .boolean) ∈ GG := gg_in 898 rfl rfl
theorem gw_899 : Cond.methodLink "StarChartModel" 100 ⟨"StarChartModel","takes","(Z)I"⟩ ∈ GG := gg_in 899 (by decide +kernel) (by decide +kernel)
theorem gw_901 : Cond.instanceMethod ⟨"StarChartModel","takes","(Z)I"⟩ ∈ GG := gg_in 901 (by decide +kernel) (by decide +kernel)
set_option maxRecDepth 20000 in
theorem gw_902 : Cond.code ⟨"StarChartModel","takes","(Z)I"⟩ prog_9_method_12_code 3 (some .int) ∈ GG := gg_in 902 rfl rfl
theorem gw_903 : Cond.methodLink "StarChartModel" 112 ⟨"StarChartModel","readsItem","(I)V"⟩ ∈ GG := gg_in 903 (by decide +kernel) (by decide +kernel)
theorem gw_905 : Cond.instanceMethod ⟨"StarChartModel","readsItem","(I)V"⟩ ∈ GG := gg_in 905 (by decide +kernel) (by decide +kernel)
set_option maxRecDepth 20000 in
theorem gw_906 : Cond.code ⟨"StarChartModel","readsItem","(I)V"⟩ prog_9_method_16_code 4 none ∈ GG := gg_in 906 rfl rfl
theorem gw_907 : Cond.methodLink "StarChartModel" 104 ⟨"StarChartModel","number","(II)I"⟩ ∈ GG := gg_in 907 (by decide +kernel) (by decide +kernel)
theorem gw_909 : Cond.instanceMethod ⟨"StarChartModel","number","(II)I"⟩ ∈ GG := gg_in 909 (by decide +kernel) (by decide +kernel)
set_option maxRecDepth 20000 in
theorem gw_910 : Cond.code ⟨"StarChartModel","number","(II)I"⟩ prog_9_method_13_code 3 (some .int) ∈ GG := gg_in 910 rfl rfl
theorem gw_911 : Cond.methodLink "StarChartModel" 108 ⟨"StarChartModel","takesWord","(I)Z"⟩ ∈ GG := gg_in 911 (by decide +kernel) (by decide +kernel)
theorem gw_913 : Cond.instanceMethod ⟨"StarChartModel","takesWord","(I)Z"⟩ ∈ GG := gg_in 913 (by decide +kernel) (by decide +kernel)
set_option maxRecDepth 20000 in
theorem gw_914 : Cond.code ⟨"StarChartModel","takesWord","(I)Z"⟩ prog_9_method_14_code 3 (some .boolean) ∈ GG := gg_in 914 rfl rfl
theorem gw_915 : Cond.methodLink "StarChartLaw" 33 ⟨"StarChartModel","child","(II)I"⟩ ∈ GG := gg_in 915 (by decide +kernel) (by decide +kernel)
theorem gw_916 : Cond.instanceMethod ⟨"StarChartModel","child","(II)I"⟩ ∈ GG := gg_in 916 (by decide +kernel) (by decide +kernel)
theorem gw_917 : Cond.selects "StarChartModel" ⟨"StarChartModel","child","(II)I"⟩ ⟨"StarChartModel","child","(II)I"⟩ ∈ GG := gg_in 917 (by decide +kernel) (by decide +kernel)
set_option maxRecDepth 20000 in
theorem gw_918 : Cond.code ⟨"StarChartModel","child","(II)I"⟩ prog_9_method_23_code 3 (some .int) ∈ GG := gg_in 918 rfl rfl
theorem gw_919 : Cond.methodLink "StarChartModel" 120 ⟨"StarChartModel","isChild","(I)Z"⟩ ∈ GG := gg_in 919 (by decide +kernel) (by decide +kernel)
theorem gw_921 : Cond.instanceMethod ⟨"StarChartModel","isChild","(I)Z"⟩ ∈ GG := gg_in 921 (by decide +kernel) (by decide +kernel)
set_option maxRecDepth 20000 in
theorem gw_922 : Cond.code ⟨"StarChartModel","isChild","(I)Z"⟩ prog_9_method_20_code 2 (some .boolean) ∈ GG := gg_in 922 rfl rfl
theorem gw_923 : Cond.methodLink "StarChartLaw" 37 ⟨"StarChartModel","book","(II)I"⟩ ∈ GG := gg_in 923 (by decide +kernel) (by decide +kernel)
theorem gw_924 : Cond.instanceMethod ⟨"StarChartModel","book","(II)I"⟩ ∈ GG := gg_in 924 (by decide +kernel) (by decide +kernel)
theorem gw_925 : Cond.selects "StarChartModel" ⟨"StarChartModel","book","(II)I"⟩ ⟨"StarChartModel","book","(II)I"⟩ ∈ GG := gg_in 925 (by decide +kernel) (by decide +kernel)
set_option maxRecDepth 20000 in
theorem gw_926 : Cond.code ⟨"StarChartModel","book","(II)I"⟩ prog_9_method_24_code 3 (some .int) ∈ GG := gg_in 926 rfl rfl
theorem gw_927 : Cond.methodLink "StarChartModel" 123 ⟨"StarChartModel","isSort","(I)Z"⟩ ∈ GG := gg_in 927 (by decide +kernel) (by decide +kernel)
theorem gw_929 : Cond.instanceMethod ⟨"StarChartModel","isSort","(I)Z"⟩ ∈ GG := gg_in 929 (by decide +kernel) (by decide +kernel)
set_option maxRecDepth 20000 in
theorem gw_930 : Cond.code ⟨"StarChartModel","isSort","(I)Z"⟩ prog_9_method_21_code 2 (some .boolean) ∈ GG := gg_in 930 rfl rfl
theorem gw_931 : Cond.methodLink "StarChartLaw" 42 ⟨"StarChartModel","plan","(I)I"⟩ ∈ GG := gg_in 931 (by decide +kernel) (by decide +kernel)
theorem gw_932 : Cond.instanceMethod ⟨"StarChartModel","plan","(I)I"⟩ ∈ GG := gg_in 932 (by decide +kernel) (by decide +kernel)
theorem gw_933 : Cond.selects "StarChartModel" ⟨"StarChartModel","plan","(I)I"⟩ ⟨"StarChartModel","plan","(I)I"⟩ ∈ GG := gg_in 933 (by decide +kernel) (by decide +kernel)
set_option maxRecDepth 20000 in
theorem gw_934 : Cond.code ⟨"StarChartModel","plan","(I)I"⟩ prog_9_method_25_code 2 (some .int) ∈ GG := gg_in 934 rfl rfl
theorem gw_935 : Cond.methodLink "StarChartLaw" 46 ⟨"StarChartModel","tune","(II)I"⟩ ∈ GG := gg_in 935 (by decide +kernel) (by decide +kernel)
theorem gw_936 : Cond.instanceMethod ⟨"StarChartModel","tune","(II)I"⟩ ∈ GG := gg_in 936 (by decide +kernel) (by decide +kernel)
theorem gw_937 : Cond.selects "StarChartModel" ⟨"StarChartModel","tune","(II)I"⟩ ⟨"StarChartModel","tune","(II)I"⟩ ∈ GG := gg_in 937 (by decide +kernel) (by decide +kernel)
set_option maxRecDepth 20000 in
theorem gw_938 : Cond.code ⟨"StarChartModel","tune","(II)I"⟩ prog_9_method_26_code 5 (some .int) ∈ GG := gg_in 938 rfl rfl
theorem gw_939 : Cond.methodLink "StarChartLaw" 50 ⟨"StarChartModel","given","(II)I"⟩ ∈ GG := gg_in 939 (by decide +kernel) (by decide +kernel)
theorem gw_940 : Cond.instanceMethod ⟨"StarChartModel","given","(II)I"⟩ ∈ GG := gg_in 940 (by decide +kernel) (by decide +kernel)
theorem gw_941 : Cond.selects "StarChartModel" ⟨"StarChartModel","given","(II)I"⟩ ⟨"StarChartModel","given","(II)I"⟩ ∈ GG := gg_in 941 (by decide +kernel) (by decide +kernel)
set_option maxRecDepth 20000 in
theorem gw_942 : Cond.code ⟨"StarChartModel","given","(II)I"⟩ prog_9_method_28_code 3 (some .int) ∈ GG := gg_in 942 rfl rfl
theorem gw_943 : Cond.methodLink "StarChartModel" 130 ⟨"StarChartModel","isDay","(I)Z"⟩ ∈ GG := gg_in 943 (by decide +kernel) (by decide +kernel)
theorem gw_944 : Cond.static ⟨"StarChartModel","isDay","(I)Z"⟩ ∈ GG := gg_in 944 (by decide +kernel) (by decide +kernel)
set_option maxRecDepth 20000 in
theorem gw_945 : Cond.code ⟨"StarChartModel","isDay","(I)Z"⟩ prog_9_method_22_code 1 (some .boolean) ∈ GG := gg_in 945 rfl rfl
theorem gw_946 : Cond.methodLink "StarChartModel" 133 ⟨"StarChartModel","givenOf","(II)I"⟩ ∈ GG := gg_in 946 (by decide +kernel) (by decide +kernel)
theorem gw_948 : Cond.instanceMethod ⟨"StarChartModel","givenOf","(II)I"⟩ ∈ GG := gg_in 948 (by decide +kernel) (by decide +kernel)
set_option maxRecDepth 20000 in
theorem gw_949 : Cond.code ⟨"StarChartModel","givenOf","(II)I"⟩ prog_9_method_27_code 5 (some .int) ∈ GG := gg_in 949 rfl rfl
theorem gw_950 : Cond.methodLink "StarChartLaw" 55 ⟨"StarChartModel","want","(III)I"⟩ ∈ GG := gg_in 950 (by decide +kernel) (by decide +kernel)
theorem gw_951 : Cond.instanceMethod ⟨"StarChartModel","want","(III)I"⟩ ∈ GG := gg_in 951 (by decide +kernel) (by decide +kernel)
theorem gw_952 : Cond.selects "StarChartModel" ⟨"StarChartModel","want","(III)I"⟩ ⟨"StarChartModel","want","(III)I"⟩ ∈ GG := gg_in 952 (by decide +kernel) (by decide +kernel)
set_option maxRecDepth 20000 in
theorem gw_953 : Cond.code ⟨"StarChartModel","want","(III)I"⟩ prog_9_method_34_code 4 (some .int) ∈ GG := gg_in 953 rfl rfl
theorem gw_954 : Cond.methodLink "StarChartModel" 136 ⟨"StarChartModel","pagesOf","(II)I"⟩ ∈ GG := gg_in 954 (by decide +kernel) (by decide +kernel)
theorem gw_956 : Cond.instanceMethod ⟨"StarChartModel","pagesOf","(II)I"⟩ ∈ GG := gg_in 956 (by decide +kernel) (by decide +kernel)
set_option maxRecDepth 20000 in
theorem gw_957 : Cond.code ⟨"StarChartModel","pagesOf","(II)I"⟩ prog_9_method_29_code 3 (some .int) ∈ GG := gg_in 957 rfl rfl
theorem gw_958 : Cond.methodLink "StarChartModel" 139 ⟨"StarChartModel","joysOf","([III)I"⟩ ∈ GG := gg_in 958 (by decide +kernel) (by decide +kernel)
theorem gw_960 : Cond.instanceMethod ⟨"StarChartModel","joysOf","([III)I"⟩ ∈ GG := gg_in 960 (by decide +kernel) (by decide +kernel)
set_option maxRecDepth 20000 in
theorem gw_961 : Cond.code ⟨"StarChartModel","joysOf","([III)I"⟩ prog_9_method_30_code 4 (some .int) ∈ GG := gg_in 961 rfl rfl
theorem gw_962 : Cond.methodLink "StarChartModel" 143 ⟨"StarChartModel","starsOf","([IIII)I"⟩ ∈ GG := gg_in 962 (by decide +kernel) (by decide +kernel)
theorem gw_964 : Cond.instanceMethod ⟨"StarChartModel","starsOf","([IIII)I"⟩ ∈ GG := gg_in 964 (by decide +kernel) (by decide +kernel)
set_option maxRecDepth 20000 in
theorem gw_965 : Cond.code ⟨"StarChartModel","starsOf","([IIII)I"⟩ prog_9_method_31_code 5 (some .int) ∈ GG := gg_in 965 rfl rfl
theorem gw_966 : Cond.methodLink "StarChartModel" 147 ⟨"StarChartModel","wantOf","([IIII)I"⟩ ∈ GG := gg_in 966 (by decide +kernel) (by decide +kernel)
theorem gw_968 : Cond.instanceMethod ⟨"StarChartModel","wantOf","([IIII)I"⟩ ∈ GG := gg_in 968 (by decide +kernel) (by decide +kernel)
set_option maxRecDepth 20000 in
theorem gw_969 : Cond.code ⟨"StarChartModel","wantOf","([IIII)I"⟩ prog_9_method_32_code 5 (some .int) ∈ GG := gg_in 969 rfl rfl
theorem gw_970 : Cond.methodLink "StarChartLaw" 59 ⟨"StarChartModel","choice","(I)I"⟩ ∈ GG := gg_in 970 (by decide +kernel) (by decide +kernel)
theorem gw_971 : Cond.instanceMethod ⟨"StarChartModel","choice","(I)I"⟩ ∈ GG := gg_in 971 (by decide +kernel) (by decide +kernel)
theorem gw_972 : Cond.selects "StarChartModel" ⟨"StarChartModel","choice","(I)I"⟩ ⟨"StarChartModel","choice","(I)I"⟩ ∈ GG := gg_in 972 (by decide +kernel) (by decide +kernel)
set_option maxRecDepth 20000 in
theorem gw_973 : Cond.code ⟨"StarChartModel","choice","(I)I"⟩ prog_9_method_35_code 2 (some .int) ∈ GG := gg_in 973 rfl rfl
theorem gw_974 : Cond.methodLink "StarChartModel" 150 ⟨"StarChartModel","choiceOf","([III)I"⟩ ∈ GG := gg_in 974 (by decide +kernel) (by decide +kernel)
theorem gw_976 : Cond.instanceMethod ⟨"StarChartModel","choiceOf","([III)I"⟩ ∈ GG := gg_in 976 (by decide +kernel) (by decide +kernel)
set_option maxRecDepth 20000 in
theorem gw_977 : Cond.code ⟨"StarChartModel","choiceOf","([III)I"⟩ prog_9_method_33_code 8 (some .int) ∈ GG := gg_in 977 rfl rfl
theorem gw_978 : Cond.methodLink "StarChartLaw" 63 ⟨"StarChartModel","go","(I)I"⟩ ∈ GG := gg_in 978 (by decide +kernel) (by decide +kernel)
theorem gw_979 : Cond.instanceMethod ⟨"StarChartModel","go","(I)I"⟩ ∈ GG := gg_in 979 (by decide +kernel) (by decide +kernel)
theorem gw_980 : Cond.selects "StarChartModel" ⟨"StarChartModel","go","(I)I"⟩ ⟨"StarChartModel","go","(I)I"⟩ ∈ GG := gg_in 980 (by decide +kernel) (by decide +kernel)
set_option maxRecDepth 20000 in
theorem gw_981 : Cond.code ⟨"StarChartModel","go","(I)I"⟩ prog_9_method_38_code 3 (some .int) ∈ GG := gg_in 981 rfl rfl
theorem gw_982 : Cond.methodLink "StarChartModel" 156 ⟨"StarChartModel","goesBy","([I)I"⟩ ∈ GG := gg_in 982 (by decide +kernel) (by decide +kernel)
theorem gw_984 : Cond.instanceMethod ⟨"StarChartModel","goesBy","([I)I"⟩ ∈ GG := gg_in 984 (by decide +kernel) (by decide +kernel)
set_option maxRecDepth 20000 in
theorem gw_985 : Cond.code ⟨"StarChartModel","goesBy","([I)I"⟩ prog_9_method_37_code 12 (some .int) ∈ GG := gg_in 985 rfl rfl
theorem gw_986 : Cond.methodLink "StarChartModel" 153 ⟨"StarChartModel","within","(I)I"⟩ ∈ GG := gg_in 986 (by decide +kernel) (by decide +kernel)
theorem gw_987 : Cond.static ⟨"StarChartModel","within","(I)I"⟩ ∈ GG := gg_in 987 (by decide +kernel) (by decide +kernel)
set_option maxRecDepth 20000 in
theorem gw_988 : Cond.code ⟨"StarChartModel","within","(I)I"⟩ prog_9_method_36_code 1 (some .int) ∈ GG := gg_in 988 rfl rfl
theorem gw_989 : Cond.methodLink "StarChartLaw" 67 ⟨"StarChartModel","now","(I)I"⟩ ∈ GG := gg_in 989 (by decide +kernel) (by decide +kernel)
theorem gw_990 : Cond.instanceMethod ⟨"StarChartModel","now","(I)I"⟩ ∈ GG := gg_in 990 (by decide +kernel) (by decide +kernel)
theorem gw_991 : Cond.selects "StarChartModel" ⟨"StarChartModel","now","(I)I"⟩ ⟨"StarChartModel","now","(I)I"⟩ ∈ GG := gg_in 991 (by decide +kernel) (by decide +kernel)
set_option maxRecDepth 20000 in
theorem gw_992 : Cond.code ⟨"StarChartModel","now","(I)I"⟩ prog_9_method_40_code 2 (some .int) ∈ GG := gg_in 992 rfl rfl
theorem gw_993 : Cond.methodLink "StarChartModel" 160 ⟨"StarChartModel","allOf","([II)I"⟩ ∈ GG := gg_in 993 (by decide +kernel) (by decide +kernel)
theorem gw_995 : Cond.instanceMethod ⟨"StarChartModel","allOf","([II)I"⟩ ∈ GG := gg_in 995 (by decide +kernel) (by decide +kernel)
set_option maxRecDepth 20000 in
theorem gw_996 : Cond.code ⟨"StarChartModel","allOf","([II)I"⟩ prog_9_method_39_code 5 (some .int) ∈ GG := gg_in 996 rfl rfl
theorem gw_997 : Cond.methodLink "StarChartLaw" 71 ⟨"StarChartModel","anew","()I"⟩ ∈ GG := gg_in 997 (by decide +kernel) (by decide +kernel)
theorem gw_998 : Cond.instanceMethod ⟨"StarChartModel","anew","()I"⟩ ∈ GG := gg_in 998 (by decide +kernel) (by decide +kernel)
theorem gw_999 : Cond.selects "StarChartModel" ⟨"StarChartModel","anew","()I"⟩ ⟨"StarChartModel","anew","()I"⟩ ∈ GG := gg_in 999 (by decide +kernel) (by decide +kernel)
set_option maxRecDepth 20000 in
theorem gw_1000 : Cond.code ⟨"StarChartModel","anew","()I"⟩ prog_9_method_41_code 2 (some .int) ∈ GG := gg_in 1000 rfl rfl
theorem gw_1001 : Cond.methodLink "StarChartLaw" 75 ⟨"StarChartModel","term","(I)I"⟩ ∈ GG := gg_in 1001 (by decide +kernel) (by decide +kernel)
theorem gw_1002 : Cond.instanceMethod ⟨"StarChartModel","term","(I)I"⟩ ∈ GG := gg_in 1002 (by decide +kernel) (by decide +kernel)
theorem gw_1003 : Cond.selects "StarChartModel" ⟨"StarChartModel","term","(I)I"⟩ ⟨"StarChartModel","term","(I)I"⟩ ∈ GG := gg_in 1003 (by decide +kernel) (by decide +kernel)
set_option maxRecDepth 20000 in
theorem gw_1004 : Cond.code ⟨"StarChartModel","term","(I)I"⟩ prog_9_method_43_code 4 (some .int) ∈ GG := gg_in 1004 rfl rfl
theorem gw_1005 : Cond.methodLink "StarChartModel" 164 ⟨"StarChartModel","pagesBy","(II)I"⟩ ∈ GG := gg_in 1005 (by decide +kernel) (by decide +kernel)
theorem gw_1007 : Cond.instanceMethod ⟨"StarChartModel","pagesBy","(II)I"⟩ ∈ GG := gg_in 1007 (by decide +kernel) (by decide +kernel)
set_option maxRecDepth 20000 in
theorem gw_1008 : Cond.code ⟨"StarChartModel","pagesBy","(II)I"⟩ prog_9_method_42_code 6 (some .int) ∈ GG := gg_in 1008 rfl rfl
theorem gw_1009 : Cond.methodLink "StarChartLaw" 79 ⟨"StarChartModel","end","(I)I"⟩ ∈ GG := gg_in 1009 (by decide +kernel) (by decide +kernel)
theorem gw_1010 : Cond.instanceMethod ⟨"StarChartModel","end","(I)I"⟩ ∈ GG := gg_in 1010 (by decide +kernel) (by decide +kernel)
theorem gw_1011 : Cond.selects "StarChartModel" ⟨"StarChartModel","end","(I)I"⟩ ⟨"StarChartModel","end","(I)I"⟩ ∈ GG := gg_in 1011 (by decide +kernel) (by decide +kernel)
set_option maxRecDepth 20000 in
theorem gw_1012 : Cond.code ⟨"StarChartModel","end","(I)I"⟩ prog_9_method_45_code 2 (some .int) ∈ GG := gg_in 1012 rfl rfl
theorem gw_1013 : Cond.methodLink "StarChartModel" 167 ⟨"StarChartModel","endOn","(I)I"⟩ ∈ GG := gg_in 1013 (by decide +kernel) (by decide +kernel)
theorem gw_1015 : Cond.instanceMethod ⟨"StarChartModel","endOn","(I)I"⟩ ∈ GG := gg_in 1015 (by decide +kernel) (by decide +kernel)
set_option maxRecDepth 20000 in
theorem gw_1016 : Cond.code ⟨"StarChartModel","endOn","(I)I"⟩ prog_9_method_44_code 2 (some .int) ∈ GG := gg_in 1016 rfl rfl
theorem gw_1017 : Cond.methodLink "StarChartLaw" 83 ⟨"StarChartModel","best","(III)I"⟩ ∈ GG := gg_in 1017 (by decide +kernel) (by decide +kernel)
theorem gw_1018 : Cond.instanceMethod ⟨"StarChartModel","best","(III)I"⟩ ∈ GG := gg_in 1018 (by decide +kernel) (by decide +kernel)
theorem gw_1019 : Cond.selects "StarChartModel" ⟨"StarChartModel","best","(III)I"⟩ ⟨"StarChartModel","best","(III)I"⟩ ∈ GG := gg_in 1019 (by decide +kernel) (by decide +kernel)
set_option maxRecDepth 20000 in
theorem gw_1020 : Cond.code ⟨"StarChartModel","best","(III)I"⟩ prog_9_method_47_code 10 (some .int) ∈ GG := gg_in 1020 rfl rfl
theorem gw_1021 : Cond.methodLink "StarChartModel" 170 ⟨"StarChartModel","aside","(Z)V"⟩ ∈ GG := gg_in 1021 (by decide +kernel) (by decide +kernel)
theorem gw_1023 : Cond.instanceMethod ⟨"StarChartModel","aside","(Z)V"⟩ ∈ GG := gg_in 1023 (by decide +kernel) (by decide +kernel)
set_option maxRecDepth 20000 in
theorem gw_1024 : Cond.code ⟨"StarChartModel","aside","(Z)V"⟩ prog_9_method_46_code 3 none ∈ GG := gg_in 1024 rfl rfl
theorem gw_1025 : Cond.methodLink "StarChartLaw" 87 ⟨"StarChartModel","line","(III)I"⟩ ∈ GG := gg_in 1025 (by decide +kernel) (by decide +kernel)
theorem gw_1026 : Cond.instanceMethod ⟨"StarChartModel","line","(III)I"⟩ ∈ GG := gg_in 1026 (by decide +kernel) (by decide +kernel)
theorem gw_1027 : Cond.selects "StarChartModel" ⟨"StarChartModel","line","(III)I"⟩ ⟨"StarChartModel","line","(III)I"⟩ ∈ GG := gg_in 1027 (by decide +kernel) (by decide +kernel)
set_option maxRecDepth 20000 in
theorem gw_1028 : Cond.code ⟨"StarChartModel","line","(III)I"⟩ prog_9_method_48_code 7 (some .int) ∈ GG := gg_in 1028 rfl rfl
theorem gw_1029 : Cond.methodLink "StarChartLaw" 91 ⟨"StarChartModel","ending","(I)I"⟩ ∈ GG := gg_in 1029 (by decide +kernel) (by decide +kernel)
theorem gw_1030 : Cond.instanceMethod ⟨"StarChartModel","ending","(I)I"⟩ ∈ GG := gg_in 1030 (by decide +kernel) (by decide +kernel)
theorem gw_1031 : Cond.selects "StarChartModel" ⟨"StarChartModel","ending","(I)I"⟩ ⟨"StarChartModel","ending","(I)I"⟩ ∈ GG := gg_in 1031 (by decide +kernel) (by decide +kernel)
set_option maxRecDepth 20000 in
theorem gw_1032 : Cond.code ⟨"StarChartModel","ending","(I)I"⟩ prog_9_method_49_code 6 (some .int) ∈ GG := gg_in 1032 rfl rfl
theorem gw_1033 : Cond.methodLink "StarChartLaw" 95 ⟨"StarChartModel","easy","()I"⟩ ∈ GG := gg_in 1033 (by decide +kernel) (by decide +kernel)
theorem gw_1034 : Cond.instanceMethod ⟨"StarChartModel","easy","()I"⟩ ∈ GG := gg_in 1034 (by decide +kernel) (by decide +kernel)
theorem gw_1035 : Cond.selects "StarChartModel" ⟨"StarChartModel","easy","()I"⟩ ⟨"StarChartModel","easy","()I"⟩ ∈ GG := gg_in 1035 (by decide +kernel) (by decide +kernel)
set_option maxRecDepth 20000 in
theorem gw_1036 : Cond.code ⟨"StarChartModel","easy","()I"⟩ prog_9_method_50_code 4 (some .int) ∈ GG := gg_in 1036 rfl rfl
theorem gw_1037 : Cond.methodLink "StarChartLaw" 99 ⟨"StarChartModel","stays","(II)I"⟩ ∈ GG := gg_in 1037 (by decide +kernel) (by decide +kernel)
theorem gw_1038 : Cond.instanceMethod ⟨"StarChartModel","stays","(II)I"⟩ ∈ GG := gg_in 1038 (by decide +kernel) (by decide +kernel)
theorem gw_1039 : Cond.selects "StarChartModel" ⟨"StarChartModel","stays","(II)I"⟩ ⟨"StarChartModel","stays","(II)I"⟩ ∈ GG := gg_in 1039 (by decide +kernel) (by decide +kernel)
set_option maxRecDepth 20000 in
theorem gw_1040 : Cond.code ⟨"StarChartModel","stays","(II)I"⟩ prog_9_method_51_code 7 (some .int) ∈ GG := gg_in 1040 rfl rfl
theorem gw_1041 : Cond.methodLink "StarChartLaw" 103 ⟨"StarChartModel","rests","(III)I"⟩ ∈ GG := gg_in 1041 (by decide +kernel) (by decide +kernel)
theorem gw_1042 : Cond.instanceMethod ⟨"StarChartModel","rests","(III)I"⟩ ∈ GG := gg_in 1042 (by decide +kernel) (by decide +kernel)
theorem gw_1043 : Cond.selects "StarChartModel" ⟨"StarChartModel","rests","(III)I"⟩ ⟨"StarChartModel","rests","(III)I"⟩ ∈ GG := gg_in 1043 (by decide +kernel) (by decide +kernel)
set_option maxRecDepth 20000 in
theorem gw_1044 : Cond.code ⟨"StarChartModel","rests","(III)I"⟩ prog_9_method_55_code 9 (some .int) ∈ GG := gg_in 1044 rfl rfl
theorem gw_1045 : Cond.methodLink "StarChartModel" 180 ⟨"StarChartModel","jarHas","(IIII)I"⟩ ∈ GG := gg_in 1045 (by decide +kernel) (by decide +kernel)
theorem gw_1047 : Cond.instanceMethod ⟨"StarChartModel","jarHas","(IIII)I"⟩ ∈ GG := gg_in 1047 (by decide +kernel) (by decide +kernel)
set_option maxRecDepth 20000 in
theorem gw_1048 : Cond.code ⟨"StarChartModel","jarHas","(IIII)I"⟩ prog_9_method_54_code 6 (some .int) ∈ GG := gg_in 1048 rfl rfl
theorem gw_1049 : Cond.methodLink "StarChartModel" 174 ⟨"StarChartModel","jarSort","(I)I"⟩ ∈ GG := gg_in 1049 (by decide +kernel) (by decide +kernel)
theorem gw_1051 : Cond.instanceMethod ⟨"StarChartModel","jarSort","(I)I"⟩ ∈ GG := gg_in 1051 (by decide +kernel) (by decide +kernel)
set_option maxRecDepth 20000 in
theorem gw_1052 : Cond.code ⟨"StarChartModel","jarSort","(I)I"⟩ prog_9_method_52_code 3 (some .int) ∈ GG := gg_in 1052 rfl rfl
theorem gw_1053 : Cond.methodLink "StarChartModel" 177 ⟨"StarChartModel","jarPages","(I)I"⟩ ∈ GG := gg_in 1053 (by decide +kernel) (by decide +kernel)
theorem gw_1055 : Cond.instanceMethod ⟨"StarChartModel","jarPages","(I)I"⟩ ∈ GG := gg_in 1055 (by decide +kernel) (by decide +kernel)
set_option maxRecDepth 20000 in
theorem gw_1056 : Cond.code ⟨"StarChartModel","jarPages","(I)I"⟩ prog_9_method_53_code 4 (some .int) ∈ GG := gg_in 1056 rfl rfl
theorem gw_1057 : Cond.methodLink "StarChartLaw" 107 ⟨"StarChartModel","blamed","(II)I"⟩ ∈ GG := gg_in 1057 (by decide +kernel) (by decide +kernel)
theorem gw_1058 : Cond.instanceMethod ⟨"StarChartModel","blamed","(II)I"⟩ ∈ GG := gg_in 1058 (by decide +kernel) (by decide +kernel)
theorem gw_1059 : Cond.selects "StarChartModel" ⟨"StarChartModel","blamed","(II)I"⟩ ⟨"StarChartModel","blamed","(II)I"⟩ ∈ GG := gg_in 1059 (by decide +kernel) (by decide +kernel)
set_option maxRecDepth 20000 in
theorem gw_1060 : Cond.code ⟨"StarChartModel","blamed","(II)I"⟩ prog_9_method_56_code 5 (some .int) ∈ GG := gg_in 1060 rfl rfl
theorem gw_1061 : Cond.methodLink "StarChartLaw" 111 ⟨"StarChartModel","checks","(I)I"⟩ ∈ GG := gg_in 1061 (by decide +kernel) (by decide +kernel)
theorem gw_1062 : Cond.instanceMethod ⟨"StarChartModel","checks","(I)I"⟩ ∈ GG := gg_in 1062 (by decide +kernel) (by decide +kernel)
theorem gw_1063 : Cond.selects "StarChartModel" ⟨"StarChartModel","checks","(I)I"⟩ ⟨"StarChartModel","checks","(I)I"⟩ ∈ GG := gg_in 1063 (by decide +kernel) (by decide +kernel)
set_option maxRecDepth 20000 in
theorem gw_1064 : Cond.code ⟨"StarChartModel","checks","(I)I"⟩ prog_9_method_57_code 7 (some .int) ∈ GG := gg_in 1064 rfl rfl
theorem gw_1065 : Cond.methodLink "StarChartLaw" 115 ⟨"StarChartModel","trial","(II)I"⟩ ∈ GG := gg_in 1065 (by decide +kernel) (by decide +kernel)
theorem gw_1066 : Cond.instanceMethod ⟨"StarChartModel","trial","(II)I"⟩ ∈ GG := gg_in 1066 (by decide +kernel) (by decide +kernel)
theorem gw_1067 : Cond.selects "StarChartModel" ⟨"StarChartModel","trial","(II)I"⟩ ⟨"StarChartModel","trial","(II)I"⟩ ∈ GG := gg_in 1067 (by decide +kernel) (by decide +kernel)
set_option maxRecDepth 20000 in
theorem gw_1068 : Cond.code ⟨"StarChartModel","trial","(II)I"⟩ prog_9_method_58_code 3 (some .int) ∈ GG := gg_in 1068 rfl rfl
theorem gw_1069 : Cond.methodLink "StarChartLaw" 119 ⟨"StarChartModel","joined","(II)I"⟩ ∈ GG := gg_in 1069 (by decide +kernel) (by decide +kernel)
theorem gw_1070 : Cond.instanceMethod ⟨"StarChartModel","joined","(II)I"⟩ ∈ GG := gg_in 1070 (by decide +kernel) (by decide +kernel)
theorem gw_1071 : Cond.selects "StarChartModel" ⟨"StarChartModel","joined","(II)I"⟩ ⟨"StarChartModel","joined","(II)I"⟩ ∈ GG := gg_in 1071 (by decide +kernel) (by decide +kernel)
set_option maxRecDepth 20000 in
theorem gw_1072 : Cond.code ⟨"StarChartModel","joined","(II)I"⟩ prog_9_method_63_code 3 (some .int) ∈ GG := gg_in 1072 rfl rfl
theorem gw_1073 : Cond.methodLink "StarChartModel" 197 ⟨"StarChartModel","meanOf","(II)I"⟩ ∈ GG := gg_in 1073 (by decide +kernel) (by decide +kernel)
theorem gw_1075 : Cond.instanceMethod ⟨"StarChartModel","meanOf","(II)I"⟩ ∈ GG := gg_in 1075 (by decide +kernel) (by decide +kernel)
set_option maxRecDepth 20000 in
theorem gw_1076 : Cond.code ⟨"StarChartModel","meanOf","(II)I"⟩ prog_9_method_62_code 6 (some .int) ∈ GG := gg_in 1076 rfl rfl
theorem gw_1077 : Cond.methodLink "StarChartModel" 187 ⟨"StarChartModel","sumOf","(I)I"⟩ ∈ GG := gg_in 1077 (by decide +kernel) (by decide +kernel)
theorem gw_1079 : Cond.instanceMethod ⟨"StarChartModel","sumOf","(I)I"⟩ ∈ GG := gg_in 1079 (by decide +kernel) (by decide +kernel)
set_option maxRecDepth 20000 in
theorem gw_1080 : Cond.code ⟨"StarChartModel","sumOf","(I)I"⟩ prog_9_method_60_code 4 (some .int) ∈ GG := gg_in 1080 rfl rfl
theorem gw_1081 : Cond.methodLink "StarChartModel" 190 ⟨"StarChartModel","manyOf","(I)I"⟩ ∈ GG := gg_in 1081 (by decide +kernel) (by decide +kernel)
theorem gw_1083 : Cond.instanceMethod ⟨"StarChartModel","manyOf","(I)I"⟩ ∈ GG := gg_in 1083 (by decide +kernel) (by decide +kernel)
set_option maxRecDepth 20000 in
theorem gw_1084 : Cond.code ⟨"StarChartModel","manyOf","(I)I"⟩ prog_9_method_59_code 4 (some .int) ∈ GG := gg_in 1084 rfl rfl
theorem gw_1085 : Cond.constant "StarChartModel" 193 (-1000000) ∈ GG := gg_in 1085 (by decide +kernel) (by decide +kernel)
theorem gw_1086 : Cond.methodLink "StarChartModel" 194 ⟨"StarChartModel","gcd","(II)I"⟩ ∈ GG := gg_in 1086 (by decide +kernel) (by decide +kernel)
theorem gw_1087 : Cond.static ⟨"StarChartModel","gcd","(II)I"⟩ ∈ GG := gg_in 1087 (by decide +kernel) (by decide +kernel)
set_option maxRecDepth 20000 in
theorem gw_1088 : Cond.code ⟨"StarChartModel","gcd","(II)I"⟩ prog_9_method_61_code 5 (some .int) ∈ GG := gg_in 1088 rfl rfl
theorem gw_1089 : Cond.methodLink "StarChartLaw" 123 ⟨"StarChartModel","parts","()I"⟩ ∈ GG := gg_in 1089 (by decide +kernel) (by decide +kernel)
theorem gw_1090 : Cond.instanceMethod ⟨"StarChartModel","parts","()I"⟩ ∈ GG := gg_in 1090 (by decide +kernel) (by decide +kernel)
theorem gw_1091 : Cond.selects "StarChartModel" ⟨"StarChartModel","parts","()I"⟩ ⟨"StarChartModel","parts","()I"⟩ ∈ GG := gg_in 1091 (by decide +kernel) (by decide +kernel)
set_option maxRecDepth 20000 in
theorem gw_1092 : Cond.code ⟨"StarChartModel","parts","()I"⟩ prog_9_method_64_code 15 (some .int) ∈ GG := gg_in 1092 rfl rfl
theorem gw_1093 : Cond.methodLink "StarChartLaw" 127 ⟨"StarChartModel","ahead","(II)I"⟩ ∈ GG := gg_in 1093 (by decide +kernel) (by decide +kernel)
theorem gw_1094 : Cond.instanceMethod ⟨"StarChartModel","ahead","(II)I"⟩ ∈ GG := gg_in 1094 (by decide +kernel) (by decide +kernel)
theorem gw_1095 : Cond.selects "StarChartModel" ⟨"StarChartModel","ahead","(II)I"⟩ ⟨"StarChartModel","ahead","(II)I"⟩ ∈ GG := gg_in 1095 (by decide +kernel) (by decide +kernel)
set_option maxRecDepth 20000 in
theorem gw_1096 : Cond.code ⟨"StarChartModel","ahead","(II)I"⟩ prog_9_method_65_code 3 (some .int) ∈ GG := gg_in 1096 rfl rfl
theorem gw_1097 : Cond.methodLink "StarChartLaw" 131 ⟨"StarChartModel","halves","(I)I"⟩ ∈ GG := gg_in 1097 (by decide +kernel) (by decide +kernel)
theorem gw_1098 : Cond.instanceMethod ⟨"StarChartModel","halves","(I)I"⟩ ∈ GG := gg_in 1098 (by decide +kernel) (by decide +kernel)
theorem gw_1099 : Cond.selects "StarChartModel" ⟨"StarChartModel","halves","(I)I"⟩ ⟨"StarChartModel","halves","(I)I"⟩ ∈ GG := gg_in 1099 (by decide +kernel) (by decide +kernel)
set_option maxRecDepth 20000 in
theorem gw_1100 : Cond.code ⟨"StarChartModel","halves","(I)I"⟩ prog_9_method_66_code 5 (some .int) ∈ GG := gg_in 1100 rfl rfl
theorem gw_1101 : Cond.constant "StarChartModel" 200 1103515245 ∈ GG := gg_in 1101 (by decide +kernel) (by decide +kernel)
theorem gw_1102 : Cond.methodLink "StarChartLaw" 135 ⟨"StarChartModel","lot","(I)I"⟩ ∈ GG := gg_in 1102 (by decide +kernel) (by decide +kernel)
theorem gw_1103 : Cond.instanceMethod ⟨"StarChartModel","lot","(I)I"⟩ ∈ GG := gg_in 1103 (by decide +kernel) (by decide +kernel)
theorem gw_1104 : Cond.selects "StarChartModel" ⟨"StarChartModel","lot","(I)I"⟩ ⟨"StarChartModel","lot","(I)I"⟩ ∈ GG := gg_in 1104 (by decide +kernel) (by decide +kernel)
set_option maxRecDepth 20000 in
theorem gw_1105 : Cond.code ⟨"StarChartModel","lot","(I)I"⟩ prog_9_method_67_code 3 (some .int) ∈ GG := gg_in 1105 rfl rfl
theorem gw_1106 : Cond.methodLink "StarChartLaw" 139 ⟨"StarChartModel","rate","(II)I"⟩ ∈ GG := gg_in 1106 (by decide +kernel) (by decide +kernel)
theorem gw_1107 : Cond.instanceMethod ⟨"StarChartModel","rate","(II)I"⟩ ∈ GG := gg_in 1107 (by decide +kernel) (by decide +kernel)
theorem gw_1108 : Cond.selects "StarChartModel" ⟨"StarChartModel","rate","(II)I"⟩ ⟨"StarChartModel","rate","(II)I"⟩ ∈ GG := gg_in 1108 (by decide +kernel) (by decide +kernel)
set_option maxRecDepth 20000 in
theorem gw_1109 : Cond.code ⟨"StarChartModel","rate","(II)I"⟩ prog_9_method_68_code 6 (some .int) ∈ GG := gg_in 1109 rfl rfl
theorem gw_1110 : Cond.constantLong "StarChartModel" 205 11 ∈ GG := gg_in 1110 (by decide +kernel) (by decide +kernel)
theorem gw_1111 : Cond.constantLong "StarChartModel" 207 101 ∈ GG := gg_in 1111 (by decide +kernel) (by decide +kernel)
theorem gw_1112 : Cond.constantLong "StarChartModel" 209 1011 ∈ GG := gg_in 1112 (by decide +kernel) (by decide +kernel)
theorem gw_1113 : Cond.constantLong "StarChartModel" 211 11011 ∈ GG := gg_in 1113 (by decide +kernel) (by decide +kernel)
theorem gw_1114 : Cond.constantLong "StarChartModel" 213 100001 ∈ GG := gg_in 1114 (by decide +kernel) (by decide +kernel)
theorem gw_1115 : Cond.methodLink "StarChartLaw" 143 ⟨"StarChartModel","keep","(I)I"⟩ ∈ GG := gg_in 1115 (by decide +kernel) (by decide +kernel)
theorem gw_1116 : Cond.instanceMethod ⟨"StarChartModel","keep","(I)I"⟩ ∈ GG := gg_in 1116 (by decide +kernel) (by decide +kernel)
theorem gw_1117 : Cond.selects "StarChartModel" ⟨"StarChartModel","keep","(I)I"⟩ ⟨"StarChartModel","keep","(I)I"⟩ ∈ GG := gg_in 1117 (by decide +kernel) (by decide +kernel)
set_option maxRecDepth 20000 in
theorem gw_1118 : Cond.code ⟨"StarChartModel","keep","(I)I"⟩ prog_9_method_69_code 3 (some .int) ∈ GG := gg_in 1118 rfl rfl
theorem gw_1119 : Cond.methodLink "StarChartLaw" 147 ⟨"StarChartModel","back","(I)I"⟩ ∈ GG := gg_in 1119 (by decide +kernel) (by decide +kernel)
theorem gw_1120 : Cond.instanceMethod ⟨"StarChartModel","back","(I)I"⟩ ∈ GG := gg_in 1120 (by decide +kernel) (by decide +kernel)
theorem gw_1121 : Cond.selects "StarChartModel" ⟨"StarChartModel","back","(I)I"⟩ ⟨"StarChartModel","back","(I)I"⟩ ∈ GG := gg_in 1121 (by decide +kernel) (by decide +kernel)
set_option maxRecDepth 20000 in
theorem gw_1122 : Cond.code ⟨"StarChartModel","back","(I)I"⟩ prog_9_method_70_code 3 (some .int) ∈ GG := gg_in 1122 rfl rfl
theorem gw_1123 : Cond.methodLink "StarChartLaw" 151 ⟨"StarChartModel","count","(I)I"⟩ ∈ GG := gg_in 1123 (by decide +kernel) (by decide +kernel)
theorem gw_1124 : Cond.instanceMethod ⟨"StarChartModel","count","(I)I"⟩ ∈ GG := gg_in 1124 (by decide +kernel) (by decide +kernel)
theorem gw_1125 : Cond.selects "StarChartModel" ⟨"StarChartModel","count","(I)I"⟩ ⟨"StarChartModel","count","(I)I"⟩ ∈ GG := gg_in 1125 (by decide +kernel) (by decide +kernel)
set_option maxRecDepth 20000 in
theorem gw_1126 : Cond.code ⟨"StarChartModel","count","(I)I"⟩ prog_9_method_71_code 2 (some .int) ∈ GG := gg_in 1126 rfl rfl
theorem gw_1127 : Cond.methodLink "StarChartLaw" 156 ⟨"StarChartModel","trace","()J"⟩ ∈ GG := gg_in 1127 (by decide +kernel) (by decide +kernel)
theorem gw_1128 : Cond.instanceMethod ⟨"StarChartModel","trace","()J"⟩ ∈ GG := gg_in 1128 (by decide +kernel) (by decide +kernel)
theorem gw_1129 : Cond.selects "StarChartModel" ⟨"StarChartModel","trace","()J"⟩ ⟨"StarChartModel","trace","()J"⟩ ∈ GG := gg_in 1129 (by decide +kernel) (by decide +kernel)
set_option maxRecDepth 20000 in
theorem gw_1130 : Cond.code ⟨"StarChartModel","trace","()J"⟩ prog_9_method_72_code 1 (some .long) ∈ GG := gg_in 1130 rfl rfl
theorem gw_1131 : Cond.constantLong "StarChartLaw" 13 4294967295 ∈ GG := gg_in 1131 (by decide +kernel) (by decide +kernel)
theorem gw_1132 : Cond.fieldLink "java/lang/String" 9 "java/lang/String" "value" "[B" ∈ GG := gg_in 1132 (by decide +kernel) (by decide +kernel)
theorem gw_1133 : Cond.fieldLink "java/lang/String" 15 "java/lang/String" "coder" "B" ∈ GG := gg_in 1133 (by decide +kernel) (by decide +kernel)
end
section
/-! THE LAYER: a world is a list of shapes; its cells' addresses are 'ad'; what it holds is a state of ints and longs by cell and place. XX: the walk at a pc, in words of this state. -/
abbrev SQ : Type := (Nat → Nat → Int32) × (Nat → Nat → Int64)
def gI (q : SQ) (o k : Nat) : Int32 := q.1 o k
def gL (q : SQ) (o k : Nat) : Int64 := q.2 o k
def sI (q : SQ) (o k : Nat) (v : Int32) : SQ := (fun a b => if a = o ∧ b = k then v else q.1 a b, q.2)
def sL (q : SQ) (o k : Nat) (v : Int64) : SQ := (q.1, fun a b => if a = o ∧ b = k then v else q.2 a b)
/-- a field: a cell's number, an int, a long -/
abbrev sx_F : Type := Nat ⊕ Bool
/-- a shape: an array (of booleans or ints, its length), or an object (its class, its fields) -/
abbrev sx_H : Type := (Bool × Nat) ⊕ (Nat × List sx_F)
def sx_fv (ad : Nat → Nat) (q : SQ) (o i : Nat) (f : sx_F) : Value := match f with
  | .inl k => .ref (ad k)
  | .inr false => .int (gI q o i)
  | .inr true => .long (gL q o i)
def sx_cv (cI cZ : ClassId) (ad : Nat → Nat) (q : SQ) (o : Nat) (h : sx_H) : va_E := match h with
  | .inl (z, n) => .inl (if z then cZ else cI, n, .inl (q.1 o))
  | .inr (c, fs) => .inr (c, fs.mapIdx (fun i f => sx_fv ad q o i f))
def sx_cw (sh : List sx_H) (cI cZ : ClassId) (ad : Nat → Nat) (q : SQ) : va_W := sh.mapIdx (fun o x => (ad o, sx_cv cI cZ ad q o x))
def sx_cz (ad : Nat → Nat) (v : Value) : Value := match v with
  | .ref k => .ref (ad k)
  | w => w
theorem sx_cz_cat (ad : Nat → Nat) (v : Value) : (sx_cz ad v).category = v.category := by cases v <;> rfl
theorem sx_cats (ad : Nat → Nat) (st : List Value) : ((st.map (sx_cz ad)).map fun v => v.category) = st.map fun v => v.category := by
  rw [List.map_map]
  exact List.map_congr_left (fun v _ => sx_cz_cat ad v)
theorem sx_get {sh : List sx_H} {cI cZ : ClassId} {ad : Nat → Nat} {q : SQ} {o : Nat} {x : sx_H} (h : sh[o]? = some x) : (sx_cw sh cI cZ ad q)[o]? = some (ad o, sx_cv cI cZ ad q o x) := by
  simp [sx_cw, List.getElem?_mapIdx, h]
theorem sx_getO {sh : List sx_H} {cI cZ : ClassId} {ad : Nat → Nat} {q : SQ} {o c : Nat} {fs : List sx_F} (h : sh[o]? = some (.inr (c, fs))) : (sx_cw sh cI cZ ad q)[o]? = some (ad o, .inr (c, fs.mapIdx (fun i f => sx_fv ad q o i f))) := sx_get h
theorem sx_getA {sh : List sx_H} {cI cZ : ClassId} {ad : Nat → Nat} {q : SQ} {o n : Nat} {z : Bool} (h : sh[o]? = some (.inl (z, n))) : (sx_cw sh cI cZ ad q)[o]? = some (ad o, .inl (if z then cZ else cI, n, .inl (q.1 o))) := sx_get h
theorem sx_fld {ad : Nat → Nat} {q : SQ} {o k : Nat} {fs : List sx_F} {f : sx_F} (h : fs[k]? = some f) : (fs.mapIdx (fun i f => sx_fv ad q o i f))[k]? = some (sx_fv ad q o k f) := by
  simp [List.getElem?_mapIdx, h]
theorem gI_sI (q : SQ) (o k : Nat) (v : Int32) (a b : Nat) : gI (sI q o k v) a b = if a = o ∧ b = k then v else gI q a b := rfl
theorem gL_sI (q : SQ) (o k : Nat) (v : Int32) (a b : Nat) : gL (sI q o k v) a b = gL q a b := rfl
theorem gI_sL (q : SQ) (o k : Nat) (v : Int64) (a b : Nat) : gI (sL q o k v) a b = gI q a b := rfl
theorem gL_sL (q : SQ) (o k : Nat) (v : Int64) (a b : Nat) : gL (sL q o k v) a b = if a = o ∧ b = k then v else gL q a b := rfl
theorem sx_row (q : SQ) (o k : Nat) (v : Int32) : (sI q o k v).1 o = upd (q.1 o) k v := by
  funext b
  by_cases h : b = k
  · simp [sI, upd, h]
  · simp [sI, upd, h]
theorem sx_row_ne (q : SQ) {o a : Nat} (k : Nat) (v : Int32) (h : a ≠ o) : (sI q o k v).1 a = q.1 a := by
  funext b
  simp [sI, h]
theorem sx_cv_ne {cI cZ : ClassId} {ad : Nat → Nat} {q q2 : SQ} {a : Nat} (h1 : q2.1 a = q.1 a) (h2 : q2.2 a = q.2 a) (x : sx_H) : sx_cv cI cZ ad q2 a x = sx_cv cI cZ ad q a x := by
  rcases x with ⟨z, n⟩ | ⟨c, fs⟩
  · simp only [sx_cv, h1]
  · have e : (fun (i : Nat) (f : sx_F) => sx_fv ad q2 a i f) = fun (i : Nat) (f : sx_F) => sx_fv ad q a i f := by
      funext i f
      rcases f with k | b
      · rfl
      · cases b
        · show Value.int (q2.1 a i) = Value.int (q.1 a i)
          rw [h1]
        · show Value.long (q2.2 a i) = Value.long (q.2 a i)
          rw [h2]
    simp only [sx_cv, e]
theorem sx_setG {sh : List sx_H} {cI cZ : ClassId} {ad : Nat → Nat} {q q2 : SQ} {o : Nat} {x : sx_H} {e : va_E} (hs : sh[o]? = some x) (he : e = sx_cv cI cZ ad q2 o x) (h1 : ∀ a, a ≠ o → q2.1 a = q.1 a) (h2 : ∀ a, a ≠ o → q2.2 a = q.2 a) :
    (sx_cw sh cI cZ ad q).set o (ad o, e) = sx_cw sh cI cZ ad q2 := by
  subst he
  apply List.ext_getElem?
  intro j
  by_cases hj : j = o
  · subst hj
    have hl : j < (sx_cw sh cI cZ ad q).length := (List.getElem?_eq_some_iff.mp (sx_get (cI := cI) (cZ := cZ) (ad := ad) (q := q) hs)).1
    rw [List.getElem?_set_self hl, sx_get hs]
  · rw [List.getElem?_set_ne (Ne.symm hj)]
    simp only [sx_cw, List.getElem?_mapIdx]
    cases sh[j]? with
    | none => rfl
    | some y =>
      simp only [Option.map_some]
      rw [sx_cv_ne (h1 j hj) (h2 j hj)]
theorem sx_setI {sh : List sx_H} {cI cZ : ClassId} {ad : Nat → Nat} {q : SQ} {o c k : Nat} {fs : List sx_F} (v : Int32) (hs : sh[o]? = some (.inr (c, fs))) (hf : fs[k]? = some (.inr false)) :
    (sx_cw sh cI cZ ad q).set o (ad o, .inr (c, (fs.mapIdx (fun i f => sx_fv ad q o i f)).set k (.int v))) = sx_cw sh cI cZ ad (sI q o k v) := by
  refine sx_setG hs ?_ (fun a h => sx_row_ne q k v h) (fun a _ => rfl)
  show Sum.inr _ = Sum.inr _
  congr 2
  apply List.ext_getElem?
  intro j
  by_cases hj : j = k
  · subst hj
    have hl : j < (fs.mapIdx (fun i f => sx_fv ad q o i f)).length := (List.getElem?_eq_some_iff.mp (sx_fld (ad := ad) (q := q) (o := o) hf)).1
    rw [List.getElem?_set_self hl, sx_fld hf]
    show some (Value.int v) = some (Value.int (gI (sI q o j v) o j))
    simp [gI_sI]
  · rw [List.getElem?_set_ne (Ne.symm hj)]
    simp only [List.getElem?_mapIdx]
    cases fs[j]? with
    | none => rfl
    | some y =>
      rcases y with r | b
      · rfl
      · cases b
        · show some (Value.int (gI q o j)) = some (Value.int (gI (sI q o k v) o j))
          simp [gI_sI, hj]
        · rfl
theorem sx_setL {sh : List sx_H} {cI cZ : ClassId} {ad : Nat → Nat} {q : SQ} {o c k : Nat} {fs : List sx_F} (v : Int64) (hs : sh[o]? = some (.inr (c, fs))) (hf : fs[k]? = some (.inr true)) :
    (sx_cw sh cI cZ ad q).set o (ad o, .inr (c, (fs.mapIdx (fun i f => sx_fv ad q o i f)).set k (.long v))) = sx_cw sh cI cZ ad (sL q o k v) := by
  refine sx_setG hs ?_ (fun a _ => rfl) (fun a h => by funext b; simp [sL, h])
  show Sum.inr _ = Sum.inr _
  congr 2
  apply List.ext_getElem?
  intro j
  by_cases hj : j = k
  · subst hj
    have hl : j < (fs.mapIdx (fun i f => sx_fv ad q o i f)).length := (List.getElem?_eq_some_iff.mp (sx_fld (ad := ad) (q := q) (o := o) hf)).1
    rw [List.getElem?_set_self hl, sx_fld hf]
    show some (Value.long v) = some (Value.long (gL (sL q o j v) o j))
    simp [gL_sL]
  · rw [List.getElem?_set_ne (Ne.symm hj)]
    simp only [List.getElem?_mapIdx]
    cases fs[j]? with
    | none => rfl
    | some y =>
      rcases y with r | b
      · rfl
      · cases b
        · rfl
        · show some (Value.long (gL q o j)) = some (Value.long (gL (sL q o k v) o j))
          simp [gL_sL, hj]
theorem sx_setA {sh : List sx_H} {cI cZ : ClassId} {ad : Nat → Nat} {q : SQ} {o n : Nat} {z : Bool} (k : Nat) (v : Int32) (hs : sh[o]? = some (.inl (z, n))) :
    (sx_cw sh cI cZ ad q).set o (ad o, .inl (if z then cZ else cI, n, .inl (upd (q.1 o) k v))) = sx_cw sh cI cZ ad (sI q o k v) := by
  refine sx_setG hs ?_ (fun a h => sx_row_ne q k v h) (fun a _ => rfl)
  show Sum.inl _ = Sum.inl _
  rw [sx_row]
/-- a row of the state written anew -/
def sA (q : SQ) (o : Nat) (f : Nat → Int32) : SQ := (fun a b => if a = o then f b else q.1 a b, q.2)
theorem gI_sA (q : SQ) (o : Nat) (f : Nat → Int32) (a b : Nat) : gI (sA q o f) a b = if a = o then f b else gI q a b := rfl
theorem gL_sA (q : SQ) (o : Nat) (f : Nat → Int32) (a b : Nat) : gL (sA q o f) a b = gL q a b := rfl
theorem sx_setR {sh : List sx_H} {cI cZ : ClassId} {ad : Nat → Nat} {q : SQ} {o n : Nat} {z : Bool} (f : Nat → Int32) (hs : sh[o]? = some (.inl (z, n))) :
    (sx_cw sh cI cZ ad q).set o (ad o, .inl (if z then cZ else cI, n, .inl f)) = sx_cw sh cI cZ ad (sA q o f) := by
  refine sx_setG hs ?_ (fun a h => by funext b; simp [sA, h]) (fun a _ => rfl)
  show Sum.inl _ = Sum.inl _
  have e : (sA q o f).1 o = f := by funext b; simp [sA]
  rw [e]
theorem sx_addr {sh : List sx_H} {cI cZ : ClassId} {ad : Nat → Nat} {q q2 : SQ} {k : Nat} {p : Nat × va_E} (h : (sx_cw sh cI cZ ad q)[k]? = some p) : ∃ p2, (sx_cw sh cI cZ ad q2)[k]? = some p2 ∧ p2.1 = p.1 := by
  simp only [sx_cw, List.getElem?_mapIdx] at h ⊢
  cases hs : sh[k]? with
  | none => rw [hs] at h; cases h
  | some y =>
    rw [hs] at h
    cases h
    exact ⟨_, rfl, rfl⟩
theorem sx_D {A : Nat → Prop} {sh : List sx_H} {cI cZ : ClassId} {ad : Nat → Nat} {q : SQ} (q2 : SQ) (h : va_D A (sx_cw sh cI cZ ad q)) : va_D A (sx_cw sh cI cZ ad q2) := by
  refine ⟨fun i j x y hi hj hxy => ?_, fun k x hk => ?_⟩
  · obtain ⟨x2, a1, a2⟩ := sx_addr (q2 := q) hi
    obtain ⟨y2, b1, b2⟩ := sx_addr (q2 := q) hj
    exact h.1 i j x2 y2 a1 b1 (a2.trans (hxy.trans b2.symm))
  · obtain ⟨x2, a1, a2⟩ := sx_addr (q2 := q) hk
    rw [← a2]
    exact h.2 k x2 a1
theorem sx_A {sh : List sx_H} {cI cZ : ClassId} {ad : Nat → Nat} {q : SQ} (q2 : SQ) {sz a : Nat} (h : va_A (sx_cw sh cI cZ ad q) sz a) : va_A (sx_cw sh cI cZ ad q2) sz a := by
  rcases h with ⟨k, e, h⟩ | h
  · obtain ⟨p2, a1, a2⟩ := sx_addr (q2 := q2) h
    exact Or.inl ⟨k, p2.2, by rw [a1, show a = p2.1 from a2.symm]⟩
  · exact Or.inr h
/-- what a world stands on besides its own cells (texts, static arrays) stays -/
def sx_KS (K : (Nat → Nat) → (Nat → Prop) → State → Heap → Prop) : Prop :=
  (∀ (ad : Nat → Nat) (A : Nat → Prop) (u U : State) (H : Heap), u.WarmedH U.vm → K ad A u H → K ad A U H) ∧
  (∀ (ad : Nat → Nat) (A : Nat → Prop) (U : State) (H H1 : Heap), K ad A U H → (∀ a : Nat, a < H.size → ¬ A a → H1[a]? = H[a]?) → K ad A U H1) ∧
  (∀ (ad : Nat → Nat) (A B : Nat → Prop) (U : State) (H : Heap), (∀ a, B a → A a) → K ad A U H → K ad B U H)
def sx_Q (sh : List sx_H) (cl : List vw_C) (tf : ClassId → ClassId → List (ClassId × FieldType)) (Q : Option Value → SQ → Prop) (D : va_G) (cI cZ : ClassId) (ad : Nat → Nat) (A : Nat → Prop) : Array Value → State → Outcome → State → Prop := fun _ st oc t =>
  (∃ (r : Option Value) (q2 : SQ), oc = .returned (r.map (sx_cz ad)) ∧ Q r q2 ∧ va_P D cl (sx_cw sh cI cZ ad q2) t.heap ∧ va_K D cl (tf cI cZ) t) ∧ va_F A st t
def XX (sh : List sx_H) (cl : List vw_C) (K : (Nat → Nat) → (Nat → Prop) → State → Heap → Prop) (tf : ClassId → ClassId → List (ClassId × FieldType)) (l : Launch) (own : String) (cc : ByteArray) (nL : Nat) (ret : Option FieldType) (R : Room) (Q : Option Value → SQ → Prop) (pc : Nat) (ls : List (Nat × Value)) (st : List Value) (q : SQ) : Prop :=
  ∀ (p : Program) (e : Env) (s : State) (m : MethodId) (args : Array Value) (below : List Frame) (meth : Method) (c : Code) (H : Heap) (locs : List Loc) (D : va_G) (ad : Nat → Nat) (cI cZ : ClassId) (A : Nat → Prop) (lsC : Array Slot),
    p.tables.exec = Jvm.exec → c.code = cc → meth.sig.returnType = ret → meth.locks = false → c.maxLocals = nL → s.vm.findClass own = some m.cls → (∀ w ∈ GG, w.before args s = true) → K ad A s s.heap → va_K D cl (tf cI cZ) s → va_P D cl (sx_cw sh cI cZ ad q) H → va_D A (sx_cw sh cI cZ ad q) → va_S A s.heap H locs → (∀ a, s.heap.size ≤ a → A a) → lv_has lsC nL (ls.map (fun z => (z.1, sx_cz ad z.2))) →
    W p l e R s m args below meth c H locs 0 0 (MQ below (sx_Q sh cl tf Q D cI cZ ad A) args s 0 0 A) (F0 m pc lsC (st.map (sx_cz ad)))
/-- a method's contract: on this state, with these arguments, it answers 'res' and leaves the state q2 -/
def CK (sh : List sx_H) (cl : List vw_C) (K : (Nat → Nat) → (Nat → Prop) → State → Heap → Prop) (tf : ClassId → ClassId → List (ClassId × FieldType)) (l : Launch) (y : MethodName) (cc : ByteArray) (nL : Nat) (ret : Option FieldType) (f L : Nat) (args : List Value) (q : SQ) (res : Option Value) (q2 : SQ) : Prop :=
  ∀ (D : va_G) (ad : Nat → Nat) (cI cZ : ClassId) (sz : Nat), Met l y (Cond.code y cc nL ret :: GG) { frames := f, cells := 0, slots := 0, locals := L } (va_Pc (args.map (sx_cz ad)) (fun U => U.heap.size = sz ∧ va_P D cl (sx_cw sh cI cZ ad q) U.heap ∧ va_K D cl (tf cI cZ) U ∧ va_D (fun _ => True) (sx_cw sh cI cZ ad q) ∧ K ad (va_A (sx_cw sh cI cZ ad q) sz) U U.heap)) (sx_Q sh cl tf (fun r q3 => r = res ∧ q3 = q2) D cI cZ ad (va_A (sx_cw sh cI cZ ad q) sz)) 0 0 (va_A (sx_cw sh cI cZ ad q) sz)
/-- what the tables say of a method -/
def sx_MI (y : MethodName) (cc : ByteArray) (nL : Nat) (ret : Option FieldType) (n : Nat) : Prop := plainName y.cls = true ∧ (y.cls ≠ "java/lang/invoke/MethodHandle" ∧ y.cls ≠ "java/lang/invoke/VarHandle" ∧ (parseMethodDescriptor y.desc).map (fun d => d.parameters.length) = some n) ∧ Cond.code y cc nL ret ∈ GG ∧ Cond.initialized y.cls ∈ GG
theorem sx_good {y : MethodName} {cc : ByteArray} {nL : Nat} {ret : Option FieldType} (h : Cond.code y cc nL ret ∈ GG) : GoodIn GG (Cond.code y cc nL ret :: GG) := by
  intro w hw
  have hm : w ∈ GG := by
    rcases List.mem_cons.mp hw with rfl | h2
    · exact h
    · exact h2
  exact ⟨hm, good_of_word (gg_good w hm).2⟩
theorem sx_args (ad : Nat → Nat) : ∀ (i : Nat) (vs : List Value), lv_args i (vs.map (sx_cz ad)) = (lv_args i vs).map (fun z => (z.1, sx_cz ad z.2))
  | _, [] => rfl
  | i, v :: vs => by
    simp only [List.map_cons, lv_args, sx_cz_cat, sx_args ad _ vs]
theorem sx_sl (ad : Nat → Nat) : ∀ (vs : List Value), (lg_sl (vs.map (sx_cz ad))).length = (lg_sl vs).length
  | [] => rfl
  | v :: vs => by
    have h := sx_sl ad vs
    simp only [lg_sl] at h
    simp only [lg_sl, List.map_cons, List.flatMap_cons, List.length_append, h, sx_cz_cat]
    by_cases hc : v.category = 2
    · simp [hc]
    · simp [hc]
theorem CK.of {sh : List sx_H} {cl : List vw_C} {K : (Nat → Nat) → (Nat → Prop) → State → Heap → Prop} {tf : ClassId → ClassId → List (ClassId × FieldType)} {l : Launch} {y : MethodName} {cc : ByteArray} {nL n : Nat} {ret : Option FieldType} {f L : Nat} {args : List Value} {q : SQ} {res : Option Value} {q2 : SQ} (mi : sx_MI y cc nL ret n) (hlen : (lg_sl args).length ≤ nL)
    (h : XX sh cl K tf l y.cls cc nL ret { frames := f, cells := 0, slots := 0, locals := L } (fun r q3 => r = res ∧ q3 = q2) 0 (lv_args 0 args) [] q) : CK sh cl K tf l y cc nL ret f L args q res q2 := by
  intro D ad cI cZ sz
  refine Met.ofW (cc := cc) (maxL := nL) (ret := ret) mi.1 rfl ?_
  intro p e s m args9 below meth c s₁ B hml hv
  obtain ⟨rfl, hsz, hP, hK, hD0, hKx⟩ := hv
  have hts := atoms_spec (ws := Cond.code y cc nL ret :: GG) B.pre
  have hown : s.vm.findClass y.cls = some m.cls := findClass_of_methodNamed B.named
  subst hsz
  have hD := hD0.self (sz := s.heap.size)
  have hl := lv_entry (args.map (sx_cz ad)) (n := nL) (by rw [sx_sl]; exact hlen)
  rw [lg_entry_eq]
  rw [sx_args] at hl
  exact h p e s m _ below meth c s.heap [] D ad cI cZ _ _ B.exec B.bytes B.returns B.notSynchronized hml hown (fun w hw => hts w (List.mem_cons_of_mem _ hw)) hKx hK hP hD va_S.rf (fun a ha => Or.inr ha) hl
section SXC
variable {p : Program} {l : Launch} {e : Env} {R : Room} {s : State} {m : MethodId} {args : Array Value} {below : List Frame} {meth : Method} {c : Code} {H : Heap} {locs : List Loc} {Q : State → Prop}
variable {pc : Nat} {ls : Array Slot} {rest st0 : List Value} {a : Array Value} {A0 A1 : Nat → Prop} {H0 : Heap} {free : Addr → Prop}
variable {sh : List sx_H} {cl : List vw_C} {tf : ClassId → ClassId → List (ClassId × FieldType)} {QQ : Option Value → SQ → Prop} {D : va_G} {cI cZ : ClassId} {ad : Nat → Nat}
theorem sx_call (hr : va_Run p l e R s m args below meth c H locs 0 0 0 0 (F0 m pc ls st0) rest (sx_Q sh cl tf QQ D cI cZ ad A1 a) free) (hS : va_S A0 H0 H locs) (hA : ∀ q, q < H.size → A1 q → A0 q) (hf : ∀ q, free q → A0 q)
    (kk : ∀ (r : Option Value) (u : SQ) (H1 : Heap) (locs1 : List Loc), QQ r u → va_P D cl (sx_cw sh cI cZ ad u) H1 → va_S A0 H0 H1 locs1 → W p l e R s m args below meth c H1 locs1 0 0 Q (F0 m (pc + 3) ls ((r.map (sx_cz ad)).toList ++ rest))) : W p l e R s m args below meth c H locs 0 0 Q (F0 m pc ls st0) := by
  intro T hT X
  obtain ⟨v, st₀, t, T', L, h0, X', hL, e1, e2, ⟨⟨r, u, hv, hp, hb, hk2⟩, hz, hk⟩, st⟩ := hr T hT X
  have hv : v = r.map (sx_cz ad) := by cases hv; rfl
  subst hv
  rw [h0] at hz hk
  obtain ⟨t2, a1, b1⟩ := kk r u T'.heap (locs ++ L) hp (by rw [e1]; exact hb)
    ⟨Nat.le_trans hS.1 (by rw [e1]; exact hz), fun q h1 h2 => by rw [e1, hk q (Nat.lt_of_lt_of_le h1 hS.1) (fun z => h2 (hA q (Nat.lt_of_lt_of_le h1 hS.1) z))]; exact hS.2.1 q h1 h2, fun q hq => by
      rcases List.mem_append.mp hq with h | h
      · exact hS.2.2 q h
      · exact hf _ (hL q h)⟩ T' rfl X'
  exact ⟨t2, st t2 a1, b1⟩
end SXC
section SXR
variable {sh : List sx_H} {cl : List vw_C} {K : (Nat → Nat) → (Nat → Prop) → State → Heap → Prop} {tf : ClassId → ClassId → List (ClassId × FieldType)} {l : Launch} {own : String} {cc : ByteArray} {nL : Nat} {ret : Option FieldType} {R : Room} {Q : Option Value → SQ → Prop} {pc : Nat} {ls : List (Nat × Value)} {st : List Value} {q : SQ}

theorem sx_iconst {n : Int} {v : Int32} (d : decode cc pc = .ok (.iconst n, 1)) (hv : Int32.ofInt n = v) (k : XX sh cl K tf l own cc nL ret R Q (pc + 1) ls (.int v :: st) q) : XX sh cl K tf l own cc nL ret R Q pc ls st q := by
  intro p e s m args below meth c H locs D ad cI cZ A lsC hx hb hr hlk hml hown hts hKx hK hP hD hS hA hl
  exact lv_iconst hx hb d hv (k p e s m args below meth c H locs D ad cI cZ A lsC hx hb hr hlk hml hown hts hKx hK hP hD hS hA hl)
theorem sx_bipush {n : Int} {v : Int32} (d : decode cc pc = .ok (.bipush n, 2)) (hv : (Int8.ofInt n).toInt32 = v) (k : XX sh cl K tf l own cc nL ret R Q (pc + 2) ls (.int v :: st) q) : XX sh cl K tf l own cc nL ret R Q pc ls st q := by
  intro p e s m args below meth c H locs D ad cI cZ A lsC hx hb hr hlk hml hown hts hKx hK hP hD hS hA hl
  exact lv_bipush hx hb d hv (k p e s m args below meth c H locs D ad cI cZ A lsC hx hb hr hlk hml hown hts hKx hK hP hD hS hA hl)
theorem sx_sipush {n : Int} {v : Int32} (d : decode cc pc = .ok (.sipush n, 3)) (hv : (Int16.ofInt n).toInt32 = v) (k : XX sh cl K tf l own cc nL ret R Q (pc + 3) ls (.int v :: st) q) : XX sh cl K tf l own cc nL ret R Q pc ls st q := by
  intro p e s m args below meth c H locs D ad cI cZ A lsC hx hb hr hlk hml hown hts hKx hK hP hD hS hA hl
  exact lv_sipush hx hb d hv (k p e s m args below meth c H locs D ad cI cZ A lsC hx hb hr hlk hml hown hts hKx hK hP hD hS hA hl)
theorem sx_lconst {n : Fin 2} {v : Int64} (d : decode cc pc = .ok (.lconst n, 1)) (hv : Int64.ofNat (n : Nat) = v) (k : XX sh cl K tf l own cc nL ret R Q (pc + 1) ls (.long v :: st) q) : XX sh cl K tf l own cc nL ret R Q pc ls st q := by
  intro p e s m args below meth c H locs D ad cI cZ A lsC hx hb hr hlk hml hown hts hKx hK hP hD hS hA hl
  exact lv_lconst hx hb d hv (k p e s m args below meth c H locs D ad cI cZ A lsC hx hb hr hlk hml hown hts hKx hK hP hD hS hA hl)
theorem sx_ldc {n : Nat} {v : Int32} (d : decode cc pc = .ok (.ldc n, 2)) (hw : Cond.constant own n v ∈ GG) (k : XX sh cl K tf l own cc nL ret R Q (pc + 2) ls (.int v :: st) q) : XX sh cl K tf l own cc nL ret R Q pc ls st q := by
  intro p e s m args below meth c H locs D ad cI cZ A lsC hx hb hr hlk hml hown hts hKx hK hP hD hS hA hl
  exact lv_ldc hx hb hown (hts _ hw) d (k p e s m args below meth c H locs D ad cI cZ A lsC hx hb hr hlk hml hown hts hKx hK hP hD hS hA hl)
theorem sx_ldcw {n : Nat} {v : Int32} (d : decode cc pc = .ok (.ldc_w n, 3)) (hw : Cond.constant own n v ∈ GG) (k : XX sh cl K tf l own cc nL ret R Q (pc + 3) ls (.int v :: st) q) : XX sh cl K tf l own cc nL ret R Q pc ls st q := by
  intro p e s m args below meth c H locs D ad cI cZ A lsC hx hb hr hlk hml hown hts hKx hK hP hD hS hA hl
  exact lv_ldcw hx hb hown (hts _ hw) d (k p e s m args below meth c H locs D ad cI cZ A lsC hx hb hr hlk hml hown hts hKx hK hP hD hS hA hl)
theorem sx_ldc2 {n : Nat} {v : Int64} (d : decode cc pc = .ok (.ldc2_w n, 3)) (hw : Cond.constantLong own n v ∈ GG) (k : XX sh cl K tf l own cc nL ret R Q (pc + 3) ls (.long v :: st) q) : XX sh cl K tf l own cc nL ret R Q pc ls st q := by
  intro p e s m args below meth c H locs D ad cI cZ A lsC hx hb hr hlk hml hown hts hKx hK hP hD hS hA hl
  exact lv_ldc2 hx hb hown (hts _ hw) d (k p e s m args below meth c H locs D ad cI cZ A lsC hx hb hr hlk hml hown hts hKx hK hP hD hS hA hl)
theorem sx_lat {ad : Nat → Nat} {lsC : Array Slot} {i : Nat} {v : Value} (hl : lv_has lsC nL (ls.map (fun z => (z.1, sx_cz ad z.2)))) (h : ls.lookup i = some v) : lsC[i]? = some (.val (sx_cz ad v)) := by
  have hm : (i, v) ∈ ls := by
    induction ls with
    | nil => cases h
    | cons z ls ih =>
      obtain ⟨a, b⟩ := z
      cases e : (i == a)
      · simp only [List.lookup_cons, e] at h
        exact List.mem_cons_of_mem _ (ih (by exact ⟨hl.1, hl.2.1, fun z hz => hl.2.2 z (List.mem_cons_of_mem _ hz)⟩) h)
      · simp only [List.lookup_cons, e] at h
        cases h
        rw [eq_of_beq e]
        exact List.mem_cons_self
  exact hl.2.2 (i, sx_cz ad v) (List.mem_map.mpr ⟨(i, v), hm, rfl⟩)
theorem sx_iload_n {k9 : Fin 4} {i : Nat} {v : Int32} (d : decode cc pc = .ok (.iload_n k9, 1)) (hi : (k9 : Nat) = i) (h : ls.lookup i = some (.int v)) (k : XX sh cl K tf l own cc nL ret R Q (pc + 1) ls (.int v :: st) q) : XX sh cl K tf l own cc nL ret R Q pc ls st q := by
  intro p e s m args below meth c H locs D ad cI cZ A lsC hx hb hr hlk hml hown hts hKx hK hP hD hS hA hl
  exact lv_iload_n hx hb d hi (sx_lat hl h) (k p e s m args below meth c H locs D ad cI cZ A lsC hx hb hr hlk hml hown hts hKx hK hP hD hS hA hl)
theorem sx_iload {i : Nat} {v : Int32} (d : decode cc pc = .ok (.iload i, 2)) (h : ls.lookup i = some (.int v)) (k : XX sh cl K tf l own cc nL ret R Q (pc + 2) ls (.int v :: st) q) : XX sh cl K tf l own cc nL ret R Q pc ls st q := by
  intro p e s m args below meth c H locs D ad cI cZ A lsC hx hb hr hlk hml hown hts hKx hK hP hD hS hA hl
  exact lv_iload hx hb d (sx_lat hl h) (k p e s m args below meth c H locs D ad cI cZ A lsC hx hb hr hlk hml hown hts hKx hK hP hD hS hA hl)
theorem sx_lload_n {k9 : Fin 4} {i : Nat} {v : Int64} (d : decode cc pc = .ok (.lload_n k9, 1)) (hi : (k9 : Nat) = i) (h : ls.lookup i = some (.long v)) (k : XX sh cl K tf l own cc nL ret R Q (pc + 1) ls (.long v :: st) q) : XX sh cl K tf l own cc nL ret R Q pc ls st q := by
  intro p e s m args below meth c H locs D ad cI cZ A lsC hx hb hr hlk hml hown hts hKx hK hP hD hS hA hl
  exact lv_lload_n hx hb d hi (sx_lat hl h) (k p e s m args below meth c H locs D ad cI cZ A lsC hx hb hr hlk hml hown hts hKx hK hP hD hS hA hl)
theorem sx_lload {i : Nat} {v : Int64} (d : decode cc pc = .ok (.lload i, 2)) (h : ls.lookup i = some (.long v)) (k : XX sh cl K tf l own cc nL ret R Q (pc + 2) ls (.long v :: st) q) : XX sh cl K tf l own cc nL ret R Q pc ls st q := by
  intro p e s m args below meth c H locs D ad cI cZ A lsC hx hb hr hlk hml hown hts hKx hK hP hD hS hA hl
  exact lv_lload hx hb d (sx_lat hl h) (k p e s m args below meth c H locs D ad cI cZ A lsC hx hb hr hlk hml hown hts hKx hK hP hD hS hA hl)
theorem sx_aload_n {k9 : Fin 4} {i : Nat} {v : Nat} (d : decode cc pc = .ok (.aload_n k9, 1)) (hi : (k9 : Nat) = i) (h : ls.lookup i = some (.ref v)) (k : XX sh cl K tf l own cc nL ret R Q (pc + 1) ls (.ref v :: st) q) : XX sh cl K tf l own cc nL ret R Q pc ls st q := by
  intro p e s m args below meth c H locs D ad cI cZ A lsC hx hb hr hlk hml hown hts hKx hK hP hD hS hA hl
  exact lv_aload_n hx hb d hi (sx_lat hl h) (k p e s m args below meth c H locs D ad cI cZ A lsC hx hb hr hlk hml hown hts hKx hK hP hD hS hA hl)
theorem sx_aload {i : Nat} {v : Nat} (d : decode cc pc = .ok (.aload i, 2)) (h : ls.lookup i = some (.ref v)) (k : XX sh cl K tf l own cc nL ret R Q (pc + 2) ls (.ref v :: st) q) : XX sh cl K tf l own cc nL ret R Q pc ls st q := by
  intro p e s m args below meth c H locs D ad cI cZ A lsC hx hb hr hlk hml hown hts hKx hK hP hD hS hA hl
  exact lv_aload hx hb d (sx_lat hl h) (k p e s m args below meth c H locs D ad cI cZ A lsC hx hb hr hlk hml hown hts hKx hK hP hD hS hA hl)
def sx_st1 (ls : List (Nat × Value)) (i : Nat) (v : Value) : List (Nat × Value) := (i, v) :: ls.filter (fun z => !(z.1 == i) && !(z.1 + 1 == i && z.2.category == 2))
def sx_st2 (ls : List (Nat × Value)) (i : Nat) (v : Value) : List (Nat × Value) := (i, v) :: ls.filter (fun z => !(z.1 == i) && (!(z.1 == i + 1) && !(z.1 + 1 == i && z.2.category == 2)))
theorem sx_st1_map (ad : Nat → Nat) (ls : List (Nat × Value)) (i : Nat) (v : Value) : (i, sx_cz ad v) :: (ls.map (fun z => (z.1, sx_cz ad z.2))).filter (fun z => !(z.1 == i) && !(z.1 + 1 == i && z.2.category == 2)) = (sx_st1 ls i v).map (fun z => (z.1, sx_cz ad z.2)) := by
  simp only [sx_st1, List.map_cons, List.filter_map]
  congr 2
  apply List.filter_congr
  intro z _
  simp only [Function.comp, sx_cz_cat]
theorem sx_st2_map (ad : Nat → Nat) (ls : List (Nat × Value)) (i : Nat) (v : Value) : (i, sx_cz ad v) :: (ls.map (fun z => (z.1, sx_cz ad z.2))).filter (fun z => !(z.1 == i) && (!(z.1 == i + 1) && !(z.1 + 1 == i && z.2.category == 2))) = (sx_st2 ls i v).map (fun z => (z.1, sx_cz ad z.2)) := by
  simp only [sx_st2, List.map_cons, List.filter_map]
  congr 2
  apply List.filter_congr
  intro z _
  simp only [Function.comp, sx_cz_cat]
theorem sx_istore_n {k9 : Fin 4} {i : Nat} {v : Int32} {ls2 : List (Nat × Value)} (d : decode cc pc = .ok (.istore_n k9, 1)) (hi : (k9 : Nat) = i) (hn : i < nL) (h : sx_st1 ls i (.int v) = ls2) (k : XX sh cl K tf l own cc nL ret R Q (pc + 1) ls2 st q) : XX sh cl K tf l own cc nL ret R Q pc ls (.int v :: st) q := by
  intro p e s m args below meth c H locs D ad cI cZ A lsC hx hb hr hlk hml hown hts hKx hK hP hD hS hA hl
  subst h
  exact lv_istore_n hx hb d hi hl hn (sx_st1_map ad ls i (.int v)) (fun lsC hl => (k p e s m args below meth c H locs D ad cI cZ A lsC hx hb hr hlk hml hown hts hKx hK hP hD hS hA hl))
theorem sx_istore {i : Nat} {v : Int32} {ls2 : List (Nat × Value)} (d : decode cc pc = .ok (.istore i, 2)) (hn : i < nL) (h : sx_st1 ls i (.int v) = ls2) (k : XX sh cl K tf l own cc nL ret R Q (pc + 2) ls2 st q) : XX sh cl K tf l own cc nL ret R Q pc ls (.int v :: st) q := by
  intro p e s m args below meth c H locs D ad cI cZ A lsC hx hb hr hlk hml hown hts hKx hK hP hD hS hA hl
  subst h
  exact lv_istore hx hb d hl hn (sx_st1_map ad ls i (.int v)) (fun lsC hl => (k p e s m args below meth c H locs D ad cI cZ A lsC hx hb hr hlk hml hown hts hKx hK hP hD hS hA hl))
theorem sx_lstore_n {k9 : Fin 4} {i : Nat} {v : Int64} {ls2 : List (Nat × Value)} (d : decode cc pc = .ok (.lstore_n k9, 1)) (hi : (k9 : Nat) = i) (hn : i + 1 < nL) (h : sx_st2 ls i (.long v) = ls2) (k : XX sh cl K tf l own cc nL ret R Q (pc + 1) ls2 st q) : XX sh cl K tf l own cc nL ret R Q pc ls (.long v :: st) q := by
  intro p e s m args below meth c H locs D ad cI cZ A lsC hx hb hr hlk hml hown hts hKx hK hP hD hS hA hl
  subst h
  exact lv_lstore_n hx hb d hi hl hn (sx_st2_map ad ls i (.long v)) (fun lsC hl => (k p e s m args below meth c H locs D ad cI cZ A lsC hx hb hr hlk hml hown hts hKx hK hP hD hS hA hl))
theorem sx_lstore {i : Nat} {v : Int64} {ls2 : List (Nat × Value)} (d : decode cc pc = .ok (.lstore i, 2)) (hn : i + 1 < nL) (h : sx_st2 ls i (.long v) = ls2) (k : XX sh cl K tf l own cc nL ret R Q (pc + 2) ls2 st q) : XX sh cl K tf l own cc nL ret R Q pc ls (.long v :: st) q := by
  intro p e s m args below meth c H locs D ad cI cZ A lsC hx hb hr hlk hml hown hts hKx hK hP hD hS hA hl
  subst h
  exact lv_lstore hx hb d hl hn (sx_st2_map ad ls i (.long v)) (fun lsC hl => (k p e s m args below meth c H locs D ad cI cZ A lsC hx hb hr hlk hml hown hts hKx hK hP hD hS hA hl))
theorem sx_astore_n {k9 : Fin 4} {i : Nat} {v : Nat} {ls2 : List (Nat × Value)} (d : decode cc pc = .ok (.astore_n k9, 1)) (hi : (k9 : Nat) = i) (hn : i < nL) (h : sx_st1 ls i (.ref v) = ls2) (k : XX sh cl K tf l own cc nL ret R Q (pc + 1) ls2 st q) : XX sh cl K tf l own cc nL ret R Q pc ls (.ref v :: st) q := by
  intro p e s m args below meth c H locs D ad cI cZ A lsC hx hb hr hlk hml hown hts hKx hK hP hD hS hA hl
  subst h
  exact lv_astore_n hx hb d hi hl hn (sx_st1_map ad ls i (.ref v)) (fun lsC hl => (k p e s m args below meth c H locs D ad cI cZ A lsC hx hb hr hlk hml hown hts hKx hK hP hD hS hA hl))
theorem sx_astore {i : Nat} {v : Nat} {ls2 : List (Nat × Value)} (d : decode cc pc = .ok (.astore i, 2)) (hn : i < nL) (h : sx_st1 ls i (.ref v) = ls2) (k : XX sh cl K tf l own cc nL ret R Q (pc + 2) ls2 st q) : XX sh cl K tf l own cc nL ret R Q pc ls (.ref v :: st) q := by
  intro p e s m args below meth c H locs D ad cI cZ A lsC hx hb hr hlk hml hown hts hKx hK hP hD hS hA hl
  subst h
  exact lv_astore hx hb d hl hn (sx_st1_map ad ls i (.ref v)) (fun lsC hl => (k p e s m args below meth c H locs D ad cI cZ A lsC hx hb hr hlk hml hown hts hKx hK hP hD hS hA hl))
theorem sx_iinc {i k9 : Nat} {n : Int} {x v : Int32} {ls2 : List (Nat × Value)} (d : decode cc pc = .ok (.iinc i n, 3)) (h9 : ls[k9]? = some (i, .int x)) (hv : x + Int32.ofInt n = v) (hn : i < nL) (h : sx_st1 ls i (.int v) = ls2) (k : XX sh cl K tf l own cc nL ret R Q (pc + 3) ls2 st q) : XX sh cl K tf l own cc nL ret R Q pc ls st q := by
  intro p e s m args below meth c H locs D ad cI cZ A lsC hx hb hr hlk hml hown hts hKx hK hP hD hS hA hl
  subst h
  exact lv_iinc hx hb d hl (k := k9) (by rw [List.getElem?_map, h9]; rfl) hv hn (sx_st1_map ad ls i (.int v)) (fun lsC hl => (k p e s m args below meth c H locs D ad cI cZ A lsC hx hb hr hlk hml hown hts hKx hK hP hD hS hA hl))
theorem sx_locs {ls2 : List (Nat × Value)} (ks : List Nat) (h : lv_pick ls ks = ls2) (k : XX sh cl K tf l own cc nL ret R Q pc ls2 st q) : XX sh cl K tf l own cc nL ret R Q pc ls st q := by
  intro p e s m args below meth c H locs D ad cI cZ A lsC hx hb hr hlk hml hown hts hKx hK hP hD hS hA hl
  exact k p e s m args below meth c H locs D ad cI cZ A lsC hx hb hr hlk hml hown hts hKx hK hP hD hS hA (lv_sub hl ks (by subst h; simp [lv_pick, List.map_filterMap, List.getElem?_map]))
theorem sx_iadd {x y : Int32} (d : decode cc pc = .ok (.iadd, 1)) (k : XX sh cl K tf l own cc nL ret R Q (pc + 1) ls (.int (x + y) :: st) q) : XX sh cl K tf l own cc nL ret R Q pc ls (.int y :: .int x :: st) q := by
  intro p e s m args below meth c H locs D ad cI cZ A lsC hx hb hr hlk hml hown hts hKx hK hP hD hS hA hl
  exact lv_iadd hx hb d (k p e s m args below meth c H locs D ad cI cZ A lsC hx hb hr hlk hml hown hts hKx hK hP hD hS hA hl)
theorem sx_isub {x y : Int32} (d : decode cc pc = .ok (.isub, 1)) (k : XX sh cl K tf l own cc nL ret R Q (pc + 1) ls (.int (x - y) :: st) q) : XX sh cl K tf l own cc nL ret R Q pc ls (.int y :: .int x :: st) q := by
  intro p e s m args below meth c H locs D ad cI cZ A lsC hx hb hr hlk hml hown hts hKx hK hP hD hS hA hl
  exact lv_isub hx hb d (k p e s m args below meth c H locs D ad cI cZ A lsC hx hb hr hlk hml hown hts hKx hK hP hD hS hA hl)
theorem sx_imul {x y : Int32} (d : decode cc pc = .ok (.imul, 1)) (k : XX sh cl K tf l own cc nL ret R Q (pc + 1) ls (.int (x * y) :: st) q) : XX sh cl K tf l own cc nL ret R Q pc ls (.int y :: .int x :: st) q := by
  intro p e s m args below meth c H locs D ad cI cZ A lsC hx hb hr hlk hml hown hts hKx hK hP hD hS hA hl
  exact lv_imul hx hb d (k p e s m args below meth c H locs D ad cI cZ A lsC hx hb hr hlk hml hown hts hKx hK hP hD hS hA hl)
theorem sx_iand {x y : Int32} (d : decode cc pc = .ok (.iand, 1)) (k : XX sh cl K tf l own cc nL ret R Q (pc + 1) ls (.int (x &&& y) :: st) q) : XX sh cl K tf l own cc nL ret R Q pc ls (.int y :: .int x :: st) q := by
  intro p e s m args below meth c H locs D ad cI cZ A lsC hx hb hr hlk hml hown hts hKx hK hP hD hS hA hl
  exact lv_iand hx hb d (k p e s m args below meth c H locs D ad cI cZ A lsC hx hb hr hlk hml hown hts hKx hK hP hD hS hA hl)
theorem sx_ior {x y : Int32} (d : decode cc pc = .ok (.ior, 1)) (k : XX sh cl K tf l own cc nL ret R Q (pc + 1) ls (.int (x ||| y) :: st) q) : XX sh cl K tf l own cc nL ret R Q pc ls (.int y :: .int x :: st) q := by
  intro p e s m args below meth c H locs D ad cI cZ A lsC hx hb hr hlk hml hown hts hKx hK hP hD hS hA hl
  exact lv_ior hx hb d (k p e s m args below meth c H locs D ad cI cZ A lsC hx hb hr hlk hml hown hts hKx hK hP hD hS hA hl)
theorem sx_ixor {x y : Int32} (d : decode cc pc = .ok (.ixor, 1)) (k : XX sh cl K tf l own cc nL ret R Q (pc + 1) ls (.int (x ^^^ y) :: st) q) : XX sh cl K tf l own cc nL ret R Q pc ls (.int y :: .int x :: st) q := by
  intro p e s m args below meth c H locs D ad cI cZ A lsC hx hb hr hlk hml hown hts hKx hK hP hD hS hA hl
  exact lv_ixor hx hb d (k p e s m args below meth c H locs D ad cI cZ A lsC hx hb hr hlk hml hown hts hKx hK hP hD hS hA hl)
theorem sx_ishl {x y : Int32} (d : decode cc pc = .ok (.ishl, 1)) (k : XX sh cl K tf l own cc nL ret R Q (pc + 1) ls (.int (x <<< (y &&& 31)) :: st) q) : XX sh cl K tf l own cc nL ret R Q pc ls (.int y :: .int x :: st) q := by
  intro p e s m args below meth c H locs D ad cI cZ A lsC hx hb hr hlk hml hown hts hKx hK hP hD hS hA hl
  exact lv_ishl hx hb d (k p e s m args below meth c H locs D ad cI cZ A lsC hx hb hr hlk hml hown hts hKx hK hP hD hS hA hl)
theorem sx_ishr {x y : Int32} (d : decode cc pc = .ok (.ishr, 1)) (k : XX sh cl K tf l own cc nL ret R Q (pc + 1) ls (.int (x >>> (y &&& 31)) :: st) q) : XX sh cl K tf l own cc nL ret R Q pc ls (.int y :: .int x :: st) q := by
  intro p e s m args below meth c H locs D ad cI cZ A lsC hx hb hr hlk hml hown hts hKx hK hP hD hS hA hl
  exact lv_ishr hx hb d (k p e s m args below meth c H locs D ad cI cZ A lsC hx hb hr hlk hml hown hts hKx hK hP hD hS hA hl)
theorem sx_idiv {x y : Int32} (d : decode cc pc = .ok (.idiv, 1)) (h0 : ¬ y = 0) (k : XX sh cl K tf l own cc nL ret R Q (pc + 1) ls (.int (x / y) :: st) q) : XX sh cl K tf l own cc nL ret R Q pc ls (.int y :: .int x :: st) q := by
  intro p e s m args below meth c H locs D ad cI cZ A lsC hx hb hr hlk hml hown hts hKx hK hP hD hS hA hl
  exact lv_idiv hx hb d h0 (k p e s m args below meth c H locs D ad cI cZ A lsC hx hb hr hlk hml hown hts hKx hK hP hD hS hA hl)
theorem sx_irem {x y : Int32} (d : decode cc pc = .ok (.irem, 1)) (h0 : ¬ y = 0) (k : XX sh cl K tf l own cc nL ret R Q (pc + 1) ls (.int (x - x / y * y) :: st) q) : XX sh cl K tf l own cc nL ret R Q pc ls (.int y :: .int x :: st) q := by
  intro p e s m args below meth c H locs D ad cI cZ A lsC hx hb hr hlk hml hown hts hKx hK hP hD hS hA hl
  exact lv_irem hx hb d h0 (k p e s m args below meth c H locs D ad cI cZ A lsC hx hb hr hlk hml hown hts hKx hK hP hD hS hA hl)
theorem sx_ineg {x : Int32} (d : decode cc pc = .ok (.ineg, 1)) (k : XX sh cl K tf l own cc nL ret R Q (pc + 1) ls (.int (0 - x) :: st) q) : XX sh cl K tf l own cc nL ret R Q pc ls (.int x :: st) q := by
  intro p e s m args below meth c H locs D ad cI cZ A lsC hx hb hr hlk hml hown hts hKx hK hP hD hS hA hl
  exact lv_ineg hx hb d (k p e s m args below meth c H locs D ad cI cZ A lsC hx hb hr hlk hml hown hts hKx hK hP hD hS hA hl)
theorem sx_iushr {x y : Int32} (d : decode cc pc = .ok (.iushr, 1)) (k : XX sh cl K tf l own cc nL ret R Q (pc + 1) ls (.int (x.toUInt32 >>> (y.toUInt32 &&& Int32.toUInt32 31)).toInt32 :: st) q) : XX sh cl K tf l own cc nL ret R Q pc ls (.int y :: .int x :: st) q := by
  intro p e s m args below meth c H locs D ad cI cZ A lsC hx hb hr hlk hml hown hts hKx hK hP hD hS hA hl
  exact lv_iushr hx hb d rfl (k p e s m args below meth c H locs D ad cI cZ A lsC hx hb hr hlk hml hown hts hKx hK hP hD hS hA hl)
theorem sx_ladd {x y : Int64} (d : decode cc pc = .ok (.ladd, 1)) (k : XX sh cl K tf l own cc nL ret R Q (pc + 1) ls (.long (x + y) :: st) q) : XX sh cl K tf l own cc nL ret R Q pc ls (.long y :: .long x :: st) q := by
  intro p e s m args below meth c H locs D ad cI cZ A lsC hx hb hr hlk hml hown hts hKx hK hP hD hS hA hl
  exact lv_ladd hx hb d (k p e s m args below meth c H locs D ad cI cZ A lsC hx hb hr hlk hml hown hts hKx hK hP hD hS hA hl)
theorem sx_lsub {x y : Int64} (d : decode cc pc = .ok (.lsub, 1)) (k : XX sh cl K tf l own cc nL ret R Q (pc + 1) ls (.long (x - y) :: st) q) : XX sh cl K tf l own cc nL ret R Q pc ls (.long y :: .long x :: st) q := by
  intro p e s m args below meth c H locs D ad cI cZ A lsC hx hb hr hlk hml hown hts hKx hK hP hD hS hA hl
  exact lv_lsub hx hb d (k p e s m args below meth c H locs D ad cI cZ A lsC hx hb hr hlk hml hown hts hKx hK hP hD hS hA hl)
theorem sx_lmul {x y : Int64} (d : decode cc pc = .ok (.lmul, 1)) (k : XX sh cl K tf l own cc nL ret R Q (pc + 1) ls (.long (x * y) :: st) q) : XX sh cl K tf l own cc nL ret R Q pc ls (.long y :: .long x :: st) q := by
  intro p e s m args below meth c H locs D ad cI cZ A lsC hx hb hr hlk hml hown hts hKx hK hP hD hS hA hl
  exact lv_lmul hx hb d (k p e s m args below meth c H locs D ad cI cZ A lsC hx hb hr hlk hml hown hts hKx hK hP hD hS hA hl)
theorem sx_land {x y : Int64} (d : decode cc pc = .ok (.land, 1)) (k : XX sh cl K tf l own cc nL ret R Q (pc + 1) ls (.long (x &&& y) :: st) q) : XX sh cl K tf l own cc nL ret R Q pc ls (.long y :: .long x :: st) q := by
  intro p e s m args below meth c H locs D ad cI cZ A lsC hx hb hr hlk hml hown hts hKx hK hP hD hS hA hl
  exact lv_land hx hb d (k p e s m args below meth c H locs D ad cI cZ A lsC hx hb hr hlk hml hown hts hKx hK hP hD hS hA hl)
theorem sx_lor {x y : Int64} (d : decode cc pc = .ok (.lor, 1)) (k : XX sh cl K tf l own cc nL ret R Q (pc + 1) ls (.long (x ||| y) :: st) q) : XX sh cl K tf l own cc nL ret R Q pc ls (.long y :: .long x :: st) q := by
  intro p e s m args below meth c H locs D ad cI cZ A lsC hx hb hr hlk hml hown hts hKx hK hP hD hS hA hl
  exact lv_lor hx hb d (k p e s m args below meth c H locs D ad cI cZ A lsC hx hb hr hlk hml hown hts hKx hK hP hD hS hA hl)
theorem sx_lneg {x : Int64} (d : decode cc pc = .ok (.lneg, 1)) (k : XX sh cl K tf l own cc nL ret R Q (pc + 1) ls (.long (0 - x) :: st) q) : XX sh cl K tf l own cc nL ret R Q pc ls (.long x :: st) q := by
  intro p e s m args below meth c H locs D ad cI cZ A lsC hx hb hr hlk hml hown hts hKx hK hP hD hS hA hl
  exact lv_lneg hx hb d (k p e s m args below meth c H locs D ad cI cZ A lsC hx hb hr hlk hml hown hts hKx hK hP hD hS hA hl)
theorem sx_lcmp {x y : Int64} (d : decode cc pc = .ok (.lcmp, 1)) (k : XX sh cl K tf l own cc nL ret R Q (pc + 1) ls (.int (lg_cmp x y) :: st) q) : XX sh cl K tf l own cc nL ret R Q pc ls (.long y :: .long x :: st) q := by
  intro p e s m args below meth c H locs D ad cI cZ A lsC hx hb hr hlk hml hown hts hKx hK hP hD hS hA hl
  exact W.lcmp hx hb d (k p e s m args below meth c H locs D ad cI cZ A lsC hx hb hr hlk hml hown hts hKx hK hP hD hS hA hl)
theorem sx_i2l {x : Int32} (d : decode cc pc = .ok (.i2l, 1)) (k : XX sh cl K tf l own cc nL ret R Q (pc + 1) ls (.long x.toInt64 :: st) q) : XX sh cl K tf l own cc nL ret R Q pc ls (.int x :: st) q := by
  intro p e s m args below meth c H locs D ad cI cZ A lsC hx hb hr hlk hml hown hts hKx hK hP hD hS hA hl
  exact lv_i2l hx hb d rfl (k p e s m args below meth c H locs D ad cI cZ A lsC hx hb hr hlk hml hown hts hKx hK hP hD hS hA hl)
theorem sx_l2i {x : Int64} (d : decode cc pc = .ok (.l2i, 1)) (k : XX sh cl K tf l own cc nL ret R Q (pc + 1) ls (.int x.toInt32 :: st) q) : XX sh cl K tf l own cc nL ret R Q pc ls (.long x :: st) q := by
  intro p e s m args below meth c H locs D ad cI cZ A lsC hx hb hr hlk hml hown hts hKx hK hP hD hS hA hl
  exact lv_l2i hx hb d rfl (k p e s m args below meth c H locs D ad cI cZ A lsC hx hb hr hlk hml hown hts hKx hK hP hD hS hA hl)
theorem sx_lushr {x : Int64} {y : Int32} (d : decode cc pc = .ok (.lushr, 1)) (k : XX sh cl K tf l own cc nL ret R Q (pc + 1) ls (.long (x.toUInt64 >>> (y.toInt64.toUInt64 &&& Int64.toUInt64 63)).toInt64 :: st) q) : XX sh cl K tf l own cc nL ret R Q pc ls (.int y :: .long x :: st) q := by
  intro p e s m args below meth c H locs D ad cI cZ A lsC hx hb hr hlk hml hown hts hKx hK hP hD hS hA hl
  exact lv_lushr hx hb d rfl (k p e s m args below meth c H locs D ad cI cZ A lsC hx hb hr hlk hml hown hts hKx hK hP hD hS hA hl)
theorem sx_lshr {x : Int64} {y : Int32} (d : decode cc pc = .ok (.lshr, 1)) (k : XX sh cl K tf l own cc nL ret R Q (pc + 1) ls (.long (x >>> (y.toInt64 &&& 63)) :: st) q) : XX sh cl K tf l own cc nL ret R Q pc ls (.int y :: .long x :: st) q := by
  intro p e s m args below meth c H locs D ad cI cZ A lsC hx hb hr hlk hml hown hts hKx hK hP hD hS hA hl
  exact lv_lshr hx hb d rfl (k p e s m args below meth c H locs D ad cI cZ A lsC hx hb hr hlk hml hown hts hKx hK hP hD hS hA hl)
theorem sx_lshl {x : Int64} {y : Int32} (d : decode cc pc = .ok (.lshl, 1)) (k : XX sh cl K tf l own cc nL ret R Q (pc + 1) ls (.long (x <<< (y.toInt64 &&& 63)) :: st) q) : XX sh cl K tf l own cc nL ret R Q pc ls (.int y :: .long x :: st) q := by
  intro p e s m args below meth c H locs D ad cI cZ A lsC hx hb hr hlk hml hown hts hKx hK hP hD hS hA hl
  exact lv_lshl hx hb d rfl (k p e s m args below meth c H locs D ad cI cZ A lsC hx hb hr hlk hml hown hts hKx hK hP hD hS hA hl)
theorem sx_dup {v : Value} (d : decode cc pc = .ok (.dup, 1)) (hv : v.category = 1) (k : XX sh cl K tf l own cc nL ret R Q (pc + 1) ls (v :: v :: st) q) : XX sh cl K tf l own cc nL ret R Q pc ls (v :: st) q := by
  intro p e s m args below meth c H locs D ad cI cZ A lsC hx hb hr hlk hml hown hts hKx hK hP hD hS hA hl
  exact lv_dup hx hb d (by rw [sx_cz_cat]; exact hv) (k p e s m args below meth c H locs D ad cI cZ A lsC hx hb hr hlk hml hown hts hKx hK hP hD hS hA hl)
theorem sx_pop {v : Value} (d : decode cc pc = .ok (.pop, 1)) (hv : v.category = 1) (k : XX sh cl K tf l own cc nL ret R Q (pc + 1) ls st q) : XX sh cl K tf l own cc nL ret R Q pc ls (v :: st) q := by
  intro p e s m args below meth c H locs D ad cI cZ A lsC hx hb hr hlk hml hown hts hKx hK hP hD hS hA hl
  exact lv_pop hx hb d (by rw [sx_cz_cat]; exact hv) (k p e s m args below meth c H locs D ad cI cZ A lsC hx hb hr hlk hml hown hts hKx hK hP hD hS hA hl)
theorem sx_dup2_11 {v w : Value} (d : decode cc pc = .ok (.dup2, 1)) (hv : v.category = 1) (hw : w.category = 1) (k : XX sh cl K tf l own cc nL ret R Q (pc + 1) ls (v :: w :: v :: w :: st) q) : XX sh cl K tf l own cc nL ret R Q pc ls (v :: w :: st) q := by
  intro p e s m args below meth c H locs D ad cI cZ A lsC hx hb hr hlk hml hown hts hKx hK hP hD hS hA hl
  exact lv_dup2_11 hx hb d (by rw [sx_cz_cat]; exact hv) (by rw [sx_cz_cat]; exact hw) (k p e s m args below meth c H locs D ad cI cZ A lsC hx hb hr hlk hml hown hts hKx hK hP hD hS hA hl)
theorem sx_if_eq {x : Int32} {off : Int} {tgt : Nat} (d : decode cc pc = .ok (.ifCond .eq off, 3)) (ht : (pc : Int) + off = (tgt : Int)) (kt : x = 0 → XX sh cl K tf l own cc nL ret R Q tgt ls st q) (kf : ¬ (x = 0) → XX sh cl K tf l own cc nL ret R Q (pc + 3) ls st q) : XX sh cl K tf l own cc nL ret R Q pc ls (.int x :: st) q := by
  intro p e s m args below meth c H locs D ad cI cZ A lsC hx hb hr hlk hml hown hts hKx hK hP hD hS hA hl
  exact lv_if_eq hx hb d ht (fun h => (kt h p e s m args below meth c H locs D ad cI cZ A lsC hx hb hr hlk hml hown hts hKx hK hP hD hS hA hl)) (fun h => (kf h p e s m args below meth c H locs D ad cI cZ A lsC hx hb hr hlk hml hown hts hKx hK hP hD hS hA hl))
theorem sx_if_ne {x : Int32} {off : Int} {tgt : Nat} (d : decode cc pc = .ok (.ifCond .ne off, 3)) (ht : (pc : Int) + off = (tgt : Int)) (kt : ¬ x = 0 → XX sh cl K tf l own cc nL ret R Q tgt ls st q) (kf : x = 0 → XX sh cl K tf l own cc nL ret R Q (pc + 3) ls st q) : XX sh cl K tf l own cc nL ret R Q pc ls (.int x :: st) q := by
  intro p e s m args below meth c H locs D ad cI cZ A lsC hx hb hr hlk hml hown hts hKx hK hP hD hS hA hl
  exact lv_if_ne hx hb d ht (fun h => (kt h p e s m args below meth c H locs D ad cI cZ A lsC hx hb hr hlk hml hown hts hKx hK hP hD hS hA hl)) (fun h => (kf h p e s m args below meth c H locs D ad cI cZ A lsC hx hb hr hlk hml hown hts hKx hK hP hD hS hA hl))
theorem sx_if_lt {x : Int32} {off : Int} {tgt : Nat} (d : decode cc pc = .ok (.ifCond .lt off, 3)) (ht : (pc : Int) + off = (tgt : Int)) (kt : x < 0 → XX sh cl K tf l own cc nL ret R Q tgt ls st q) (kf : ¬ (x < 0) → XX sh cl K tf l own cc nL ret R Q (pc + 3) ls st q) : XX sh cl K tf l own cc nL ret R Q pc ls (.int x :: st) q := by
  intro p e s m args below meth c H locs D ad cI cZ A lsC hx hb hr hlk hml hown hts hKx hK hP hD hS hA hl
  exact lv_if_lt hx hb d ht (fun h => (kt h p e s m args below meth c H locs D ad cI cZ A lsC hx hb hr hlk hml hown hts hKx hK hP hD hS hA hl)) (fun h => (kf h p e s m args below meth c H locs D ad cI cZ A lsC hx hb hr hlk hml hown hts hKx hK hP hD hS hA hl))
theorem sx_if_ge {x : Int32} {off : Int} {tgt : Nat} (d : decode cc pc = .ok (.ifCond .ge off, 3)) (ht : (pc : Int) + off = (tgt : Int)) (kt : 0 ≤ x → XX sh cl K tf l own cc nL ret R Q tgt ls st q) (kf : ¬ (0 ≤ x) → XX sh cl K tf l own cc nL ret R Q (pc + 3) ls st q) : XX sh cl K tf l own cc nL ret R Q pc ls (.int x :: st) q := by
  intro p e s m args below meth c H locs D ad cI cZ A lsC hx hb hr hlk hml hown hts hKx hK hP hD hS hA hl
  exact lv_if_ge hx hb d ht (fun h => (kt h p e s m args below meth c H locs D ad cI cZ A lsC hx hb hr hlk hml hown hts hKx hK hP hD hS hA hl)) (fun h => (kf h p e s m args below meth c H locs D ad cI cZ A lsC hx hb hr hlk hml hown hts hKx hK hP hD hS hA hl))
theorem sx_if_gt {x : Int32} {off : Int} {tgt : Nat} (d : decode cc pc = .ok (.ifCond .gt off, 3)) (ht : (pc : Int) + off = (tgt : Int)) (kt : 0 < x → XX sh cl K tf l own cc nL ret R Q tgt ls st q) (kf : ¬ (0 < x) → XX sh cl K tf l own cc nL ret R Q (pc + 3) ls st q) : XX sh cl K tf l own cc nL ret R Q pc ls (.int x :: st) q := by
  intro p e s m args below meth c H locs D ad cI cZ A lsC hx hb hr hlk hml hown hts hKx hK hP hD hS hA hl
  exact lv_if_gt hx hb d ht (fun h => (kt h p e s m args below meth c H locs D ad cI cZ A lsC hx hb hr hlk hml hown hts hKx hK hP hD hS hA hl)) (fun h => (kf h p e s m args below meth c H locs D ad cI cZ A lsC hx hb hr hlk hml hown hts hKx hK hP hD hS hA hl))
theorem sx_if_le {x : Int32} {off : Int} {tgt : Nat} (d : decode cc pc = .ok (.ifCond .le off, 3)) (ht : (pc : Int) + off = (tgt : Int)) (kt : x ≤ 0 → XX sh cl K tf l own cc nL ret R Q tgt ls st q) (kf : ¬ (x ≤ 0) → XX sh cl K tf l own cc nL ret R Q (pc + 3) ls st q) : XX sh cl K tf l own cc nL ret R Q pc ls (.int x :: st) q := by
  intro p e s m args below meth c H locs D ad cI cZ A lsC hx hb hr hlk hml hown hts hKx hK hP hD hS hA hl
  exact lv_if_le hx hb d ht (fun h => (kt h p e s m args below meth c H locs D ad cI cZ A lsC hx hb hr hlk hml hown hts hKx hK hP hD hS hA hl)) (fun h => (kf h p e s m args below meth c H locs D ad cI cZ A lsC hx hb hr hlk hml hown hts hKx hK hP hD hS hA hl))
theorem sx_icmp_eq {x y : Int32} {off : Int} {tgt : Nat} (d : decode cc pc = .ok (.if_icmp .eq off, 3)) (ht : (pc : Int) + off = (tgt : Int)) (kt : x = y → XX sh cl K tf l own cc nL ret R Q tgt ls st q) (kf : ¬ (x = y) → XX sh cl K tf l own cc nL ret R Q (pc + 3) ls st q) : XX sh cl K tf l own cc nL ret R Q pc ls (.int y :: .int x :: st) q := by
  intro p e s m args below meth c H locs D ad cI cZ A lsC hx hb hr hlk hml hown hts hKx hK hP hD hS hA hl
  exact lv_icmp_eq hx hb d ht (fun h => (kt h p e s m args below meth c H locs D ad cI cZ A lsC hx hb hr hlk hml hown hts hKx hK hP hD hS hA hl)) (fun h => (kf h p e s m args below meth c H locs D ad cI cZ A lsC hx hb hr hlk hml hown hts hKx hK hP hD hS hA hl))
theorem sx_icmp_ne {x y : Int32} {off : Int} {tgt : Nat} (d : decode cc pc = .ok (.if_icmp .ne off, 3)) (ht : (pc : Int) + off = (tgt : Int)) (kt : ¬ x = y → XX sh cl K tf l own cc nL ret R Q tgt ls st q) (kf : x = y → XX sh cl K tf l own cc nL ret R Q (pc + 3) ls st q) : XX sh cl K tf l own cc nL ret R Q pc ls (.int y :: .int x :: st) q := by
  intro p e s m args below meth c H locs D ad cI cZ A lsC hx hb hr hlk hml hown hts hKx hK hP hD hS hA hl
  exact lv_icmp_ne hx hb d ht (fun h => (kt h p e s m args below meth c H locs D ad cI cZ A lsC hx hb hr hlk hml hown hts hKx hK hP hD hS hA hl)) (fun h => (kf h p e s m args below meth c H locs D ad cI cZ A lsC hx hb hr hlk hml hown hts hKx hK hP hD hS hA hl))
theorem sx_icmp_lt {x y : Int32} {off : Int} {tgt : Nat} (d : decode cc pc = .ok (.if_icmp .lt off, 3)) (ht : (pc : Int) + off = (tgt : Int)) (kt : x < y → XX sh cl K tf l own cc nL ret R Q tgt ls st q) (kf : ¬ (x < y) → XX sh cl K tf l own cc nL ret R Q (pc + 3) ls st q) : XX sh cl K tf l own cc nL ret R Q pc ls (.int y :: .int x :: st) q := by
  intro p e s m args below meth c H locs D ad cI cZ A lsC hx hb hr hlk hml hown hts hKx hK hP hD hS hA hl
  exact lv_icmp_lt hx hb d ht (fun h => (kt h p e s m args below meth c H locs D ad cI cZ A lsC hx hb hr hlk hml hown hts hKx hK hP hD hS hA hl)) (fun h => (kf h p e s m args below meth c H locs D ad cI cZ A lsC hx hb hr hlk hml hown hts hKx hK hP hD hS hA hl))
theorem sx_icmp_ge {x y : Int32} {off : Int} {tgt : Nat} (d : decode cc pc = .ok (.if_icmp .ge off, 3)) (ht : (pc : Int) + off = (tgt : Int)) (kt : y ≤ x → XX sh cl K tf l own cc nL ret R Q tgt ls st q) (kf : ¬ (y ≤ x) → XX sh cl K tf l own cc nL ret R Q (pc + 3) ls st q) : XX sh cl K tf l own cc nL ret R Q pc ls (.int y :: .int x :: st) q := by
  intro p e s m args below meth c H locs D ad cI cZ A lsC hx hb hr hlk hml hown hts hKx hK hP hD hS hA hl
  exact lv_icmp_ge hx hb d ht (fun h => (kt h p e s m args below meth c H locs D ad cI cZ A lsC hx hb hr hlk hml hown hts hKx hK hP hD hS hA hl)) (fun h => (kf h p e s m args below meth c H locs D ad cI cZ A lsC hx hb hr hlk hml hown hts hKx hK hP hD hS hA hl))
theorem sx_icmp_gt {x y : Int32} {off : Int} {tgt : Nat} (d : decode cc pc = .ok (.if_icmp .gt off, 3)) (ht : (pc : Int) + off = (tgt : Int)) (kt : y < x → XX sh cl K tf l own cc nL ret R Q tgt ls st q) (kf : ¬ (y < x) → XX sh cl K tf l own cc nL ret R Q (pc + 3) ls st q) : XX sh cl K tf l own cc nL ret R Q pc ls (.int y :: .int x :: st) q := by
  intro p e s m args below meth c H locs D ad cI cZ A lsC hx hb hr hlk hml hown hts hKx hK hP hD hS hA hl
  exact lv_icmp_gt hx hb d ht (fun h => (kt h p e s m args below meth c H locs D ad cI cZ A lsC hx hb hr hlk hml hown hts hKx hK hP hD hS hA hl)) (fun h => (kf h p e s m args below meth c H locs D ad cI cZ A lsC hx hb hr hlk hml hown hts hKx hK hP hD hS hA hl))
theorem sx_icmp_le {x y : Int32} {off : Int} {tgt : Nat} (d : decode cc pc = .ok (.if_icmp .le off, 3)) (ht : (pc : Int) + off = (tgt : Int)) (kt : x ≤ y → XX sh cl K tf l own cc nL ret R Q tgt ls st q) (kf : ¬ (x ≤ y) → XX sh cl K tf l own cc nL ret R Q (pc + 3) ls st q) : XX sh cl K tf l own cc nL ret R Q pc ls (.int y :: .int x :: st) q := by
  intro p e s m args below meth c H locs D ad cI cZ A lsC hx hb hr hlk hml hown hts hKx hK hP hD hS hA hl
  exact lv_icmp_le hx hb d ht (fun h => (kt h p e s m args below meth c H locs D ad cI cZ A lsC hx hb hr hlk hml hown hts hKx hK hP hD hS hA hl)) (fun h => (kf h p e s m args below meth c H locs D ad cI cZ A lsC hx hb hr hlk hml hown hts hKx hK hP hD hS hA hl))
theorem sx_goto {off : Int} {tgt : Nat} (d : decode cc pc = .ok (.goto off, 3)) (ht : (pc : Int) + off = (tgt : Int)) (k : XX sh cl K tf l own cc nL ret R Q (tgt) ls st q) : XX sh cl K tf l own cc nL ret R Q pc ls st q := by
  intro p e s m args below meth c H locs D ad cI cZ A lsC hx hb hr hlk hml hown hts hKx hK hP hD hS hA hl
  exact lv_goto hx hb d ht (k p e s m args below meth c H locs D ad cI cZ A lsC hx hb hr hlk hml hown hts hKx hK hP hD hS hA hl)
theorem sx_tblOut {dflt lo hi : Int} {offs : Array Int} {len : Nat} {x : Int32} {tgt : Nat} (d : decode cc pc = .ok (.tableswitch dflt lo hi offs, len)) (h : x.toInt < lo ∨ hi < x.toInt) (ht : (pc : Int) + dflt = (tgt : Int)) (k : XX sh cl K tf l own cc nL ret R Q (tgt) ls st q) : XX sh cl K tf l own cc nL ret R Q pc ls (.int x :: st) q := by
  intro p e s m args below meth c H locs D ad cI cZ A lsC hx hb hr hlk hml hown hts hKx hK hP hD hS hA hl
  exact lv_tableOut hx hb d h ht (k p e s m args below meth c H locs D ad cI cZ A lsC hx hb hr hlk hml hown hts hKx hK hP hD hS hA hl)
theorem sx_tblIn {dflt lo hi : Int} {offs : Array Int} {len : Nat} {x : Int32} {off : Int} {tgt : Nat} (d : decode cc pc = .ok (.tableswitch dflt lo hi offs, len)) (h1 : ¬ x.toInt < lo) (h2 : ¬ hi < x.toInt) (ho : offs[(x.toInt - lo).toNat]? = some off) (ht : (pc : Int) + off = (tgt : Int)) (k : XX sh cl K tf l own cc nL ret R Q (tgt) ls st q) : XX sh cl K tf l own cc nL ret R Q pc ls (.int x :: st) q := by
  intro p e s m args below meth c H locs D ad cI cZ A lsC hx hb hr hlk hml hown hts hKx hK hP hD hS hA hl
  exact lv_tableIn hx hb d h1 h2 ho ht (k p e s m args below meth c H locs D ad cI cZ A lsC hx hb hr hlk hml hown hts hKx hK hP hD hS hA hl)
/-- what the tables say of a class of the world -/
def sx_CB (cl : List vw_C) (ci : Nat) (C : String) (T : u_T) (N : Nat) (ty : Nat → FieldType) : Prop := cl[ci]? = some (C, T, N) ∧ (∀ w ∈ u_ws C T N, w ∈ GG) ∧ (∀ k, k < N → parseFieldDescriptor (T k).2.2.1 = some (ty k)) ∧ (∀ a, a < N → ∀ b, b < N → a ≠ b → (T a).2.1 ≠ (T b).2.1)
/-- a use of a field: class ci's k-th, at the constant n of the class own -/
def sx_FL (own : String) (n : Nat) (C : String) (T : u_T) (N k : Nat) : Prop := k < N ∧ (T k).1 = C ∧ Cond.fieldLink own n C (T k).2.1 (T k).2.2.1 ∈ GG
theorem sx_getI {o ci k9 n N : Nat} {fs : List sx_F} {C : String} {T : u_T} {ty : Nat → FieldType}  (d : decode cc pc = .ok (.getfield n, 3)) (hs : sh[o]? = some (.inr (ci, fs))) (hf : fs[k9]? = some (.inr false)) (cb : sx_CB cl ci C T N ty) (fl : sx_FL own n C T N k9) (k : XX sh cl K tf l own cc nL ret R Q (pc + 3) ls (.int (gI q o k9) :: st) q) : XX sh cl K tf l own cc nL ret R Q pc ls (.ref o :: st) q := by
  intro p e s m args below meth c H locs D ad cI cZ A lsC hx hb hr hlk hml hown hts hKx hK hP hD hS hA hl
  exact va_get hx hb hts cb.2.1 hown hK hP o (sx_getO hs) cb.1 k9 fl.1 (hts _ fl.2.2) (fun _ h9 => by rw [fl.2.1] at h9; exact h9) (sx_fld hf) d (k p e s m args below meth c H locs D ad cI cZ A lsC hx hb hr hlk hml hown hts hKx hK hP hD hS hA hl)
theorem sx_getL {o ci k9 n N : Nat} {fs : List sx_F} {C : String} {T : u_T} {ty : Nat → FieldType}  (d : decode cc pc = .ok (.getfield n, 3)) (hs : sh[o]? = some (.inr (ci, fs))) (hf : fs[k9]? = some (.inr true)) (cb : sx_CB cl ci C T N ty) (fl : sx_FL own n C T N k9) (k : XX sh cl K tf l own cc nL ret R Q (pc + 3) ls (.long (gL q o k9) :: st) q) : XX sh cl K tf l own cc nL ret R Q pc ls (.ref o :: st) q := by
  intro p e s m args below meth c H locs D ad cI cZ A lsC hx hb hr hlk hml hown hts hKx hK hP hD hS hA hl
  exact va_get hx hb hts cb.2.1 hown hK hP o (sx_getO hs) cb.1 k9 fl.1 (hts _ fl.2.2) (fun _ h9 => by rw [fl.2.1] at h9; exact h9) (sx_fld hf) d (k p e s m args below meth c H locs D ad cI cZ A lsC hx hb hr hlk hml hown hts hKx hK hP hD hS hA hl)
theorem sx_getR {o ci k9 n N : Nat} {fs : List sx_F} {C : String} {T : u_T} {ty : Nat → FieldType} {r : Nat} (d : decode cc pc = .ok (.getfield n, 3)) (hs : sh[o]? = some (.inr (ci, fs))) (hf : fs[k9]? = some (.inl r)) (cb : sx_CB cl ci C T N ty) (fl : sx_FL own n C T N k9) (k : XX sh cl K tf l own cc nL ret R Q (pc + 3) ls (.ref r :: st) q) : XX sh cl K tf l own cc nL ret R Q pc ls (.ref o :: st) q := by
  intro p e s m args below meth c H locs D ad cI cZ A lsC hx hb hr hlk hml hown hts hKx hK hP hD hS hA hl
  exact va_get hx hb hts cb.2.1 hown hK hP o (sx_getO hs) cb.1 k9 fl.1 (hts _ fl.2.2) (fun _ h9 => by rw [fl.2.1] at h9; exact h9) (sx_fld hf) d (k p e s m args below meth c H locs D ad cI cZ A lsC hx hb hr hlk hml hown hts hKx hK hP hD hS hA hl)
theorem sx_putI {o ci k9 n N : Nat} {fs : List sx_F} {C : String} {T : u_T} {ty : Nat → FieldType} {v : Int32} (d : decode cc pc = .ok (.putfield n, 3)) (hs : sh[o]? = some (.inr (ci, fs))) (hf : fs[k9]? = some (.inr false)) (cb : sx_CB cl ci C T N ty) (fl : sx_FL own n C T N k9) (hfin : (T k9).2.2.2 = false) (hd : parseFieldDescriptor (T k9).2.2.1 = some .int) (k : XX sh cl K tf l own cc nL ret R Q (pc + 3) ls st (sI q o k9 v)) : XX sh cl K tf l own cc nL ret R Q pc ls (.int v :: .ref o :: st) q := by
  intro p e s m args below meth c H locs D ad cI cZ A lsC hx hb hr hlk hml hown hts hKx hK hP hD hS hA hl
  exact va_put (v := .int v) (ty := .int) hx hb hts cb.2.1 ty cb.2.2.1 cb.2.2.2 hown hK hP hD hS o (sx_getO hs) cb.1 k9 fl.1 (hts _ fl.2.2) (fun _ h9 => by rw [fl.2.1] at h9; exact h9) hfin hd rfl rfl (by rw [List.length_mapIdx]; exact (List.getElem?_eq_some_iff.mp hf).1) d (fun H locs hP hD hS => by rw [sx_setI v hs hf] at hP hD; exact (k p e s m args below meth c H locs D ad cI cZ A lsC hx hb hr hlk hml hown hts hKx hK hP hD hS hA hl))
theorem sx_putZ {o ci k9 n N : Nat} {fs : List sx_F} {C : String} {T : u_T} {ty : Nat → FieldType} {v : Int32} (d : decode cc pc = .ok (.putfield n, 3)) (hs : sh[o]? = some (.inr (ci, fs))) (hf : fs[k9]? = some (.inr false)) (cb : sx_CB cl ci C T N ty) (fl : sx_FL own n C T N k9) (hfin : (T k9).2.2.2 = false) (hd : parseFieldDescriptor (T k9).2.2.1 = some .boolean) (hz : v = 0 ∨ v = 1) (k : XX sh cl K tf l own cc nL ret R Q (pc + 3) ls st (sI q o k9 v)) : XX sh cl K tf l own cc nL ret R Q pc ls (.int v :: .ref o :: st) q := by
  intro p e s m args below meth c H locs D ad cI cZ A lsC hx hb hr hlk hml hown hts hKx hK hP hD hS hA hl
  exact va_put (v := .int v) (ty := .boolean) hx hb hts cb.2.1 ty cb.2.2.1 cb.2.2.2 hown hK hP hD hS o (sx_getO hs) cb.1 k9 fl.1 (hts _ fl.2.2) (fun _ h9 => by rw [fl.2.1] at h9; exact h9) hfin hd (by rcases hz with rfl | rfl <;> rfl) (by rcases hz with rfl | rfl <;> rfl) (by rw [List.length_mapIdx]; exact (List.getElem?_eq_some_iff.mp hf).1) d (fun H locs hP hD hS => by rw [sx_setI v hs hf] at hP hD; exact (k p e s m args below meth c H locs D ad cI cZ A lsC hx hb hr hlk hml hown hts hKx hK hP hD hS hA hl))
theorem sx_putL {o ci k9 n N : Nat} {fs : List sx_F} {C : String} {T : u_T} {ty : Nat → FieldType} {v : Int64} (d : decode cc pc = .ok (.putfield n, 3)) (hs : sh[o]? = some (.inr (ci, fs))) (hf : fs[k9]? = some (.inr true)) (cb : sx_CB cl ci C T N ty) (fl : sx_FL own n C T N k9) (hfin : (T k9).2.2.2 = false) (hd : parseFieldDescriptor (T k9).2.2.1 = some .long) (k : XX sh cl K tf l own cc nL ret R Q (pc + 3) ls st (sL q o k9 v)) : XX sh cl K tf l own cc nL ret R Q pc ls (.long v :: .ref o :: st) q := by
  intro p e s m args below meth c H locs D ad cI cZ A lsC hx hb hr hlk hml hown hts hKx hK hP hD hS hA hl
  exact va_put (v := .long v) (ty := .long) hx hb hts cb.2.1 ty cb.2.2.1 cb.2.2.2 hown hK hP hD hS o (sx_getO hs) cb.1 k9 fl.1 (hts _ fl.2.2) (fun _ h9 => by rw [fl.2.1] at h9; exact h9) hfin hd rfl rfl (by rw [List.length_mapIdx]; exact (List.getElem?_eq_some_iff.mp hf).1) d (fun H locs hP hD hS => by rw [sx_setL v hs hf] at hP hD; exact (k p e s m args below meth c H locs D ad cI cZ A lsC hx hb hr hlk hml hown hts hKx hK hP hD hS hA hl))
theorem sx_iald {o n : Nat} {i : Int32} (d : decode cc pc = .ok (.iaload, 1)) (hs : sh[o]? = some (.inl (false, n))) (ht : ∀ a b, (tf a b)[0]? = some (a, .int)) (hi : vp_in i n) (k : XX sh cl K tf l own cc nL ret R Q (pc + 1) ls (.int (gI q o i.toNatClampNeg) :: st) q) : XX sh cl K tf l own cc nL ret R Q pc ls (.int i :: .ref o :: st) q := by
  intro p e s m args below meth c H locs D ad cI cZ A lsC hx hb hr hlk hml hown hts hKx hK hP hD hS hA hl
  exact va_iald hx hb hK hP o 0 (sx_getA hs) (ht _ _) hi d (k p e s m args below meth c H locs D ad cI cZ A lsC hx hb hr hlk hml hown hts hKx hK hP hD hS hA hl)
theorem sx_iast {o n : Nat} {i v : Int32} (d : decode cc pc = .ok (.iastore, 1)) (hs : sh[o]? = some (.inl (false, n))) (ht : ∀ a b, (tf a b)[0]? = some (a, .int)) (hi : vp_in i n) (k : XX sh cl K tf l own cc nL ret R Q (pc + 1) ls st (sI q o i.toNatClampNeg v)) : XX sh cl K tf l own cc nL ret R Q pc ls (.int v :: .int i :: .ref o :: st) q := by
  intro p e s m args below meth c H locs D ad cI cZ A lsC hx hb hr hlk hml hown hts hKx hK hP hD hS hA hl
  exact va_iast hx hb hK hP hD hS o 0 (sx_getA hs) (ht _ _) hi d (fun H locs hP hD hS => by have ee := sx_setA (cI := cI) (cZ := cZ) (ad := ad) (q := q) i.toNatClampNeg v hs; simp only [Bool.false_eq_true, if_false] at ee hP hD; rw [ee] at hP hD; exact (k p e s m args below meth c H locs D ad cI cZ A lsC hx hb hr hlk hml hown hts hKx hK hP hD hS hA hl))
theorem sx_zald {o n : Nat} {i : Int32} (d : decode cc pc = .ok (.baload, 1)) (hs : sh[o]? = some (.inl (true, n))) (ht : ∀ a b, (tf a b)[1]? = some (b, .boolean)) (hi : vp_in i n) (k : XX sh cl K tf l own cc nL ret R Q (pc + 1) ls (.int (gI q o i.toNatClampNeg) :: st) q) : XX sh cl K tf l own cc nL ret R Q pc ls (.int i :: .ref o :: st) q := by
  intro p e s m args below meth c H locs D ad cI cZ A lsC hx hb hr hlk hml hown hts hKx hK hP hD hS hA hl
  exact va_zald hx hb hK hP o 1 (sx_getA hs) (ht _ _) hi d (k p e s m args below meth c H locs D ad cI cZ A lsC hx hb hr hlk hml hown hts hKx hK hP hD hS hA hl)
theorem sx_zast {o n : Nat} {i v : Int32} (d : decode cc pc = .ok (.bastore, 1)) (hs : sh[o]? = some (.inl (true, n))) (ht : ∀ a b, (tf a b)[1]? = some (b, .boolean)) (hi : vp_in i n) (k : XX sh cl K tf l own cc nL ret R Q (pc + 1) ls st (sI q o i.toNatClampNeg (vp_nar .boolean v))) : XX sh cl K tf l own cc nL ret R Q pc ls (.int v :: .int i :: .ref o :: st) q := by
  intro p e s m args below meth c H locs D ad cI cZ A lsC hx hb hr hlk hml hown hts hKx hK hP hD hS hA hl
  exact va_zast hx hb hK hP hD hS o 1 (sx_getA hs) (ht _ _) hi d (fun H locs hP hD hS => by have ee := sx_setA (cI := cI) (cZ := cZ) (ad := ad) (q := q) i.toNatClampNeg (vp_nar .boolean v) hs; simp only [if_true] at ee hP hD; rw [ee] at hP hD; exact (k p e s m args below meth c H locs D ad cI cZ A lsC hx hb hr hlk hml hown hts hKx hK hP hD hS hA hl))
theorem sx_alen {o n : Nat} {v : Int32} (d : decode cc pc = .ok (.arraylength, 1)) (hs : sh[o]? = some (.inl (false, n))) (ht : ∀ a b, (tf a b)[0]? = some (a, .int)) (hv : Int32.ofNat n = v) (k : XX sh cl K tf l own cc nL ret R Q (pc + 1) ls (.int v :: st) q) : XX sh cl K tf l own cc nL ret R Q pc ls (.ref o :: st) q := by
  intro p e s m args below meth c H locs D ad cI cZ A lsC hx hb hr hlk hml hown hts hKx hK hP hD hS hA hl
  exact va_alen hx hb hK hP o 0 (sx_getA hs) (ht _ _) hv d (k p e s m args below meth c H locs D ad cI cZ A lsC hx hb hr hlk hml hown hts hKx hK hP hD hS hA hl)
theorem sx_copy {o o2 n n2 j : Nat} {sp dp w : Int32} (d : decode cc pc = .ok (.invokestatic j, 3)) (hln : Cond.methodLink own j arraycopyName ∈ GG) (hw : Cond.native arraycopyName ∈ GG ∧ Cond.static arraycopyName ∈ GG ∧ Cond.initialized "java/lang/System" ∈ GG) (hs : sh[o]? = some (.inl (false, n))) (hs2 : sh[o2]? = some (.inl (false, n2))) (ht : ∀ a b, (tf a b)[0]? = some (a, .int)) (h1 : ¬ sp < 0) (h2 : ¬ dp < 0) (h3 : ¬ w < 0) (h4 : sp.toNatClampNeg + w.toNatClampNeg ≤ n) (h5 : dp.toNatClampNeg + w.toNatClampNeg ≤ n2) (hf : 1 ≤ R.frames) (hlo : (st.map fun v => v.category).sum + (nativeFrameWords "java/lang/System" "arraycopy" 5 + 11) ≤ R.locals) (k : XX sh cl K tf l own cc nL ret R Q (pc + 3) ls st (sA q o2 (va_cpy (q.1 o) (q.1 o2) sp.toNatClampNeg dp.toNatClampNeg w.toNatClampNeg))) : XX sh cl K tf l own cc nL ret R Q pc ls (.int w :: .int dp :: .ref o2 :: .int sp :: .ref o :: st) q := by
  intro p e s m args below meth c H locs D ad cI cZ A lsC hx hb hr hlk hml hown hts hKx hK hP hD hS hA hl
  exact va_copyi hx hb (hml.trans hl.1.symm) hown (hts _ hln) (hts _ hw.1) (hts _ hw.2.1) (hts _ hw.2.2) hK hP hD hS o o2 0 0 (sx_getA hs) (sx_getA hs2) (ht _ _) (ht _ _) rfl h1 h2 h3 h4 h5 (fun _ _ => rfl) hf (by rw [sx_cats]; exact hlo) d (fun H locs hP hD hS => by have ee := sx_setR (cI := cI) (cZ := cZ) (ad := ad) (q := q) (va_cpy (q.1 o) (q.1 o2) sp.toNatClampNeg dp.toNatClampNeg w.toNatClampNeg) hs2; simp only [Bool.false_eq_true, if_false] at ee hP hD; rw [ee] at hP hD; exact (k p e s m args below meth c H locs D ad cI cZ A lsC hx hb hr hlk hml hown hts hKx hK hP hD hS hA hl))
theorem sx_mmin {j : Nat} {x y : Int32} (d : decode cc pc = .ok (.invokestatic j, 3)) (hln : Cond.methodLink own j Lib.Math.min.name ∈ GG) (hw : Cond.static Lib.Math.min.name ∈ GG ∧ Cond.initialized "java/lang/Math" ∈ GG ∧ Cond.code Lib.Math.min.name Lib.Math.min.code 2 (some .int) ∈ GG) (hf : 1 ≤ R.frames) (hlo : (st.map fun v => v.category).sum + 13 ≤ R.locals) (k : XX sh cl K tf l own cc nL ret R Q (pc + 3) ls (.int (if y < x then y else x) :: st) q) : XX sh cl K tf l own cc nL ret R Q pc ls (.int y :: .int x :: st) q := by
  intro p e s m args below meth c H locs D ad cI cZ A lsC hx hb hr hlk hml hown hts hKx hK hP hD hS hA hl
  exact va_mmin hx hb (hml.trans hl.1.symm) hown (hts _ hln) (hts _ hw.1) (hts _ hw.2.1) (hts _ hw.2.2) hf (by rw [sx_cats]; exact hlo) (Nat.zero_le _) (Nat.zero_le _) d (k p e s m args below meth c H locs D ad cI cZ A lsC hx hb hr hlk hml hown hts hKx hK hP hD hS hA hl)
theorem sx_mmax {j : Nat} {x y : Int32} (d : decode cc pc = .ok (.invokestatic j, 3)) (hln : Cond.methodLink own j Lib.Math.max.name ∈ GG) (hw : Cond.static Lib.Math.max.name ∈ GG ∧ Cond.initialized "java/lang/Math" ∈ GG ∧ Cond.code Lib.Math.max.name Lib.Math.max.code 2 (some .int) ∈ GG) (hf : 1 ≤ R.frames) (hlo : (st.map fun v => v.category).sum + 13 ≤ R.locals) (k : XX sh cl K tf l own cc nL ret R Q (pc + 3) ls (.int (if x < y then y else x) :: st) q) : XX sh cl K tf l own cc nL ret R Q pc ls (.int y :: .int x :: st) q := by
  intro p e s m args below meth c H locs D ad cI cZ A lsC hx hb hr hlk hml hown hts hKx hK hP hD hS hA hl
  exact va_mmax hx hb (hml.trans hl.1.symm) hown (hts _ hln) (hts _ hw.1) (hts _ hw.2.1) (hts _ hw.2.2) hf (by rw [sx_cats]; exact hlo) (Nat.zero_le _) (Nat.zero_le _) d (k p e s m args below meth c H locs D ad cI cZ A lsC hx hb hr hlk hml hown hts hKx hK hP hD hS hA hl)
theorem sx_mabs {j : Nat} {x : Int32} (d : decode cc pc = .ok (.invokestatic j, 3)) (hln : Cond.methodLink own j Lib.Math.abs.name ∈ GG) (hw : Cond.static Lib.Math.abs.name ∈ GG ∧ Cond.initialized "java/lang/Math" ∈ GG ∧ Cond.code Lib.Math.abs.name Lib.Math.abs.code 1 (some .int) ∈ GG) (hf : 1 ≤ R.frames) (hlo : (st.map fun v => v.category).sum + 13 ≤ R.locals) (k : XX sh cl K tf l own cc nL ret R Q (pc + 3) ls (.int (if 0 ≤ x then x else 0 - x) :: st) q) : XX sh cl K tf l own cc nL ret R Q pc ls (.int x :: st) q := by
  intro p e s m args below meth c H locs D ad cI cZ A lsC hx hb hr hlk hml hown hts hKx hK hP hD hS hA hl
  exact va_mabs hx hb (hml.trans hl.1.symm) hown (hts _ hln) (hts _ hw.1) (hts _ hw.2.1) (hts _ hw.2.2) hf (by rw [sx_cats]; exact hlo) (Nat.zero_le _) (Nat.zero_le _) d (k p e s m args below meth c H locs D ad cI cZ A lsC hx hb hr hlk hml hown hts hKx hK hP hD hS hA hl)
theorem sx_iret {v : Int32} (d : decode cc pc = .ok (.ireturn, 1)) (hr9 : ret = some .int) (hQ : Q (some (.int v)) q) : XX sh cl K tf l own cc nL ret R Q pc ls [.int v] q := by
  intro p e s m args below meth c H locs D ad cI cZ A lsC hx hb hr hlk hml hown hts hKx hK hP hD hS hA hl
  exact W.iret (v := v) hx hb (hr.trans hr9) (fun t ht hW => ⟨⟨some (.int v), q, rfl, hQ, by rw [ht]; exact hP, va_K.moved hW.alike hK⟩, hS.F ht⟩) hS.2.2 d hlk
theorem sx_zret {v : Int32} (d : decode cc pc = .ok (.ireturn, 1)) (hr9 : ret = some .boolean) (hz : v = 0 ∨ v = 1) (hQ : Q (some (.int v)) q) : XX sh cl K tf l own cc nL ret R Q pc ls [.int v] q := by
  intro p e s m args below meth c H locs D ad cI cZ A lsC hx hb hr hlk hml hown hts hKx hK hP hD hS hA hl
  exact W.zret (v := v) (ty := .boolean) hx hb (hr.trans hr9) (by rcases hz with rfl | rfl <;> rfl) (fun t ht hW => ⟨⟨some (.int v), q, rfl, hQ, by rw [ht]; exact hP, va_K.moved hW.alike hK⟩, hS.F ht⟩) hS.2.2 d hlk
theorem sx_lret {v : Int64} (d : decode cc pc = .ok (.lreturn, 1)) (hr9 : ret = some .long) (hQ : Q (some (.long v)) q) : XX sh cl K tf l own cc nL ret R Q pc ls [.long v] q := by
  intro p e s m args below meth c H locs D ad cI cZ A lsC hx hb hr hlk hml hown hts hKx hK hP hD hS hA hl
  exact W.lret (v := v) hx hb (hr.trans hr9) (fun t ht hW => ⟨⟨some (.long v), q, rfl, hQ, by rw [ht]; exact hP, va_K.moved hW.alike hK⟩, hS.F ht⟩) hS.2.2 d hlk
theorem sx_aret {o : Nat} {C : String} (d : decode cc pc = .ok (.areturn, 1)) (hr9 : ret = some (.object C)) (hQ : Q (some (.ref o)) q) : XX sh cl K tf l own cc nL ret R Q pc ls [.ref o] q := by
  intro p e s m args below meth c H locs D ad cI cZ A lsC hx hb hr hlk hml hown hts hKx hK hP hD hS hA hl
  exact W.aret (v := .ref (ad o)) hx hb (hr.trans hr9) (Or.inl ⟨_, rfl⟩) (Or.inr ⟨_, rfl⟩) (fun t ht hW => ⟨⟨some (.ref o), q, rfl, hQ, by rw [ht]; exact hP, va_K.moved hW.alike hK⟩, hS.F ht⟩) hS.2.2 d hlk
theorem sx_vret (d : decode cc pc = .ok (.return_, 1)) (hr9 : ret = none) (hQ : Q none q) : XX sh cl K tf l own cc nL ret R Q pc ls [] q := by
  intro p e s m args below meth c H locs D ad cI cZ A lsC hx hb hr hlk hml hown hts hKx hK hP hD hS hA hl
  exact W.vret hx hb (hr.trans hr9) (fun t ht hW => ⟨⟨none, q, rfl, hQ, by rw [ht]; exact hP, va_K.moved hW.alike hK⟩, hS.F ht⟩) hS.2.2 d hlk
theorem sx_pre {y : MethodName} {cc9 : ByteArray} {nL9 : Nat} {ret9 : Option FieldType} {s : State} {H : Heap} {locs : List Loc} {A : Nat → Prop} {D : va_G} {ad : Nat → Nat} {cI cZ : ClassId} {vs : List Value} (KS : sx_KS K) (hKx : K ad A s s.heap) (hK : va_K D cl (tf cI cZ) s) (hP : va_P D cl (sx_cw sh cI cZ ad q) H) (hD : va_D A (sx_cw sh cI cZ ad q)) (hS : va_S A s.heap H locs) (hA : ∀ a, s.heap.size ≤ a → A a) :
    FrameBlind (va_Pc (vs.map (sx_cz ad)) (fun U => U.heap.size = H.size ∧ va_P D cl (sx_cw sh cI cZ ad q) U.heap ∧ va_K D cl (tf cI cZ) U ∧ va_D (fun _ => True) (sx_cw sh cI cZ ad q) ∧ K ad (va_A (sx_cw sh cI cZ ad q) H.size) U U.heap)) ∧ ∀ U : State, U.heap = H → s.WarmedH U.vm → va_Pc (vs.map (sx_cz ad)) (fun U => U.heap.size = H.size ∧ va_P D cl (sx_cw sh cI cZ ad q) U.heap ∧ va_K D cl (tf cI cZ) U ∧ va_D (fun _ => True) (sx_cw sh cI cZ ad q) ∧ K ad (va_A (sx_cw sh cI cZ ad q) H.size) U U.heap) (vs.map (sx_cz ad)).toArray U := by
  refine ⟨fun a U g mk z => ?_, fun U hU hW => ?_⟩
  · obtain ⟨z0, z1, z2, z3, z4, z5⟩ := z
    exact ⟨z0, z1, z2, va_K.moved (u := U) (U := U.calling g mk a) (Vm.Alike.refl U.vm) z3, z4, KS.1 ad _ U (U.calling g mk a) _ (State.WarmedH.refl U) z5⟩
  · refine ⟨rfl, by rw [hU], by rw [hU]; exact hP, va_K.moved hW.alike hK, hD.weaken (fun _ _ _ _ => trivial), ?_⟩
    rw [hU]
    refine KS.1 ad _ s U H hW (KS.2.2 ad A _ s H (fun a ha => ?_) (KS.2.1 ad A s s.heap H hKx (fun a h1 h2 => hS.2.1 a h1 h2)))
    rcases ha with ⟨k, e, h⟩ | h
    · exact hD.2 k _ h
    · exact hA a (Nat.le_trans hS.1 h)
theorem sx_callV {y : MethodName} {cc9 : ByteArray} {nL9 n f9 L9 j : Nat} {ret9 : Option FieldType} {As rest : List Value} {res : Option Value} {q2 : SQ} {o ci : Nat} {fs : List sx_F} {vc : vw_C} (KS : sx_KS K) (hc : CK sh cl K tf l y cc9 nL9 ret9 f9 L9 (.ref o :: As) q res q2) (mi : sx_MI y cc9 nL9 ret9 n) (hln : Cond.methodLink own j y ∈ GG) (hn : As.length = n) (hin : Cond.instanceMethod y ∈ GG ∧ Cond.selects y.cls y y ∈ GG) (hs : sh[o]? = some (.inr (ci, fs))) (hcl : cl[ci]? = some vc) (hvc : vc.1 = y.cls) (hR : f9 + 1 ≤ R.frames ∧ 8 + (nL9 + 11) + L9 ≤ R.locals) (hcat : (rest.map fun v => v.category).sum ≤ 8) (d : decode cc pc = .ok (.invokevirtual j, 3)) (hst : st = As.reverse ++ .ref o :: rest) (k : XX sh cl K tf l own cc nL ret R Q (pc + 3) ls (res.toList ++ rest) q2) : XX sh cl K tf l own cc nL ret R Q pc ls st q := by
  intro p e s m args below meth c H locs D ad cI cZ A lsC hx hb hr hlk hml hown hts hKx hK hP hD hS hA hl
  subst hst
  have hsub : ∀ a, va_A (sx_cw sh cI cZ ad q) H.size a → A a := by
    intro a ha
    rcases ha with ⟨k, e, h⟩ | h
    · exact hD.2 k _ h
    · exact hA a (Nat.le_trans hS.1 h)
  have hb9 := callB_of (R := R) (own := own) (index := j) (mc := 0) (ms := 0) (rm := { frames := f9, cells := 0, slots := 0, locals := L9 }) n hts (sx_good mi.2.2.1) rfl rfl rfl (hts _ mi.2.2.2) (hts _ hln) mi.2.1 hR
  obtain ⟨hp1, hp2⟩ := sx_pre (y := y) (cc9 := cc9) (nL9 := nL9) (ret9 := ret9) (vs := .ref o :: As) KS hKx hK hP hD hS hA
  have hrec := va_recv hK hP hcl (sx_getO hs)
  rw [hvc] at hrec
  refine sx_call (va_runV (C := y.cls) (As := As.map (sx_cz ad)) (rest := rest.map (sx_cz ad)) ⟨hx, hb, hml, hown, hts⟩ (hc D ad cI cZ H.size) ⟨hb9, hts _ hin.1, hts _ hin.2⟩ ⟨hp1, hrec, hp2⟩ rfl (by rw [List.length_map]; exact hn) hl.1 (by simp [sx_cz]) (lv_room (by rw [sx_cats]; exact hcat)) d ⟨Nat.zero_le _, Nat.zero_le _⟩) hS (fun a _ h => hsub a h) hsub (fun r u H1 locs1 hQ9 hP1 hS1 => ?_)
  obtain ⟨rfl, rfl⟩ := hQ9
  have hk := k p e s m args below meth c H1 locs1 D ad cI cZ A lsC hx hb hr hlk hml hown hts hKx hK hP1 (sx_D _ hD) hS1 hA hl
  have e1 : ((r.map (sx_cz ad)).toList ++ rest.map (sx_cz ad)) = (r.toList ++ rest).map (sx_cz ad) := by cases r <;> simp
  rw [e1]
  exact hk
theorem sx_callS {y : MethodName} {cc9 : ByteArray} {nL9 n f9 L9 j : Nat} {ret9 : Option FieldType} {As rest : List Value} {res : Option Value} {q2 : SQ} (KS : sx_KS K) (hc : CK sh cl K tf l y cc9 nL9 ret9 f9 L9 As q res q2) (mi : sx_MI y cc9 nL9 ret9 n) (hln : Cond.methodLink own j y ∈ GG) (hn : As.length = n) (hstt : Cond.static y ∈ GG) (hR : f9 + 1 ≤ R.frames ∧ 8 + (nL9 + 11) + L9 ≤ R.locals) (hcat : (rest.map fun v => v.category).sum ≤ 8) (d : decode cc pc = .ok (.invokestatic j, 3)) (hst : st = As.reverse ++ rest) (k : XX sh cl K tf l own cc nL ret R Q (pc + 3) ls (res.toList ++ rest) q2) : XX sh cl K tf l own cc nL ret R Q pc ls st q := by
  intro p e s m args below meth c H locs D ad cI cZ A lsC hx hb hr hlk hml hown hts hKx hK hP hD hS hA hl
  subst hst
  have hsub : ∀ a, va_A (sx_cw sh cI cZ ad q) H.size a → A a := by
    intro a ha
    rcases ha with ⟨k, e, h⟩ | h
    · exact hD.2 k _ h
    · exact hA a (Nat.le_trans hS.1 h)
  have hb9 := callB_of (R := R) (own := own) (index := j) (mc := 0) (ms := 0) (rm := { frames := f9, cells := 0, slots := 0, locals := L9 }) n hts (sx_good mi.2.2.1) rfl rfl rfl (hts _ mi.2.2.2) (hts _ hln) mi.2.1 hR
  obtain ⟨hp1, hp2⟩ := sx_pre (y := y) (cc9 := cc9) (nL9 := nL9) (ret9 := ret9) (vs := As) KS hKx hK hP hD hS hA
  refine sx_call (va_runS (As := As.map (sx_cz ad)) (rest := rest.map (sx_cz ad)) ⟨hx, hb, hml, hown, hts⟩ (hc D ad cI cZ H.size) ⟨hb9, hts _ hstt⟩ ⟨hp1, hp2⟩ rfl (by rw [List.length_map]; exact hn) hl.1 (by simp) (lv_room (by rw [sx_cats]; exact hcat)) d ⟨Nat.zero_le _, Nat.zero_le _⟩) hS (fun a _ h => hsub a h) hsub (fun r u H1 locs1 hQ9 hP1 hS1 => ?_)
  obtain ⟨rfl, rfl⟩ := hQ9
  have hk := k p e s m args below meth c H1 locs1 D ad cI cZ A lsC hx hb hr hlk hml hown hts hKx hK hP1 (sx_D _ hD) hS1 hA hl
  have e1 : ((r.map (sx_cz ad)).toList ++ rest.map (sx_cz ad)) = (r.toList ++ rest).map (sx_cz ad) := by cases r <;> simp
  rw [e1]
  exact hk
theorem sx_callSN {y : MethodName} {cc9 : ByteArray} {nL9 n f9 L9 j : Nat} {ret9 : Option FieldType} {As rest : List Value} {res : Option Value} {q2 : SQ} (KS : sx_KS K) (hc : CK sh cl K tf l y cc9 nL9 ret9 f9 L9 As q res q2) (mi : sx_MI y cc9 nL9 ret9 n) {host : String} (hln : ∀ (ad : Nat → Nat) (A : Nat → Prop) (U : State) (H : Heap), K ad A U H → va_Nw (.methodLinkNest own j y host) U) (hn : As.length = n) (hstt : Cond.static y ∈ GG) (hR : f9 + 1 ≤ R.frames ∧ 8 + (nL9 + 11) + L9 ≤ R.locals) (hcat : (rest.map fun v => v.category).sum ≤ 8) (d : decode cc pc = .ok (.invokestatic j, 3)) (hst : st = As.reverse ++ rest) (k : XX sh cl K tf l own cc nL ret R Q (pc + 3) ls (res.toList ++ rest) q2) : XX sh cl K tf l own cc nL ret R Q pc ls st q := by
  intro p e s m args below meth c H locs D ad cI cZ A lsC hx hb hr hlk hml hown hts hKx hK hP hD hS hA hl
  subst hst
  have hsub : ∀ a, va_A (sx_cw sh cI cZ ad q) H.size a → A a := by
    intro a ha
    rcases ha with ⟨k, e, h⟩ | h
    · exact hD.2 k _ h
    · exact hA a (Nat.le_trans hS.1 h)
  have hb9 := va_cnB (R := R) (own := own) (index := j) (host := host) (mc := 0) (ms := 0) (rm := { frames := f9, cells := 0, slots := 0, locals := L9 }) n hts (sx_good mi.2.2.1) rfl rfl rfl (hln ad A s s.heap hKx) (hts _ mi.2.2.2) mi.2.1 hR
  obtain ⟨hp1, hp2⟩ := sx_pre (y := y) (cc9 := cc9) (nL9 := nL9) (ret9 := ret9) (vs := As) KS hKx hK hP hD hS hA
  refine sx_call (va_runSN (As := As.map (sx_cz ad)) (rest := rest.map (sx_cz ad)) ⟨hx, hb, hml, hown, hts⟩ (hc D ad cI cZ H.size) ⟨hb9, hts _ hstt, trivial⟩ ⟨hp1, hp2⟩ rfl (by rw [List.length_map]; exact hn) hl.1 (by simp) (lv_room (by rw [sx_cats]; exact hcat)) d ⟨Nat.zero_le _, Nat.zero_le _⟩) hS (fun a _ h => hsub a h) hsub (fun r u H1 locs1 hQ9 hP1 hS1 => ?_)
  obtain ⟨rfl, rfl⟩ := hQ9
  have hk := k p e s m args below meth c H1 locs1 D ad cI cZ A lsC hx hb hr hlk hml hown hts hKx hK hP1 (sx_D _ hD) hS1 hA hl
  have e1 : ((r.map (sx_cz ad)).toList ++ rest.map (sx_cz ad)) = (r.toList ++ rest).map (sx_cz ad) := by cases r <;> simp
  rw [e1]
  exact hk
end SXR
end
section
theorem gg_in2 {w : Cond} (h : w ∈ lw_tbl) (g : goodWord w = true) : w ∈ GG := List.mem_filter.mpr ⟨h, g⟩
theorem gd_X0 : ∀ w ∈ wsX00, goodWord w = true := by decide +kernel
theorem inX0 : ∀ w ∈ wsX00, w ∈ lw_tbl := by decide +kernel
theorem gd_X1 : ∀ w ∈ wsX10, goodWord w = true := by decide +kernel
theorem inX1 : ∀ w ∈ wsX10, w ∈ lw_tbl := by decide +kernel
theorem gd_X2 : ∀ w ∈ wsX20, goodWord w = true := by decide +kernel
theorem inX2 : ∀ w ∈ wsX20, w ∈ lw_tbl := by decide +kernel
theorem gd_X3 : ∀ w ∈ wsX30, goodWord w = true := by decide +kernel
theorem inX3 : ∀ w ∈ wsX30, w ∈ lw_tbl := by decide +kernel
theorem gd_X4 : ∀ w ∈ wsX40, goodWord w = true := by decide +kernel
theorem inX4 : ∀ w ∈ wsX40, w ∈ lw_tbl := by decide +kernel
theorem gd_X5 : ∀ w ∈ wsX50, goodWord w = true := by decide +kernel
theorem inX5 : ∀ w ∈ wsX50, w ∈ lw_tbl := by decide +kernel
theorem gd_X6 : ∀ w ∈ wsX60, goodWord w = true := by decide +kernel
theorem inX6 : ∀ w ∈ wsX60, w ∈ lw_tbl := by decide +kernel
theorem gd_X7 : ∀ w ∈ wsX70, goodWord w = true := by decide +kernel
theorem inX7 : ∀ w ∈ wsX70, w ∈ lw_tbl := by decide +kernel
def sx_si (i : Nat) : Nat := [74, 80, 82, 84, 86, 88].getD i 0
def sx_tx (i : Nat) : String := ["child", "book", "plan", "after", "thin", "pay"].getD i ""
def sx_ln : List Nat := [5, 4, 4, 5, 4, 3]
def sx_by : List (List Int32) := [[99, 104, 105, 108, 100], [98, 111, 111, 107], [112, 108, 97, 110], [97, 102, 116, 101, 114], [116, 104, 105, 110], [112, 97, 121]]
def sx_stl (i : Nat) : Nat := sx_ln.getD i 0
def sx_sb (i j : Nat) : Int32 := (sx_by.getD i []).getD j 0
def tFirst (j : Nat) : Int32 := [10, 1, 6, 2, 3, 1].getD j 0
def tMost (j : Nat) : Int32 := [99, 9, 20, 9, 20, 9].getD j 0
def tWith (j : Nat) : Int32 := [170, 204, 240].getD j 0
def sx_nests : List Cond := [Cond.methodLinkNest "StarChart" 9 ⟨"StarChart$Sheet","<init>","()V"⟩ "StarChart", Cond.methodLinkNest "StarChart" 18 ⟨"StarChart$Reader","<init>","()V"⟩ "StarChart", Cond.methodLinkNest "StarChart$Reader" 21 ⟨"StarChart$Sheet","<init>","()V"⟩ "StarChart", Cond.methodLinkNest "StarChart" 25 ⟨"StarChart$Course","<init>","()V"⟩ "StarChart", Cond.methodLinkNest "StarChart" 36 ⟨"StarChart$Image","<init>","()V"⟩ "StarChart", Cond.methodLinkNest "StarChart$Image" 19 ⟨"StarChart$Course","<init>","()V"⟩ "StarChart", Cond.methodLinkNest "StarChart" 46 ⟨"StarChart$Trials","<init>","()V"⟩ "StarChart", Cond.methodLinkNest "StarChart" 53 ⟨"StarChart$Jar","<init>","()V"⟩ "StarChart", Cond.methodLinkNest "StarChart$Reader" 98 ⟨"StarChart","within","(III)Z"⟩ "StarChart"]
/-- what the class's world stands on: texts, static arrays, statics of the JDK, nest links -/
def KX (ad : Nat → Nat) (A : Nat → Prop) (U : State) (H : Heap) : Prop :=
  vk_S 6 sx_ln sx_by (fun i => ad (1000 + i)) (fun i => ad (1100 + i)) A U H ∧
  (∀ i : Nat, i < 6 → vk_R "StarChart$Reader" (sx_si i) (sx_tx i) (ad (1000 + i)) U) ∧
  (va_Z "StarChart" "TUNE_MOST" "[I" (.ref (ad 1010)) A U H ∧ va_T .int (ad 1010) 6 (fun j => .int (tMost j)) A U H) ∧
  (va_Z "StarChart$Trials" "SORTS_WITH" "[I" (.ref (ad 1011)) A U H ∧ va_T .int (ad 1011) 3 (fun j => .int (tWith j)) A U H) ∧
  (va_Z "StarChart" "TUNE_FIRST" "[I" (.ref (ad 1012)) A U H ∧ va_T .int (ad 1012) 6 (fun j => .int (tFirst j)) A U H) ∧
  va_Z "java/lang/String" "COMPACT_STRINGS" "Z" (.int 1) A U H ∧
  (va_Z "jdk/internal/util/Preconditions" "SIOOBE_FORMATTER" "Ljava/util/function/BiFunction;" .null A U H ∨ va_Z "jdk/internal/util/Preconditions" "SIOOBE_FORMATTER" "Ljava/util/function/BiFunction;" (.ref (ad 1020)) A U H) ∧
  (∀ w ∈ sx_nests, va_Nw w U)
def KM (_ : Nat → Nat) (_ : Nat → Prop) (_ : State) (_ : Heap) : Prop := True
theorem KSM : sx_KS KM := ⟨fun _ _ _ _ _ _ h => h, fun _ _ _ _ _ h _ => h, fun _ _ _ _ _ _ h => h⟩
theorem sx_nestW {s U : State} (hW : s.WarmedH U.vm) {w : Cond} (hw : w ∈ sx_nests) (h : va_Nw w s) : va_Nw w U := by
  simp only [sx_nests, List.mem_cons, List.not_mem_nil, or_false] at hw
  rcases hw with rfl | rfl | rfl | rfl | rfl | rfl | rfl | rfl | rfl <;> exact va_Nw.warmM hW h
theorem KSX : sx_KS KX := by
  refine ⟨fun ad A u U H hW h => ?_, fun ad A U H H1 h hq => ?_, fun ad A B U H hAB h => ?_⟩
  · obtain ⟨h1, h2, h3, h4, h5, h6, h7, h8⟩ := h
    exact ⟨h1.moved hW.alike, fun i hi => (h2 i hi).warm hW, ⟨h3.1.moved hW.alike, h3.2.moved hW.alike⟩, ⟨h4.1.moved hW.alike, h4.2.moved hW.alike⟩, ⟨h5.1.moved hW.alike, h5.2.moved hW.alike⟩, h6.moved hW.alike, h7.elim (fun z => Or.inl (z.moved hW.alike)) (fun z => Or.inr (z.moved hW.alike)), fun w hw => sx_nestW hW hw (h8 w hw)⟩
  · obtain ⟨h1, h2, h3, h4, h5, h6, h7, h8⟩ := h
    exact ⟨h1.kept hq, h2, ⟨h3.1.kept hq, h3.2.kept hq⟩, ⟨h4.1.kept hq, h4.2.kept hq⟩, ⟨h5.1.kept hq, h5.2.kept hq⟩, h6.kept hq, h7.elim (fun z => Or.inl (z.kept hq)) (fun z => Or.inr (z.kept hq)), h8⟩
  · obtain ⟨h1, h2, h3, h4, h5, h6, h7, h8⟩ := h
    exact ⟨h1.narrow hAB, h2, ⟨h3.1.narrow hAB, h3.2.narrow hAB⟩, ⟨h4.1.narrow hAB, h4.2.narrow hAB⟩, ⟨h5.1.narrow hAB, h5.2.narrow hAB⟩, h6.narrow hAB, h7.elim (fun z => Or.inl (z.narrow hAB)) (fun z => Or.inr (z.narrow hAB)), h8⟩
def tfX (a _ : ClassId) : List (ClassId × FieldType) := [(a, .int)]
def tfM (a b : ClassId) : List (ClassId × FieldType) := [(a, .int), (b, .boolean)]
def shX : List sx_H := [.inr (6, [.inl 1, .inl 8, .inl 19, .inl 23, .inl 24, .inl 29, .inl 34, .inl 37, .inl 41, .inl 48, .inr false, .inr true]), .inr (4, [.inr false, .inr false, .inl 2, .inl 3, .inl 4, .inl 5, .inl 6, .inl 7, .inr false, .inr false, .inr false, .inr false]), .inl (false, 8), .inl (false, 8), .inl (false, 8), .inl (false, 4), .inl (false, 4), .inl (false, 4), .inr (3, [.inr false, .inl 9, .inl 10, .inl 17, .inl 18, .inr false, .inr false]), .inl (false, 400), .inr (4, [.inr false, .inr false, .inl 11, .inl 12, .inl 13, .inl 14, .inl 15, .inl 16, .inr false, .inr false, .inr false, .inr false]), .inl (false, 8), .inl (false, 8), .inl (false, 8), .inl (false, 4), .inl (false, 4), .inl (false, 4), .inl (false, 401), .inl (false, 401), .inr (0, [.inr false, .inr false, .inl 20, .inl 21, .inl 22]), .inl (false, 8), .inl (false, 8), .inl (false, 8), .inl (false, 6), .inr (1, [.inr false, .inr false, .inl 25]), .inr (0, [.inr false, .inr false, .inl 26, .inl 27, .inl 28]), .inl (false, 8), .inl (false, 8), .inl (false, 8), .inr (1, [.inr false, .inr false, .inl 30]), .inr (0, [.inr false, .inr false, .inl 31, .inl 32, .inl 33]), .inl (false, 8), .inl (false, 8), .inl (false, 8), .inr (5, [.inr false, .inl 35, .inl 36]), .inl (false, 30), .inl (false, 30), .inr (2, [.inr false, .inr false, .inl 38, .inl 39, .inl 40]), .inl (false, 8), .inl (false, 8), .inl (false, 8), .inr (4, [.inr false, .inr false, .inl 42, .inl 43, .inl 44, .inl 45, .inl 46, .inl 47, .inr false, .inr false, .inr false, .inr false]), .inl (false, 8), .inl (false, 8), .inl (false, 8), .inl (false, 4), .inl (false, 4), .inl (false, 4), .inr (0, [.inr false, .inr false, .inl 49, .inl 50, .inl 51]), .inl (false, 8), .inl (false, 8), .inl (false, 8)]
theorem shX_0 : shX[0]? = some (.inr (6, [.inl 1, .inl 8, .inl 19, .inl 23, .inl 24, .inl 29, .inl 34, .inl 37, .inl 41, .inl 48, .inr false, .inr true])) := rfl
theorem shX_1 : shX[1]? = some (.inr (4, [.inr false, .inr false, .inl 2, .inl 3, .inl 4, .inl 5, .inl 6, .inl 7, .inr false, .inr false, .inr false, .inr false])) := rfl
theorem shX_2 : shX[2]? = some (.inl (false, 8)) := rfl
theorem shX_3 : shX[3]? = some (.inl (false, 8)) := rfl
theorem shX_4 : shX[4]? = some (.inl (false, 8)) := rfl
theorem shX_5 : shX[5]? = some (.inl (false, 4)) := rfl
theorem shX_6 : shX[6]? = some (.inl (false, 4)) := rfl
theorem shX_7 : shX[7]? = some (.inl (false, 4)) := rfl
theorem shX_8 : shX[8]? = some (.inr (3, [.inr false, .inl 9, .inl 10, .inl 17, .inl 18, .inr false, .inr false])) := rfl
theorem shX_9 : shX[9]? = some (.inl (false, 400)) := rfl
theorem shX_10 : shX[10]? = some (.inr (4, [.inr false, .inr false, .inl 11, .inl 12, .inl 13, .inl 14, .inl 15, .inl 16, .inr false, .inr false, .inr false, .inr false])) := rfl
theorem shX_11 : shX[11]? = some (.inl (false, 8)) := rfl
theorem shX_12 : shX[12]? = some (.inl (false, 8)) := rfl
theorem shX_13 : shX[13]? = some (.inl (false, 8)) := rfl
theorem shX_14 : shX[14]? = some (.inl (false, 4)) := rfl
theorem shX_15 : shX[15]? = some (.inl (false, 4)) := rfl
theorem shX_16 : shX[16]? = some (.inl (false, 4)) := rfl
theorem shX_17 : shX[17]? = some (.inl (false, 401)) := rfl
theorem shX_18 : shX[18]? = some (.inl (false, 401)) := rfl
theorem shX_19 : shX[19]? = some (.inr (0, [.inr false, .inr false, .inl 20, .inl 21, .inl 22])) := rfl
theorem shX_20 : shX[20]? = some (.inl (false, 8)) := rfl
theorem shX_21 : shX[21]? = some (.inl (false, 8)) := rfl
theorem shX_22 : shX[22]? = some (.inl (false, 8)) := rfl
theorem shX_23 : shX[23]? = some (.inl (false, 6)) := rfl
theorem shX_24 : shX[24]? = some (.inr (1, [.inr false, .inr false, .inl 25])) := rfl
theorem shX_25 : shX[25]? = some (.inr (0, [.inr false, .inr false, .inl 26, .inl 27, .inl 28])) := rfl
theorem shX_26 : shX[26]? = some (.inl (false, 8)) := rfl
theorem shX_27 : shX[27]? = some (.inl (false, 8)) := rfl
theorem shX_28 : shX[28]? = some (.inl (false, 8)) := rfl
theorem shX_29 : shX[29]? = some (.inr (1, [.inr false, .inr false, .inl 30])) := rfl
theorem shX_30 : shX[30]? = some (.inr (0, [.inr false, .inr false, .inl 31, .inl 32, .inl 33])) := rfl
theorem shX_31 : shX[31]? = some (.inl (false, 8)) := rfl
theorem shX_32 : shX[32]? = some (.inl (false, 8)) := rfl
theorem shX_33 : shX[33]? = some (.inl (false, 8)) := rfl
theorem shX_34 : shX[34]? = some (.inr (5, [.inr false, .inl 35, .inl 36])) := rfl
theorem shX_35 : shX[35]? = some (.inl (false, 30)) := rfl
theorem shX_36 : shX[36]? = some (.inl (false, 30)) := rfl
theorem shX_37 : shX[37]? = some (.inr (2, [.inr false, .inr false, .inl 38, .inl 39, .inl 40])) := rfl
theorem shX_38 : shX[38]? = some (.inl (false, 8)) := rfl
theorem shX_39 : shX[39]? = some (.inl (false, 8)) := rfl
theorem shX_40 : shX[40]? = some (.inl (false, 8)) := rfl
theorem shX_41 : shX[41]? = some (.inr (4, [.inr false, .inr false, .inl 42, .inl 43, .inl 44, .inl 45, .inl 46, .inl 47, .inr false, .inr false, .inr false, .inr false])) := rfl
theorem shX_42 : shX[42]? = some (.inl (false, 8)) := rfl
theorem shX_43 : shX[43]? = some (.inl (false, 8)) := rfl
theorem shX_44 : shX[44]? = some (.inl (false, 8)) := rfl
theorem shX_45 : shX[45]? = some (.inl (false, 4)) := rfl
theorem shX_46 : shX[46]? = some (.inl (false, 4)) := rfl
theorem shX_47 : shX[47]? = some (.inl (false, 4)) := rfl
theorem shX_48 : shX[48]? = some (.inr (0, [.inr false, .inr false, .inl 49, .inl 50, .inl 51])) := rfl
theorem shX_49 : shX[49]? = some (.inl (false, 8)) := rfl
theorem shX_50 : shX[50]? = some (.inl (false, 8)) := rfl
theorem shX_51 : shX[51]? = some (.inl (false, 8)) := rfl
def shM : List sx_H := [.inr (7, [.inr false, .inr true, .inl 1, .inr false, .inr false, .inr false, .inr false, .inr false, .inr false, .inl 2, .inl 3, .inl 4, .inl 5, .inl 6, .inl 7, .inl 8, .inr false, .inl 9, .inl 10, .inr false]), .inl (false, 400), .inl (false, 84), .inl (false, 6), .inl (false, 27), .inl (false, 54), .inl (true, 2), .inl (false, 27), .inl (false, 84), .inl (false, 30), .inl (false, 30)]
theorem shM_0 : shM[0]? = some (.inr (7, [.inr false, .inr true, .inl 1, .inr false, .inr false, .inr false, .inr false, .inr false, .inr false, .inl 2, .inl 3, .inl 4, .inl 5, .inl 6, .inl 7, .inl 8, .inr false, .inl 9, .inl 10, .inr false])) := rfl
theorem shM_1 : shM[1]? = some (.inl (false, 400)) := rfl
theorem shM_2 : shM[2]? = some (.inl (false, 84)) := rfl
theorem shM_3 : shM[3]? = some (.inl (false, 6)) := rfl
theorem shM_4 : shM[4]? = some (.inl (false, 27)) := rfl
theorem shM_5 : shM[5]? = some (.inl (false, 54)) := rfl
theorem shM_6 : shM[6]? = some (.inl (true, 2)) := rfl
theorem shM_7 : shM[7]? = some (.inl (false, 27)) := rfl
theorem shM_8 : shM[8]? = some (.inl (false, 84)) := rfl
theorem shM_9 : shM[9]? = some (.inl (false, 30)) := rfl
theorem shM_10 : shM[10]? = some (.inl (false, 30)) := rfl
def iSh (k : Nat) : Prop := shX[k]? = some (.inr (4, [.inr false, .inr false, .inl (k + 1), .inl (k + 2), .inl (k + 3), .inl (k + 4), .inl (k + 5), .inl (k + 6), .inr false, .inr false, .inr false, .inr false])) ∧ shX[k + 1]? = some (.inl (false, 8)) ∧ shX[k + 2]? = some (.inl (false, 8)) ∧ shX[k + 3]? = some (.inl (false, 8)) ∧ shX[k + 4]? = some (.inl (false, 4)) ∧ shX[k + 5]? = some (.inl (false, 4)) ∧ shX[k + 6]? = some (.inl (false, 4))
theorem iSh_1 : iSh 1 := ⟨rfl, rfl, rfl, rfl, rfl, rfl, rfl⟩
theorem iSh_10 : iSh 10 := ⟨rfl, rfl, rfl, rfl, rfl, rfl, rfl⟩
theorem iSh_41 : iSh 41 := ⟨rfl, rfl, rfl, rfl, rfl, rfl, rfl⟩
def iCo (k : Nat) : Prop := shX[k]? = some (.inr (0, [.inr false, .inr false, .inl (k + 1), .inl (k + 2), .inl (k + 3)])) ∧ shX[k + 1]? = some (.inl (false, 8)) ∧ shX[k + 2]? = some (.inl (false, 8)) ∧ shX[k + 3]? = some (.inl (false, 8))
theorem iCo_19 : iCo 19 := ⟨rfl, rfl, rfl, rfl⟩
theorem iCo_25 : iCo 25 := ⟨rfl, rfl, rfl, rfl⟩
theorem iCo_30 : iCo 30 := ⟨rfl, rfl, rfl, rfl⟩
theorem iCo_48 : iCo 48 := ⟨rfl, rfl, rfl, rfl⟩
def iIm (k : Nat) : Prop := shX[k]? = some (.inr (1, [.inr false, .inr false, .inl (k + 1)])) ∧ iCo (k + 1)
theorem iIm_24 : iIm 24 := ⟨rfl, iCo_25⟩
theorem iIm_29 : iIm 29 := ⟨rfl, iCo_30⟩
theorem iIm_of {r : Nat} (h : r = 24 ∨ r = 29) : iIm r := h.elim (fun e => e ▸ iIm_24) (fun e => e ▸ iIm_29)
def iA8 (r : Nat) : Prop := shX[r]? = some (.inl (false, 8))
def iA27 (r : Nat) : Prop := shM[r]? = some (.inl (false, 27))
theorem cb_X0 : sx_CB vwCl 0 RX0 TX0 5 tyX0 := ⟨rfl, fun w h => gg_in2 (inX0 w h) (gd_X0 w h), tyX0_ok, nmX0⟩
theorem cb_X1 : sx_CB vwCl 1 RX1 TX1 3 tyX1 := ⟨rfl, fun w h => gg_in2 (inX1 w h) (gd_X1 w h), tyX1_ok, nmX1⟩
theorem cb_X2 : sx_CB vwCl 2 RX2 TX2 5 tyX2 := ⟨rfl, fun w h => gg_in2 (inX2 w h) (gd_X2 w h), tyX2_ok, nmX2⟩
theorem cb_X3 : sx_CB vwCl 3 RX3 TX3 7 tyX3 := ⟨rfl, fun w h => gg_in2 (inX3 w h) (gd_X3 w h), tyX3_ok, nmX3⟩
theorem cb_X4 : sx_CB vwCl 4 RX4 TX4 12 tyX4 := ⟨rfl, fun w h => gg_in2 (inX4 w h) (gd_X4 w h), tyX4_ok, nmX4⟩
theorem cb_X5 : sx_CB vwCl 5 RX5 TX5 3 tyX5 := ⟨rfl, fun w h => gg_in2 (inX5 w h) (gd_X5 w h), tyX5_ok, nmX5⟩
theorem cb_X6 : sx_CB vwCl 6 RX6 TX6 12 tyX6 := ⟨rfl, fun w h => gg_in2 (inX6 w h) (gd_X6 w h), tyX6_ok, nmX6⟩
theorem cb_X7 : sx_CB vwCl 7 RX7 TX7 20 tyX7 := ⟨rfl, fun w h => gg_in2 (inX7 w h) (gd_X7 w h), tyX7_ok, nmX7⟩
/-! the words of the functions that a program read out of the bytecode -/
def sx_let {α β : Type} (x : α) (f : α → β) : β := f x
theorem sx_lt {α β : Type} {x : α} {f : α → Option β} {r : β} (h : sx_let x f = some r) : ∃ y, y = x ∧ f y = some r := ⟨x, rfl, h⟩
theorem sx_gd {α : Type} {b : Prop} [Decidable b] {x : Option α} {r : α} (h : (if b then x else none) = some r) : b ∧ x = some r := by
  by_cases c : b
  · rw [if_pos c] at h
    exact ⟨c, h⟩
  · rw [if_neg c] at h
    cases h
theorem sx_ip {α : Type} {c : Prop} [Decidable c] {x y : α} {r : α} (h : (if c then x else y) = r) (hc : c) : x = r := by rw [if_pos hc] at h; exact h
theorem sx_in {α : Type} {c : Prop} [Decidable c] {x y : α} {r : α} (h : (if c then x else y) = r) (hc : ¬ c) : y = r := by rw [if_neg hc] at h; exact h
theorem sx_bd {α β : Type} {x : Option α} {f : α → Option β} {r : β} (h : x.bind f = some r) : ∃ z, x = some z ∧ f z = some r := Option.bind_eq_some_iff.mp h
theorem sx_mp {α β : Type} {x : Option α} {f : α → β} {r : β} (h : x.map f = some r) : ∃ t, x = some t ∧ r = f t := by
  obtain ⟨t, h1, h2⟩ := Option.map_eq_some_iff.mp h
  exact ⟨t, h1, h2.symm⟩
def sx_ix (i : Int32) (n : Nat) : Bool := !(decide (i < 0) || decide (n ≤ i.toNatClampNeg))
theorem sx_ix_in {i : Int32} {n : Nat} (h : sx_ix i n = true) : vp_in i n := by
  intro z
  rcases z with z | z <;> simp [sx_ix, z] at h
theorem sx_ix_of {i : Int32} {n : Nat} (h : vp_in i n) : sx_ix i n = true := by
  have h1 : ¬ i < 0 := fun z => h (Or.inl z)
  have h2 : ¬ n ≤ i.toNatClampNeg := fun z => h (Or.inr z)
  simp [sx_ix, h1, h2]
theorem sx_ixN {j n : Nat} (h : j < n) (hn : n < 2 ^ 31) : sx_ix (nI j) n = true := sx_ix_of (vp_in_nI h hn)
def sx_n0 (x : Int32) : Bool := !(decide (x = 0))
theorem sx_nz {x : Int32} (h : sx_n0 x = true) : ¬ x = 0 := by
  intro z
  simp [sx_n0, z] at h
def sx_bt (x : Int32) : Bool := decide (x = 0) || decide (x = 1)
theorem sx_bit {x : Int32} (h : sx_bt x = true) : x = 0 ∨ x = 1 := by
  simp only [sx_bt, Bool.or_eq_true, decide_eq_true_eq] at h
  exact h
def sx_loop {σ ρ : Type} (body : σ → Option (σ ⊕ ρ)) : Nat → σ → Option ρ
  | 0, _ => none
  | n + 1, s => (body s).bind (fun x => match x with | .inl s2 => sx_loop body n s2 | .inr t => some t)
def FU : Nat := 1000
theorem sx_lp {σ ρ : Type} {body : σ → Option (σ ⊕ ρ)} {P : σ → Prop} {T : ρ → Prop} (step : ∀ (s : σ) (res : σ ⊕ ρ), body s = some res → (∀ s2, res = .inl s2 → P s2) → (∀ t, res = .inr t → T t) → P s) : ∀ (n : Nat) (s : σ) (t : ρ), sx_loop body n s = some t → T t → P s := by
  intro n
  induction n with
  | zero => intro s t h; cases h
  | succ n ih =>
    intro s t h ht
    obtain ⟨x, h1, h2⟩ := sx_bd h
    refine step s x h1 (fun s2 e => ?_) (fun t2 e => ?_)
    · subst e
      exact ih s2 t h2 ht
    · subst e
      cases h2
      exact ht
theorem gw_copy : Cond.native arraycopyName ∈ GG ∧ Cond.static arraycopyName ∈ GG ∧ Cond.initialized "java/lang/System" ∈ GG := ⟨gw_275, gw_274, gw_67⟩
theorem gw_mmin : Cond.static Lib.Math.min.name ∈ GG ∧ Cond.initialized "java/lang/Math" ∈ GG ∧ Cond.code Lib.Math.min.name Lib.Math.min.code 2 (some .int) ∈ GG := ⟨gw_560, gw_73, gw_561⟩
theorem gw_mmax : Cond.static Lib.Math.max.name ∈ GG ∧ Cond.initialized "java/lang/Math" ∈ GG ∧ Cond.code Lib.Math.max.name Lib.Math.max.code 2 (some .int) ∈ GG := ⟨gw_573, gw_73, gw_574⟩
theorem gw_mabs : Cond.static Lib.Math.abs.name ∈ GG ∧ Cond.initialized "java/lang/Math" ∈ GG ∧ Cond.code Lib.Math.abs.name Lib.Math.abs.code 1 (some .int) ∈ GG := ⟨gw_707, gw_73, gw_708⟩
section SXW
variable {sh : List sx_H} {cl : List vw_C} {K : (Nat → Nat) → (Nat → Prop) → State → Heap → Prop} {tf : ClassId → ClassId → List (ClassId × FieldType)} {l : Launch} {own : String} {cc : ByteArray} {nL : Nat} {ret : Option FieldType} {R : Room} {Q : Option Value → SQ → Prop} {pc : Nat} {ls : List (Nat × Value)} {st : List Value} {q : SQ}
theorem sx_nmI {x y : Int32} (e : y = x) (k : XX sh cl K tf l own cc nL ret R Q pc ls (.int y :: st) q) : XX sh cl K tf l own cc nL ret R Q pc ls (.int x :: st) q := e ▸ k
theorem sx_nmL {x y : Int64} (e : y = x) (k : XX sh cl K tf l own cc nL ret R Q pc ls (.long y :: st) q) : XX sh cl K tf l own cc nL ret R Q pc ls (.long x :: st) q := e ▸ k
theorem sx_nmR {x y : Nat} (e : y = x) (k : XX sh cl K tf l own cc nL ret R Q pc ls (.ref y :: st) q) : XX sh cl K tf l own cc nL ret R Q pc ls (.ref x :: st) q := e ▸ k
theorem sx_nmQ {q2 : SQ} (e : q2 = q) (k : XX sh cl K tf l own cc nL ret R Q pc ls st q2) : XX sh cl K tf l own cc nL ret R Q pc ls st q := e ▸ k
theorem sx_ialdC {o n j9 : Nat} {i : Int32} (d : decode cc pc = .ok (.iaload, 1)) (hs : sh[o]? = some (.inl (false, n))) (ht : ∀ a b, (tf a b)[0]? = some (a, .int)) (hj : i.toNatClampNeg = j9) (hi : ¬ (i < 0 ∨ n ≤ i.toNatClampNeg)) (k : XX sh cl K tf l own cc nL ret R Q (pc + 1) ls (.int (gI q o j9) :: st) q) : XX sh cl K tf l own cc nL ret R Q pc ls (.int i :: .ref o :: st) q := by
  subst hj
  exact sx_iald d hs ht hi k
theorem sx_zaldC {o n j9 : Nat} {i : Int32} (d : decode cc pc = .ok (.baload, 1)) (hs : sh[o]? = some (.inl (true, n))) (ht : ∀ a b, (tf a b)[1]? = some (b, .boolean)) (hj : i.toNatClampNeg = j9) (hi : ¬ (i < 0 ∨ n ≤ i.toNatClampNeg)) (k : XX sh cl K tf l own cc nL ret R Q (pc + 1) ls (.int (gI q o j9) :: st) q) : XX sh cl K tf l own cc nL ret R Q pc ls (.int i :: .ref o :: st) q := by
  subst hj
  exact sx_zald d hs ht hi k
theorem sx_iastC {o n j9 : Nat} {i v : Int32} (d : decode cc pc = .ok (.iastore, 1)) (hs : sh[o]? = some (.inl (false, n))) (ht : ∀ a b, (tf a b)[0]? = some (a, .int)) (hj : i.toNatClampNeg = j9) (hi : ¬ (i < 0 ∨ n ≤ i.toNatClampNeg)) (k : XX sh cl K tf l own cc nL ret R Q (pc + 1) ls st (sI q o j9 v)) : XX sh cl K tf l own cc nL ret R Q pc ls (.int v :: .int i :: .ref o :: st) q := by
  subst hj
  exact sx_iast d hs ht hi k
theorem sx_zastV {o n : Nat} {i v : Int32} (d : decode cc pc = .ok (.bastore, 1)) (hs : sh[o]? = some (.inl (true, n))) (ht : ∀ a b, (tf a b)[1]? = some (b, .boolean)) (hi : vp_in i n) (hv : vp_nar .boolean v = v) (k : XX sh cl K tf l own cc nL ret R Q (pc + 1) ls st (sI q o i.toNatClampNeg v)) : XX sh cl K tf l own cc nL ret R Q pc ls (.int v :: .int i :: .ref o :: st) q := by
  refine sx_zast d hs ht hi ?_
  rw [hv]
  exact k
theorem sx_zastC {o n j9 : Nat} {i v : Int32} (d : decode cc pc = .ok (.bastore, 1)) (hs : sh[o]? = some (.inl (true, n))) (ht : ∀ a b, (tf a b)[1]? = some (b, .boolean)) (hj : i.toNatClampNeg = j9) (hi : ¬ (i < 0 ∨ n ≤ i.toNatClampNeg)) (hv : vp_nar .boolean v = v) (k : XX sh cl K tf l own cc nL ret R Q (pc + 1) ls st (sI q o j9 v)) : XX sh cl K tf l own cc nL ret R Q pc ls (.int v :: .int i :: .ref o :: st) q := by
  subst hj
  exact sx_zastV d hs ht hi hv k
theorem sx_copyC {o o2 n n2 n9 j : Nat} {w : Int32} (d : decode cc pc = .ok (.invokestatic j, 3)) (hln : Cond.methodLink own j arraycopyName ∈ GG) (hw : Cond.native arraycopyName ∈ GG ∧ Cond.static arraycopyName ∈ GG ∧ Cond.initialized "java/lang/System" ∈ GG) (hs : sh[o]? = some (.inl (false, n))) (hs2 : sh[o2]? = some (.inl (false, n2))) (ht : ∀ a b, (tf a b)[0]? = some (a, .int)) (hn9 : w.toNatClampNeg = n9) (h3 : ¬ w < 0) (h4 : n9 ≤ n) (h5 : n9 ≤ n2) (hf : 1 ≤ R.frames) (hlo : (st.map fun v => v.category).sum + (nativeFrameWords "java/lang/System" "arraycopy" 5 + 11) ≤ R.locals) (k : XX sh cl K tf l own cc nL ret R Q (pc + 3) ls st (sA q o2 (va_cpy (q.1 o) (q.1 o2) 0 0 n9))) : XX sh cl K tf l own cc nL ret R Q pc ls (.int w :: .int 0 :: .ref o2 :: .int 0 :: .ref o :: st) q := by
  subst hn9
  have z : (0 : Int32).toNatClampNeg = 0 := by decide
  refine sx_copy d hln hw hs hs2 ht (by decide) (by decide) h3 (by rw [z]; omega) (by rw [z]; omega) hf hlo ?_
  rw [z]
  exact k
end SXW
section SXK
variable {l : Launch} {own : String} {cc : ByteArray} {nL : Nat} {ret : Option FieldType} {R : Room} {Q : Option Value → SQ → Prop} {pc : Nat} {ls : List (Nat × Value)} {st : List Value} {q : SQ}
theorem sx_gets_TUNE_MOST {n : Nat} (d : decode cc pc = .ok (.getstatic n, 3)) (hln : Cond.fieldLink own n "StarChart" "TUNE_MOST" "[I" ∈ GG) (k : XX shX vwCl KX tfX l own cc nL ret R Q (pc + 3) ls (.ref 1010 :: st) q) : XX shX vwCl KX tfX l own cc nL ret R Q pc ls st q := by
  intro p e s m args below meth c H locs D ad cI cZ A lsC hx hb hr hlk hml hown hts hKx hK hP hD hS hA hl
  exact va_gets hx hb hKx.2.2.1.1 hS hown (hts _ hln) (fun _ h => h) d (k p e s m args below meth c H locs D ad cI cZ A lsC hx hb hr hlk hml hown hts hKx hK hP hD hS hA hl)
theorem sx_tald1010 {i : Int32} (d : decode cc pc = .ok (.iaload, 1)) (hi : vp_in i 6) (k : XX shX vwCl KX tfX l own cc nL ret R Q (pc + 1) ls (.int (tMost i.toNatClampNeg) :: st) q) : XX shX vwCl KX tfX l own cc nL ret R Q pc ls (.int i :: .ref 1010 :: st) q := by
  intro p e s m args below meth c H locs D ad cI cZ A lsC hx hb hr hlk hml hown hts hKx hK hP hD hS hA hl
  exact va_ti hx hb hKx.2.2.1.2 hS hi rfl d (k p e s m args below meth c H locs D ad cI cZ A lsC hx hb hr hlk hml hown hts hKx hK hP hD hS hA hl)
theorem sx_talen1010 (d : decode cc pc = .ok (.arraylength, 1)) (k : XX shX vwCl KX tfX l own cc nL ret R Q (pc + 1) ls (.int 6 :: st) q) : XX shX vwCl KX tfX l own cc nL ret R Q pc ls (.ref 1010 :: st) q := by
  intro p e s m args below meth c H locs D ad cI cZ A lsC hx hb hr hlk hml hown hts hKx hK hP hD hS hA hl
  exact va_tlen hx hb hKx.2.2.1.2 hS (v := 6) (by decide) d (k p e s m args below meth c H locs D ad cI cZ A lsC hx hb hr hlk hml hown hts hKx hK hP hD hS hA hl)
theorem sx_gets_SORTS_WITH {n : Nat} (d : decode cc pc = .ok (.getstatic n, 3)) (hln : Cond.fieldLink own n "StarChart$Trials" "SORTS_WITH" "[I" ∈ GG) (k : XX shX vwCl KX tfX l own cc nL ret R Q (pc + 3) ls (.ref 1011 :: st) q) : XX shX vwCl KX tfX l own cc nL ret R Q pc ls st q := by
  intro p e s m args below meth c H locs D ad cI cZ A lsC hx hb hr hlk hml hown hts hKx hK hP hD hS hA hl
  exact va_gets hx hb hKx.2.2.2.1.1 hS hown (hts _ hln) (fun _ h => h) d (k p e s m args below meth c H locs D ad cI cZ A lsC hx hb hr hlk hml hown hts hKx hK hP hD hS hA hl)
theorem sx_tald1011 {i : Int32} (d : decode cc pc = .ok (.iaload, 1)) (hi : vp_in i 3) (k : XX shX vwCl KX tfX l own cc nL ret R Q (pc + 1) ls (.int (tWith i.toNatClampNeg) :: st) q) : XX shX vwCl KX tfX l own cc nL ret R Q pc ls (.int i :: .ref 1011 :: st) q := by
  intro p e s m args below meth c H locs D ad cI cZ A lsC hx hb hr hlk hml hown hts hKx hK hP hD hS hA hl
  exact va_ti hx hb hKx.2.2.2.1.2 hS hi rfl d (k p e s m args below meth c H locs D ad cI cZ A lsC hx hb hr hlk hml hown hts hKx hK hP hD hS hA hl)
theorem sx_talen1011 (d : decode cc pc = .ok (.arraylength, 1)) (k : XX shX vwCl KX tfX l own cc nL ret R Q (pc + 1) ls (.int 3 :: st) q) : XX shX vwCl KX tfX l own cc nL ret R Q pc ls (.ref 1011 :: st) q := by
  intro p e s m args below meth c H locs D ad cI cZ A lsC hx hb hr hlk hml hown hts hKx hK hP hD hS hA hl
  exact va_tlen hx hb hKx.2.2.2.1.2 hS (v := 3) (by decide) d (k p e s m args below meth c H locs D ad cI cZ A lsC hx hb hr hlk hml hown hts hKx hK hP hD hS hA hl)
theorem sx_gets_TUNE_FIRST {n : Nat} (d : decode cc pc = .ok (.getstatic n, 3)) (hln : Cond.fieldLink own n "StarChart" "TUNE_FIRST" "[I" ∈ GG) (k : XX shX vwCl KX tfX l own cc nL ret R Q (pc + 3) ls (.ref 1012 :: st) q) : XX shX vwCl KX tfX l own cc nL ret R Q pc ls st q := by
  intro p e s m args below meth c H locs D ad cI cZ A lsC hx hb hr hlk hml hown hts hKx hK hP hD hS hA hl
  exact va_gets hx hb hKx.2.2.2.2.1.1 hS hown (hts _ hln) (fun _ h => h) d (k p e s m args below meth c H locs D ad cI cZ A lsC hx hb hr hlk hml hown hts hKx hK hP hD hS hA hl)
theorem sx_tald1012 {i : Int32} (d : decode cc pc = .ok (.iaload, 1)) (hi : vp_in i 6) (k : XX shX vwCl KX tfX l own cc nL ret R Q (pc + 1) ls (.int (tFirst i.toNatClampNeg) :: st) q) : XX shX vwCl KX tfX l own cc nL ret R Q pc ls (.int i :: .ref 1012 :: st) q := by
  intro p e s m args below meth c H locs D ad cI cZ A lsC hx hb hr hlk hml hown hts hKx hK hP hD hS hA hl
  exact va_ti hx hb hKx.2.2.2.2.1.2 hS hi rfl d (k p e s m args below meth c H locs D ad cI cZ A lsC hx hb hr hlk hml hown hts hKx hK hP hD hS hA hl)
theorem sx_talen1012 (d : decode cc pc = .ok (.arraylength, 1)) (k : XX shX vwCl KX tfX l own cc nL ret R Q (pc + 1) ls (.int 6 :: st) q) : XX shX vwCl KX tfX l own cc nL ret R Q pc ls (.ref 1012 :: st) q := by
  intro p e s m args below meth c H locs D ad cI cZ A lsC hx hb hr hlk hml hown hts hKx hK hP hD hS hA hl
  exact va_tlen hx hb hKx.2.2.2.2.1.2 hS (v := 6) (by decide) d (k p e s m args below meth c H locs D ad cI cZ A lsC hx hb hr hlk hml hown hts hKx hK hP hD hS hA hl)
theorem sx_ldcS {n : Nat} (i : Nat) (ho : own = "StarChart$Reader") (d : decode cc pc = .ok (.ldc n, 2)) (hi : i < 6) (hn : sx_si i = n) (k : XX shX vwCl KX tfX l own cc nL ret R Q (pc + 2) ls (.ref (1000 + i) :: st) q) : XX shX vwCl KX tfX l own cc nL ret R Q pc ls st q := by
  intro p e s m args below meth c H locs D ad cI cZ A lsC hx hb hr hlk hml hown hts hKx hK hP hD hS hA hl
  subst hn
  subst ho
  exact va_ldcS hx hb hown (hKx.2.1 i hi) d (k p e s m args below meth c H locs D ad cI cZ A lsC hx hb hr hlk hml hown hts hKx hK hP hD hS hA hl)
theorem sx_gets_CS {n : Nat} (d : decode cc pc = .ok (.getstatic n, 3)) (hln : Cond.fieldLink own n "java/lang/String" "COMPACT_STRINGS" "Z" ∈ GG) (k : XX shX vwCl KX tfX l own cc nL ret R Q (pc + 3) ls (.int 1 :: st) q) : XX shX vwCl KX tfX l own cc nL ret R Q pc ls st q := by
  intro p e s m args below meth c H locs D ad cI cZ A lsC hx hb hr hlk hml hown hts hKx hK hP hD hS hA hl
  exact va_gets hx hb hKx.2.2.2.2.2.1 hS hown (hts _ hln) (fun _ h => h) d (k p e s m args below meth c H locs D ad cI cZ A lsC hx hb hr hlk hml hown hts hKx hK hP hD hS hA hl)
theorem sx_gets_SF {n : Nat} (d : decode cc pc = .ok (.getstatic n, 3)) (hln : Cond.fieldLink own n "jdk/internal/util/Preconditions" "SIOOBE_FORMATTER" "Ljava/util/function/BiFunction;" ∈ GG) (k1 : XX shX vwCl KX tfX l own cc nL ret R Q (pc + 3) ls (.null :: st) q) (k : XX shX vwCl KX tfX l own cc nL ret R Q (pc + 3) ls (.ref 1020 :: st) q) : XX shX vwCl KX tfX l own cc nL ret R Q pc ls st q := by
  intro p e s m args below meth c H locs D ad cI cZ A lsC hx hb hr hlk hml hown hts hKx hK hP hD hS hA hl
  rcases hKx.2.2.2.2.2.2.1 with z | z
  · exact va_gets hx hb z hS hown (hts _ hln) (fun _ h => h) d (k1 p e s m args below meth c H locs D ad cI cZ A lsC hx hb hr hlk hml hown hts hKx hK hP hD hS hA hl)
  · exact va_gets hx hb z hS hown (hts _ hln) (fun _ h => h) d (k p e s m args below meth c H locs D ad cI cZ A lsC hx hb hr hlk hml hown hts hKx hK hP hD hS hA hl)
theorem sx_kval {n i : Nat} (d : decode cc pc = .ok (.getfield n, 3)) (hi : i < 6) (hln : Cond.fieldLink own n "java/lang/String" "value" "[B" ∈ GG) (k : XX shX vwCl KX tfX l own cc nL ret R Q (pc + 3) ls (.ref (1100 + i) :: st) q) : XX shX vwCl KX tfX l own cc nL ret R Q pc ls (.ref (1000 + i) :: st) q := by
  intro p e s m args below meth c H locs D ad cI cZ A lsC hx hb hr hlk hml hown hts hKx hK hP hD hS hA hl
  exact vk_getf hx hb (hKx.1.1 i hi).2.2.1 hS hown (hts _ hln) (fun _ h => h) d (k p e s m args below meth c H locs D ad cI cZ A lsC hx hb hr hlk hml hown hts hKx hK hP hD hS hA hl)
theorem sx_kcod {n i : Nat} (d : decode cc pc = .ok (.getfield n, 3)) (hi : i < 6) (hln : Cond.fieldLink own n "java/lang/String" "coder" "B" ∈ GG) (k : XX shX vwCl KX tfX l own cc nL ret R Q (pc + 3) ls (.int 0 :: st) q) : XX shX vwCl KX tfX l own cc nL ret R Q pc ls (.ref (1000 + i) :: st) q := by
  intro p e s m args below meth c H locs D ad cI cZ A lsC hx hb hr hlk hml hown hts hKx hK hP hD hS hA hl
  exact vk_getf hx hb (hKx.1.1 i hi).2.1 hS hown (hts _ hln) (fun _ h => h) d (k p e s m args below meth c H locs D ad cI cZ A lsC hx hb hr hlk hml hown hts hKx hK hP hD hS hA hl)
theorem sx_kblen {i : Nat} (d : decode cc pc = .ok (.arraylength, 1)) (hi : i < 6) (k : XX shX vwCl KX tfX l own cc nL ret R Q (pc + 1) ls (.int (nI (sx_stl i)) :: st) q) : XX shX vwCl KX tfX l own cc nL ret R Q pc ls (.ref (1100 + i) :: st) q := by
  intro p e s m args below meth c H locs D ad cI cZ A lsC hx hb hr hlk hml hown hts hKx hK hP hD hS hA hl
  exact va_tlen hx hb (hKx.1.1 i hi).2.2.2 hS rfl d (k p e s m args below meth c H locs D ad cI cZ A lsC hx hb hr hlk hml hown hts hKx hK hP hD hS hA hl)
theorem sx_kbald {i : Nat} {j : Int32} (d : decode cc pc = .ok (.baload, 1)) (hi : i < 6) (hj : vp_in j (sx_stl i)) (k : XX shX vwCl KX tfX l own cc nL ret R Q (pc + 1) ls (.int (sx_sb i j.toNatClampNeg) :: st) q) : XX shX vwCl KX tfX l own cc nL ret R Q pc ls (.int j :: .ref (1100 + i) :: st) q := by
  intro p e s m args below meth c H locs D ad cI cZ A lsC hx hb hr hlk hml hown hts hKx hK hP hD hS hA hl
  exact va_tb hx hb (hKx.1.1 i hi).2.2.2 hS hj rfl d (k p e s m args below meth c H locs D ad cI cZ A lsC hx hb hr hlk hml hown hts hKx hK hP hD hS hA hl)
theorem sx_i2c {x : Int32} (d : decode cc pc = .ok (.i2c, 1)) (k : XX shX vwCl KX tfX l own cc nL ret R Q (pc + 1) ls (.int (x.toUInt32 % 65536).toInt32 :: st) q) : XX shX vwCl KX tfX l own cc nL ret R Q pc ls (.int x :: st) q := by
  intro p e s m args below meth c H locs D ad cI cZ A lsC hx hb hr hlk hml hown hts hKx hK hP hD hS hA hl
  exact lv_i2c hx hb d rfl (k p e s m args below meth c H locs D ad cI cZ A lsC hx hb hr hlk hml hown hts hKx hK hP hD hS hA hl)
theorem sx_nret {v : Int32} {ty : FieldType} (d : decode cc pc = .ok (.ireturn, 1)) (hr9 : ret = some ty) (hn : narrow ty (.int v) = .int v) (hQ : Q (some (.int v)) q) : XX shX vwCl KX tfX l own cc nL ret R Q pc ls [.int v] q := by
  intro p e s m args below meth c H locs D ad cI cZ A lsC hx hb hr hlk hml hown hts hKx hK hP hD hS hA hl
  exact W.zret (v := v) (ty := ty) hx hb (hr.trans hr9) hn (fun t ht hW => ⟨⟨some (.int v), q, rfl, hQ, by rw [ht]; exact hP, va_K.moved hW.alike hK⟩, hS.F ht⟩) hS.2.2 d hlk
theorem sx_callVK {y : MethodName} {cc9 : ByteArray} {nL9 n f9 L9 j : Nat} {ret9 : Option FieldType} {As rest : List Value} {res : Option Value} {q2 : SQ} {i : Nat} (KS : sx_KS KX) (hc : CK shX vwCl KX tfX l y cc9 nL9 ret9 f9 L9 (.ref (1000 + i) :: As) q res q2) (mi : sx_MI y cc9 nL9 ret9 n) (hln : Cond.methodLink own j y ∈ GG) (hn : As.length = n) (hin : Cond.instanceMethod y ∈ GG ∧ Cond.selects y.cls y y ∈ GG) (hi : i < 6) (hy9 : y.cls = "java/lang/String") (hR : f9 + 1 ≤ R.frames ∧ 8 + (nL9 + 11) + L9 ≤ R.locals) (hcat : (rest.map fun v => v.category).sum ≤ 8) (d : decode cc pc = .ok (.invokevirtual j, 3)) (hst : st = As.reverse ++ .ref (1000 + i) :: rest) (k : XX shX vwCl KX tfX l own cc nL ret R Q (pc + 3) ls (res.toList ++ rest) q2) : XX shX vwCl KX tfX l own cc nL ret R Q pc ls st q := by
  intro p e s m args below meth c H locs D ad cI cZ A lsC hx hb hr hlk hml hown hts hKx hK hP hD hS hA hl
  subst hst
  have hsub : ∀ a, va_A (sx_cw shX cI cZ ad q) H.size a → A a := by
    intro a ha
    rcases ha with ⟨k, e, h⟩ | h
    · exact hD.2 k _ h
    · exact hA a (Nat.le_trans hS.1 h)
  have hb9 := callB_of (R := R) (own := own) (index := j) (mc := 0) (ms := 0) (rm := { frames := f9, cells := 0, slots := 0, locals := L9 }) n hts (sx_good mi.2.2.1) rfl rfl rfl (hts _ mi.2.2.2) (hts _ hln) mi.2.1 hR
  obtain ⟨hp1, hp2⟩ := sx_pre (y := y) (cc9 := cc9) (nL9 := nL9) (ret9 := ret9) (vs := .ref (1000 + i) :: As) KS hKx hK hP hD hS hA
  have hrec := vk_recv hKx.1 hi hS
  rw [← hy9] at hrec
  refine sx_call (va_runV (C := y.cls) (As := As.map (sx_cz ad)) (rest := rest.map (sx_cz ad)) ⟨hx, hb, hml, hown, hts⟩ (hc D ad cI cZ H.size) ⟨hb9, hts _ hin.1, hts _ hin.2⟩ ⟨hp1, hrec, hp2⟩ rfl (by rw [List.length_map]; exact hn) hl.1 (by simp [sx_cz]) (lv_room (by rw [sx_cats]; exact hcat)) d ⟨Nat.zero_le _, Nat.zero_le _⟩) hS (fun a _ h => hsub a h) hsub (fun r u H1 locs1 hQ9 hP1 hS1 => ?_)
  obtain ⟨rfl, rfl⟩ := hQ9
  have hk := k p e s m args below meth c H1 locs1 D ad cI cZ A lsC hx hb hr hlk hml hown hts hKx hK hP1 (sx_D _ hD) hS1 hA hl
  have e1 : ((r.map (sx_cz ad)).toList ++ rest.map (sx_cz ad)) = (r.toList ++ rest).map (sx_cz ad) := by cases r <;> simp
  rw [e1]
  exact hk
theorem nw_RX3_98 (ad : Nat → Nat) (A : Nat → Prop) (U : State) (H : Heap) (h : KX ad A U H) : va_Nw (.methodLinkNest "StarChart$Reader" 98 yX6_within "StarChart") U := h.2.2.2.2.2.2.2 _ (by simp [sx_nests, yX6_within, RX6])
end SXK
end
section
theorem dJ0_length_8abf5_0 : decode cJ0_length_8abf5 0 = .ok (.aload_n 0, 1) := by decide +kernel
theorem dJ0_length_8abf5_1 : decode cJ0_length_8abf5 1 = .ok (.getfield 9, 3) := by decide +kernel
theorem dJ0_length_8abf5_4 : decode cJ0_length_8abf5 4 = .ok (.arraylength, 1) := by decide +kernel
theorem dJ0_length_8abf5_5 : decode cJ0_length_8abf5 5 = .ok (.aload_n 0, 1) := by decide +kernel
theorem dJ0_length_8abf5_6 : decode cJ0_length_8abf5 6 = .ok (.invokevirtual 335, 3) := by decide +kernel
theorem dJ0_length_8abf5_9 : decode cJ0_length_8abf5 9 = .ok (.ishr, 1) := by decide +kernel
theorem dJ0_length_8abf5_10 : decode cJ0_length_8abf5 10 = .ok (.ireturn, 1) := by decide +kernel
theorem dJ0_charAt_5068e_0 : decode cJ0_charAt_5068e 0 = .ok (.aload_n 0, 1) := by decide +kernel
theorem dJ0_charAt_5068e_1 : decode cJ0_charAt_5068e 1 = .ok (.invokevirtual 492, 3) := by decide +kernel
theorem dJ0_charAt_5068e_4 : decode cJ0_charAt_5068e 4 = .ok (.ifCond .eq 12, 3) := by decide +kernel
theorem dJ0_charAt_5068e_7 : decode cJ0_charAt_5068e 7 = .ok (.aload_n 0, 1) := by decide +kernel
theorem dJ0_charAt_5068e_8 : decode cJ0_charAt_5068e 8 = .ok (.getfield 9, 3) := by decide +kernel
theorem dJ0_charAt_5068e_11 : decode cJ0_charAt_5068e 11 = .ok (.iload_n 1, 1) := by decide +kernel
theorem dJ0_charAt_5068e_12 : decode cJ0_charAt_5068e 12 = .ok (.invokestatic 495, 3) := by decide +kernel
theorem dJ0_charAt_5068e_15 : decode cJ0_charAt_5068e 15 = .ok (.ireturn, 1) := by decide +kernel
theorem dJ0_charAt_5068e_16 : decode cJ0_charAt_5068e 16 = .ok (.aload_n 0, 1) := by decide +kernel
theorem dJ0_charAt_5068e_17 : decode cJ0_charAt_5068e 17 = .ok (.getfield 9, 3) := by decide +kernel
theorem dJ0_charAt_5068e_20 : decode cJ0_charAt_5068e 20 = .ok (.iload_n 1, 1) := by decide +kernel
theorem dJ0_charAt_5068e_21 : decode cJ0_charAt_5068e 21 = .ok (.invokestatic 498, 3) := by decide +kernel
theorem dJ0_charAt_5068e_24 : decode cJ0_charAt_5068e 24 = .ok (.ireturn, 1) := by decide +kernel
theorem dJ0_coder_7d493_0 : decode cJ0_coder_7d493 0 = .ok (.getstatic 38, 3) := by decide +kernel
theorem dJ0_coder_7d493_3 : decode cJ0_coder_7d493 3 = .ok (.ifCond .eq 10, 3) := by decide +kernel
theorem dJ0_coder_7d493_6 : decode cJ0_coder_7d493 6 = .ok (.aload_n 0, 1) := by decide +kernel
theorem dJ0_coder_7d493_7 : decode cJ0_coder_7d493 7 = .ok (.getfield 15, 3) := by decide +kernel
theorem dJ0_coder_7d493_10 : decode cJ0_coder_7d493 10 = .ok (.goto 4, 3) := by decide +kernel
theorem dJ0_coder_7d493_13 : decode cJ0_coder_7d493 13 = .ok (.iconst 1, 1) := by decide +kernel
theorem dJ0_coder_7d493_14 : decode cJ0_coder_7d493 14 = .ok (.ireturn, 1) := by decide +kernel
theorem dJ0_isLatin1_aae02_0 : decode cJ0_isLatin1_aae02 0 = .ok (.getstatic 38, 3) := by decide +kernel
theorem dJ0_isLatin1_aae02_3 : decode cJ0_isLatin1_aae02 3 = .ok (.ifCond .eq 14, 3) := by decide +kernel
theorem dJ0_isLatin1_aae02_6 : decode cJ0_isLatin1_aae02 6 = .ok (.aload_n 0, 1) := by decide +kernel
theorem dJ0_isLatin1_aae02_7 : decode cJ0_isLatin1_aae02 7 = .ok (.getfield 15, 3) := by decide +kernel
theorem dJ0_isLatin1_aae02_10 : decode cJ0_isLatin1_aae02 10 = .ok (.ifCond .ne 7, 3) := by decide +kernel
theorem dJ0_isLatin1_aae02_13 : decode cJ0_isLatin1_aae02 13 = .ok (.iconst 1, 1) := by decide +kernel
theorem dJ0_isLatin1_aae02_14 : decode cJ0_isLatin1_aae02 14 = .ok (.goto 4, 3) := by decide +kernel
theorem dJ0_isLatin1_aae02_17 : decode cJ0_isLatin1_aae02 17 = .ok (.iconst 0, 1) := by decide +kernel
theorem dJ0_isLatin1_aae02_18 : decode cJ0_isLatin1_aae02 18 = .ok (.ireturn, 1) := by decide +kernel
theorem dJ0_checkIndex_df160_0 : decode cJ0_checkIndex_df160 0 = .ok (.iload_n 0, 1) := by decide +kernel
theorem dJ0_checkIndex_df160_1 : decode cJ0_checkIndex_df160 1 = .ok (.iload_n 1, 1) := by decide +kernel
theorem dJ0_checkIndex_df160_2 : decode cJ0_checkIndex_df160 2 = .ok (.getstatic 1053, 3) := by decide +kernel
theorem dJ0_checkIndex_df160_5 : decode cJ0_checkIndex_df160 5 = .ok (.invokestatic 1059, 3) := by decide +kernel
theorem dJ0_checkIndex_df160_8 : decode cJ0_checkIndex_df160 8 = .ok (.pop, 1) := by decide +kernel
theorem dJ0_checkIndex_df160_9 : decode cJ0_checkIndex_df160 9 = .ok (.return_, 1) := by decide +kernel
theorem dJ1_charAt_3b067_0 : decode cJ1_charAt_3b067 0 = .ok (.iload_n 1, 1) := by decide +kernel
theorem dJ1_charAt_3b067_1 : decode cJ1_charAt_3b067 1 = .ok (.aload_n 0, 1) := by decide +kernel
theorem dJ1_charAt_3b067_2 : decode cJ1_charAt_3b067 2 = .ok (.arraylength, 1) := by decide +kernel
theorem dJ1_charAt_3b067_3 : decode cJ1_charAt_3b067 3 = .ok (.invokestatic 9, 3) := by decide +kernel
theorem dJ1_charAt_3b067_6 : decode cJ1_charAt_3b067 6 = .ok (.aload_n 0, 1) := by decide +kernel
theorem dJ1_charAt_3b067_7 : decode cJ1_charAt_3b067 7 = .ok (.iload_n 1, 1) := by decide +kernel
theorem dJ1_charAt_3b067_8 : decode cJ1_charAt_3b067 8 = .ok (.baload, 1) := by decide +kernel
theorem dJ1_charAt_3b067_9 : decode cJ1_charAt_3b067 9 = .ok (.sipush 255, 3) := by decide +kernel
theorem dJ1_charAt_3b067_12 : decode cJ1_charAt_3b067 12 = .ok (.iand, 1) := by decide +kernel
theorem dJ1_charAt_3b067_13 : decode cJ1_charAt_3b067 13 = .ok (.i2c, 1) := by decide +kernel
theorem dJ1_charAt_3b067_14 : decode cJ1_charAt_3b067 14 = .ok (.ireturn, 1) := by decide +kernel
theorem dJ3_checkIndex_8e157_0 : decode cJ3_checkIndex_8e157 0 = .ok (.iload_n 0, 1) := by decide +kernel
theorem dJ3_checkIndex_8e157_1 : decode cJ3_checkIndex_8e157 1 = .ok (.ifCond .lt 8, 3) := by decide +kernel
theorem dJ3_checkIndex_8e157_4 : decode cJ3_checkIndex_8e157 4 = .ok (.iload_n 0, 1) := by decide +kernel
theorem dJ3_checkIndex_8e157_5 : decode cJ3_checkIndex_8e157 5 = .ok (.iload_n 1, 1) := by decide +kernel
theorem dJ3_checkIndex_8e157_6 : decode cJ3_checkIndex_8e157 6 = .ok (.if_icmp .lt 10, 3) := by decide +kernel
theorem dJ3_checkIndex_8e157_9 : decode cJ3_checkIndex_8e157 9 = .ok (.aload_n 2, 1) := by decide +kernel
theorem dJ3_checkIndex_8e157_10 : decode cJ3_checkIndex_8e157 10 = .ok (.iload_n 0, 1) := by decide +kernel
theorem dJ3_checkIndex_8e157_11 : decode cJ3_checkIndex_8e157 11 = .ok (.iload_n 1, 1) := by decide +kernel
theorem dJ3_checkIndex_8e157_12 : decode cJ3_checkIndex_8e157 12 = .ok (.invokestatic 95, 3) := by decide +kernel
theorem dJ3_checkIndex_8e157_15 : decode cJ3_checkIndex_8e157 15 = .ok (.athrow, 1) := by decide +kernel
theorem dJ3_checkIndex_8e157_16 : decode cJ3_checkIndex_8e157 16 = .ok (.iload_n 0, 1) := by decide +kernel
theorem dJ3_checkIndex_8e157_17 : decode cJ3_checkIndex_8e157 17 = .ok (.ireturn, 1) := by decide +kernel
theorem mi_J0_coder_7d493 : sx_MI yJ0_coder_7d493 cJ0_coder_7d493 1 ((some .byte)) 0 := ⟨by decide, ⟨by decide, by decide, by decide +kernel⟩, gw_386, gw_69⟩
theorem J0_coder_7d493_ck (l : Launch) {i : Nat} (hi : i < 6) (q : SQ) : CK shX vwCl KX tfX l yJ0_coder_7d493 cJ0_coder_7d493 1 ((some .byte)) 0 0 [.ref (1000 + i)] q (some (.int 0)) q := by
  refine CK.of mi_J0_coder_7d493 (Nat.le_of_ble_eq_true rfl) ?_
  show XX shX vwCl KX tfX l RJ0 cJ0_coder_7d493 1 ((some .byte)) { frames := 0, cells := 0, slots := 0, locals := 0 } (fun r q3 => r = (some (.int 0)) ∧ q3 = q) 0 [(0, .ref (1000 + i))] [] q
  refine sx_gets_CS dJ0_coder_7d493_0 gw_387 ?_
  refine sx_if_eq (tgt := 13) dJ0_coder_7d493_3 (by decide) (fun c9 => absurd c9 (by decide)) (fun c9 => ?_)
  refine sx_aload_n dJ0_coder_7d493_6 rfl rfl ?_
  refine sx_kcod dJ0_coder_7d493_7 hi gw_1133 ?_
  refine sx_goto (tgt := 14) dJ0_coder_7d493_10 (by decide) ?_
  exact sx_nret dJ0_coder_7d493_14 rfl rfl ⟨rfl, rfl⟩
theorem mi_J0_length_8abf5 : sx_MI yJ0_length_8abf5 cJ0_length_8abf5 1 ((some .int)) 0 := ⟨by decide, ⟨by decide, by decide, by decide +kernel⟩, gw_382, gw_69⟩
theorem J0_length_8abf5_ck (l : Launch) {i : Nat} (hi : i < 6) (q : SQ) : CK shX vwCl KX tfX l yJ0_length_8abf5 cJ0_length_8abf5 1 ((some .int)) 1 20 [.ref (1000 + i)] q (some (.int (nI (sx_stl i)))) q := by
  refine CK.of mi_J0_length_8abf5 (Nat.le_of_ble_eq_true rfl) ?_
  show XX shX vwCl KX tfX l RJ0 cJ0_length_8abf5 1 ((some .int)) { frames := 1, cells := 0, slots := 0, locals := 20 } (fun r q3 => r = (some (.int (nI (sx_stl i)))) ∧ q3 = q) 0 [(0, .ref (1000 + i))] [] q
  refine sx_aload_n dJ0_length_8abf5_0 rfl rfl ?_
  refine sx_kval dJ0_length_8abf5_1 hi gw_1132 ?_
  refine sx_kblen dJ0_length_8abf5_4 hi ?_
  refine sx_aload_n dJ0_length_8abf5_5 rfl rfl ?_
  refine sx_callVK (i := i) (As := []) (rest := [.int (nI (sx_stl i))]) KSX (J0_coder_7d493_ck l hi q) mi_J0_coder_7d493 gw_383 rfl ⟨gw_384, gw_385⟩ hi rfl ⟨Nat.le_of_ble_eq_true rfl, Nat.le_of_ble_eq_true rfl⟩ (Nat.le_of_ble_eq_true rfl) dJ0_length_8abf5_6 rfl ?_
  refine sx_ishr dJ0_length_8abf5_9 ?_
  exact sx_iret dJ0_length_8abf5_10 rfl ⟨by rw [sb_shr0], rfl⟩
theorem mi_J0_isLatin1_aae02 : sx_MI yJ0_isLatin1_aae02 cJ0_isLatin1_aae02 1 ((some .boolean)) 0 := ⟨by decide, ⟨by decide, by decide, by decide +kernel⟩, gw_396, gw_69⟩
theorem J0_isLatin1_aae02_ck (l : Launch) {i : Nat} (hi : i < 6) (q : SQ) : CK shX vwCl KX tfX l yJ0_isLatin1_aae02 cJ0_isLatin1_aae02 1 ((some .boolean)) 0 0 [.ref (1000 + i)] q (some (.int 1)) q := by
  refine CK.of mi_J0_isLatin1_aae02 (Nat.le_of_ble_eq_true rfl) ?_
  show XX shX vwCl KX tfX l RJ0 cJ0_isLatin1_aae02 1 ((some .boolean)) { frames := 0, cells := 0, slots := 0, locals := 0 } (fun r q3 => r = (some (.int 1)) ∧ q3 = q) 0 [(0, .ref (1000 + i))] [] q
  refine sx_gets_CS dJ0_isLatin1_aae02_0 gw_387 ?_
  refine sx_if_eq (tgt := 17) dJ0_isLatin1_aae02_3 (by decide) (fun c9 => absurd c9 (by decide)) (fun c9 => ?_)
  refine sx_aload_n dJ0_isLatin1_aae02_6 rfl rfl ?_
  refine sx_kcod dJ0_isLatin1_aae02_7 hi gw_1133 ?_
  refine sx_if_ne (tgt := 17) dJ0_isLatin1_aae02_10 (by decide) (fun c9 => absurd rfl c9) (fun c9 => ?_)
  refine sx_iconst (v := (1 : Int32)) dJ0_isLatin1_aae02_13 (by decide) ?_
  refine sx_goto (tgt := 18) dJ0_isLatin1_aae02_14 (by decide) ?_
  exact sx_nret dJ0_isLatin1_aae02_18 rfl rfl ⟨rfl, rfl⟩
theorem mi_J3_checkIndex_8e157 : sx_MI yJ3_checkIndex_8e157 cJ3_checkIndex_8e157 3 ((some .int)) 3 := ⟨by decide, ⟨by decide, by decide, by decide +kernel⟩, gw_407, gw_71⟩
theorem J3_checkIndex_8e157_ck (l : Launch) {j n : Int32} (h1 : ¬ j < 0) (h2 : j < n) (v : Value) (hv : v = .null ∨ v = .ref 1020) (q : SQ) : CK shX vwCl KX tfX l yJ3_checkIndex_8e157 cJ3_checkIndex_8e157 3 ((some .int)) 0 0 [.int j, .int n, v] q (some (.int j)) q := by
  refine CK.of mi_J3_checkIndex_8e157 (by rcases hv with rfl | rfl <;> exact Nat.le_of_ble_eq_true rfl) ?_
  show XX shX vwCl KX tfX l RJ3 cJ3_checkIndex_8e157 3 ((some .int)) { frames := 0, cells := 0, slots := 0, locals := 0 } (fun r q3 => r = (some (.int j)) ∧ q3 = q) 0 (lv_args 0 [.int j, .int n, v]) [] q
  refine sx_iload_n dJ3_checkIndex_8e157_0 rfl rfl ?_
  refine sx_if_lt (tgt := 9) dJ3_checkIndex_8e157_1 (by decide) (fun c9 => absurd c9 h1) (fun c9 => ?_)
  refine sx_iload_n dJ3_checkIndex_8e157_4 rfl rfl ?_
  refine sx_iload_n dJ3_checkIndex_8e157_5 rfl rfl ?_
  refine sx_icmp_lt (tgt := 16) dJ3_checkIndex_8e157_6 (by decide) (fun c9 => ?_) (fun c9 => absurd h2 c9)
  refine sx_iload_n dJ3_checkIndex_8e157_16 rfl rfl ?_
  exact sx_iret dJ3_checkIndex_8e157_17 rfl ⟨rfl, rfl⟩
theorem mi_J0_checkIndex_df160 : sx_MI yJ0_checkIndex_df160 cJ0_checkIndex_df160 2 (none) 2 := ⟨by decide, ⟨by decide, by decide, by decide +kernel⟩, gw_402, gw_69⟩
theorem J0_checkIndex_df160_ck (l : Launch) {j n : Int32} (h1 : ¬ j < 0) (h2 : j < n) (q : SQ) : CK shX vwCl KX tfX l yJ0_checkIndex_df160 cJ0_checkIndex_df160 2 (none) 1 22 [.int j, .int n] q none q := by
  refine CK.of mi_J0_checkIndex_df160 (Nat.le_of_ble_eq_true rfl) ?_
  show XX shX vwCl KX tfX l RJ0 cJ0_checkIndex_df160 2 (none) { frames := 1, cells := 0, slots := 0, locals := 22 } (fun r q3 => r = none ∧ q3 = q) 0 [(0, .int j), (1, .int n)] [] q
  refine sx_iload_n dJ0_checkIndex_df160_0 rfl rfl ?_
  refine sx_iload_n dJ0_checkIndex_df160_1 rfl rfl ?_
  refine sx_gets_SF dJ0_checkIndex_df160_2 gw_403 ?_ ?_
  · refine sx_callS (As := [.int j, .int n, .null]) (rest := []) KSX (J3_checkIndex_8e157_ck l h1 h2 .null (by simp) q) mi_J3_checkIndex_8e157 gw_405 rfl gw_406 ⟨Nat.le_of_ble_eq_true rfl, Nat.le_of_ble_eq_true rfl⟩ (Nat.le_of_ble_eq_true rfl) dJ0_checkIndex_df160_5 rfl ?_
    refine sx_pop dJ0_checkIndex_df160_8 rfl ?_
    exact sx_vret dJ0_checkIndex_df160_9 rfl ⟨rfl, rfl⟩
  · refine sx_callS (As := [.int j, .int n, .ref 1020]) (rest := []) KSX (J3_checkIndex_8e157_ck l h1 h2 (.ref 1020) (by simp) q) mi_J3_checkIndex_8e157 gw_405 rfl gw_406 ⟨Nat.le_of_ble_eq_true rfl, Nat.le_of_ble_eq_true rfl⟩ (Nat.le_of_ble_eq_true rfl) dJ0_checkIndex_df160_5 rfl ?_
    refine sx_pop dJ0_checkIndex_df160_8 rfl ?_
    exact sx_vret dJ0_checkIndex_df160_9 rfl ⟨rfl, rfl⟩
def sx_sch (i k : Nat) : Int32 := sx_sb i k &&& 255
theorem sx_slt : ∀ i, i < 6 → sx_stl i < 2 ^ 31 := by decide +kernel
theorem mi_J1_charAt_3b067 : sx_MI yJ1_charAt_3b067 cJ1_charAt_3b067 2 ((some .char)) 2 := ⟨by decide, ⟨by decide, by decide, by decide +kernel⟩, gw_399, gw_70⟩
theorem J1_charAt_3b067_ck (l : Launch) {i : Nat} (hi : i < 6) {j : Int32} (hj : vp_in j (sx_stl i)) (q : SQ) : CK shX vwCl KX tfX l yJ1_charAt_3b067 cJ1_charAt_3b067 2 ((some .char)) 2 43 [.ref (1100 + i), .int j] q (some (.int (sx_sch i j.toNatClampNeg))) q := by
  refine CK.of mi_J1_charAt_3b067 (Nat.le_of_ble_eq_true rfl) ?_
  show XX shX vwCl KX tfX l RJ1 cJ1_charAt_3b067 2 ((some .char)) { frames := 2, cells := 0, slots := 0, locals := 43 } (fun r q3 => r = (some (.int (sx_sch i j.toNatClampNeg))) ∧ q3 = q) 0 [(0, .ref (1100 + i)), (1, .int j)] [] q
  have h1 : ¬ j < 0 := fun z => hj (Or.inl z)
  have h2 : j < nI (sx_stl i) := by
    obtain ⟨k, hk, rfl⟩ := vp_in_of hj (sx_slt i hi)
    exact nI_lt hk (sx_slt i hi)
  refine sx_iload_n dJ1_charAt_3b067_0 rfl rfl ?_
  refine sx_aload_n dJ1_charAt_3b067_1 rfl rfl ?_
  refine sx_kblen dJ1_charAt_3b067_2 hi ?_
  refine sx_callS (As := [.int j, .int (nI (sx_stl i))]) (rest := []) KSX (J0_checkIndex_df160_ck l h1 h2 q) mi_J0_checkIndex_df160 gw_400 rfl gw_401 ⟨Nat.le_of_ble_eq_true rfl, Nat.le_of_ble_eq_true rfl⟩ (Nat.le_of_ble_eq_true rfl) dJ1_charAt_3b067_3 rfl ?_
  refine sx_aload_n dJ1_charAt_3b067_6 rfl rfl ?_
  refine sx_iload_n dJ1_charAt_3b067_7 rfl rfl ?_
  refine sx_kbald dJ1_charAt_3b067_8 hi hj ?_
  refine sx_sipush (v := (255 : Int32)) dJ1_charAt_3b067_9 (by decide) ?_
  refine sx_iand dJ1_charAt_3b067_12 ?_
  refine sx_i2c dJ1_charAt_3b067_13 ?_
  have e : ((sx_sb i j.toNatClampNeg &&& 255).toUInt32 % 65536).toInt32 = sx_sch i j.toNatClampNeg := sc_c2 _
  rw [e]
  exact sx_nret dJ1_charAt_3b067_14 rfl (sc_nar _) ⟨rfl, rfl⟩
theorem mi_J0_charAt_5068e : sx_MI yJ0_charAt_5068e cJ0_charAt_5068e 2 ((some .char)) 1 := ⟨by decide, ⟨by decide, by decide, by decide +kernel⟩, gw_392, gw_69⟩
theorem J0_charAt_5068e_ck (l : Launch) {i : Nat} (hi : i < 6) {j : Int32} (hj : vp_in j (sx_stl i)) (q : SQ) : CK shX vwCl KX tfX l yJ0_charAt_5068e cJ0_charAt_5068e 2 ((some .char)) 3 64 [.ref (1000 + i), .int j] q (some (.int (sx_sch i j.toNatClampNeg))) q := by
  refine CK.of mi_J0_charAt_5068e (Nat.le_of_ble_eq_true rfl) ?_
  show XX shX vwCl KX tfX l RJ0 cJ0_charAt_5068e 2 ((some .char)) { frames := 3, cells := 0, slots := 0, locals := 64 } (fun r q3 => r = (some (.int (sx_sch i j.toNatClampNeg))) ∧ q3 = q) 0 [(0, .ref (1000 + i)), (1, .int j)] [] q
  refine sx_aload_n dJ0_charAt_5068e_0 rfl rfl ?_
  refine sx_callVK (i := i) (As := []) (rest := []) KSX (J0_isLatin1_aae02_ck l hi q) mi_J0_isLatin1_aae02 gw_393 rfl ⟨gw_394, gw_395⟩ hi rfl ⟨Nat.le_of_ble_eq_true rfl, Nat.le_of_ble_eq_true rfl⟩ (Nat.le_of_ble_eq_true rfl) dJ0_charAt_5068e_1 rfl ?_
  refine sx_if_eq (tgt := 16) dJ0_charAt_5068e_4 (by decide) (fun c9 => absurd c9 (by decide)) (fun c9 => ?_)
  refine sx_aload_n dJ0_charAt_5068e_7 rfl rfl ?_
  refine sx_kval dJ0_charAt_5068e_8 hi gw_1132 ?_
  refine sx_iload_n dJ0_charAt_5068e_11 rfl rfl ?_
  refine sx_callS (As := [.ref (1100 + i), .int j]) (rest := []) KSX (J1_charAt_3b067_ck l hi hj q) mi_J1_charAt_3b067 gw_397 rfl gw_398 ⟨Nat.le_of_ble_eq_true rfl, Nat.le_of_ble_eq_true rfl⟩ (Nat.le_of_ble_eq_true rfl) dJ0_charAt_5068e_12 rfl ?_
  exact sx_nret dJ0_charAt_5068e_15 rfl (sc_nar _) ⟨rfl, rfl⟩
theorem sx_strlen {l : Launch} {own : String} {cc : ByteArray} {nL : Nat} {ret : Option FieldType} {R : Room} {Q : Option Value → SQ → Prop} {pc : Nat} {ls : List (Nat × Value)} {st : List Value} {q : SQ} {n i : Nat} (d : decode cc pc = .ok (.invokevirtual n, 3)) (hi : i < 6) (hln : Cond.methodLink own n yJ0_length_8abf5 ∈ GG) (hR : 2 ≤ R.frames ∧ 40 ≤ R.locals) (hcat : (st.map fun v => v.category).sum ≤ 8) (k : XX shX vwCl KX tfX l own cc nL ret R Q (pc + 3) ls (.int (nI (sx_stl i)) :: st) q) : XX shX vwCl KX tfX l own cc nL ret R Q pc ls (.ref (1000 + i) :: st) q :=
  sx_callVK (i := i) (As := []) (rest := st) KSX (J0_length_8abf5_ck l hi q) mi_J0_length_8abf5 hln rfl ⟨gw_380, gw_381⟩ hi rfl hR hcat d rfl k
theorem sx_strchar {l : Launch} {own : String} {cc : ByteArray} {nL : Nat} {ret : Option FieldType} {R : Room} {Q : Option Value → SQ → Prop} {pc : Nat} {ls : List (Nat × Value)} {st : List Value} {q : SQ} {n i : Nat} {j : Int32} (d : decode cc pc = .ok (.invokevirtual n, 3)) (hi : i < 6) (hln : Cond.methodLink own n yJ0_charAt_5068e ∈ GG) (hj : vp_in j (sx_stl i)) (hR : 4 ≤ R.frames ∧ 85 ≤ R.locals) (hcat : (st.map fun v => v.category).sum ≤ 8) (k : XX shX vwCl KX tfX l own cc nL ret R Q (pc + 3) ls (.int (sx_sch i j.toNatClampNeg) :: st) q) : XX shX vwCl KX tfX l own cc nL ret R Q pc ls (.int j :: .ref (1000 + i) :: st) q :=
  sx_callVK (i := i) (As := [.int j]) (rest := st) KSX (J0_charAt_5068e_ck l hi hj q) mi_J0_charAt_5068e hln rfl ⟨gw_390, gw_391⟩ hi rfl hR hcat d rfl k
end
