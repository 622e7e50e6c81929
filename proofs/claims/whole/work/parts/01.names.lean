-- ===== PART A: goes FIRST, ahead of the names: the tables' words, and 'selects' of the private methods out of them =====
/-- a private method of a class that the tables say can be made, by its rows of tables_1 -/
def lw_okq (q : MethodName × Nat) : Prop := (q.1.cls ≠ "java/lang/invoke/MethodHandle" ∧ q.1.cls ≠ "java/lang/invoke/VarHandle") ∧ Cond.instantiable q.1.cls q.2 ∈ tables_1 ∧ Cond.privateMethod q.1 ∈ tables_1 ∧ Cond.instanceMethod q.1 ∈ tables_1
theorem lw_p0 : lw_okq (⟨"FastWhy", "isNoSpot", "(III)Z"⟩, 10) := ⟨⟨by decide +kernel, by decide +kernel⟩, List.mem_of_getElem? (i := 23) (by decide +kernel), List.mem_of_getElem? (i := 558) (by decide +kernel), List.mem_of_getElem? (i := 559) (by decide +kernel)⟩
theorem lw_p1 : lw_okq (⟨"FastWhy", "goAndKeep", "(IIIIIZ)I"⟩, 10) := ⟨⟨by decide +kernel, by decide +kernel⟩, List.mem_of_getElem? (i := 23) (by decide +kernel), List.mem_of_getElem? (i := 565) (by decide +kernel), List.mem_of_getElem? (i := 566) (by decide +kernel)⟩
theorem lw_p2 : lw_okq (⟨"FastWhy$Stepper", "empty", "()V"⟩, 12) := ⟨⟨by decide +kernel, by decide +kernel⟩, List.mem_of_getElem? (i := 223) (by decide +kernel), List.mem_of_getElem? (i := 573) (by decide +kernel), List.mem_of_getElem? (i := 574) (by decide +kernel)⟩
theorem lw_p3 : lw_okq (⟨"FastWhy$Stepper", "begin", "(LFastWhy$Source;III)V"⟩, 12) := ⟨⟨by decide +kernel, by decide +kernel⟩, List.mem_of_getElem? (i := 223) (by decide +kernel), List.mem_of_getElem? (i := 592) (by decide +kernel), List.mem_of_getElem? (i := 593) (by decide +kernel)⟩
theorem lw_p4 : lw_okq (⟨"FastWhy$Stepper", "go", "(I)V"⟩, 12) := ⟨⟨by decide +kernel, by decide +kernel⟩, List.mem_of_getElem? (i := 223) (by decide +kernel), List.mem_of_getElem? (i := 603) (by decide +kernel), List.mem_of_getElem? (i := 604) (by decide +kernel)⟩
theorem lw_p5 : lw_okq (⟨"FastWhy$Stepper", "leap", "(I)I"⟩, 12) := ⟨⟨by decide +kernel, by decide +kernel⟩, List.mem_of_getElem? (i := 223) (by decide +kernel), List.mem_of_getElem? (i := 607) (by decide +kernel), List.mem_of_getElem? (i := 608) (by decide +kernel)⟩
theorem lw_p6 : lw_okq (⟨"FastWhy$Stepper", "work", "(II)I"⟩, 12) := ⟨⟨by decide +kernel, by decide +kernel⟩, List.mem_of_getElem? (i := 223) (by decide +kernel), List.mem_of_getElem? (i := 612) (by decide +kernel), List.mem_of_getElem? (i := 613) (by decide +kernel)⟩
theorem lw_p7 : lw_okq (⟨"FastWhy$Stepper", "touched", "(I)I"⟩, 12) := ⟨⟨by decide +kernel, by decide +kernel⟩, List.mem_of_getElem? (i := 223) (by decide +kernel), List.mem_of_getElem? (i := 616) (by decide +kernel), List.mem_of_getElem? (i := 617) (by decide +kernel)⟩
theorem lw_p8 : lw_okq (⟨"FastWhy$Stepper", "useOwn", "()V"⟩, 12) := ⟨⟨by decide +kernel, by decide +kernel⟩, List.mem_of_getElem? (i := 223) (by decide +kernel), List.mem_of_getElem? (i := 653) (by decide +kernel), List.mem_of_getElem? (i := 654) (by decide +kernel)⟩
theorem lw_p9 : lw_okq (⟨"FastWhy$Ways", "sumsOfSets", "([IIII[I)I"⟩, 3) := ⟨⟨by decide +kernel, by decide +kernel⟩, List.mem_of_getElem? (i := 289) (by decide +kernel), List.mem_of_getElem? (i := 715) (by decide +kernel), List.mem_of_getElem? (i := 716) (by decide +kernel)⟩
theorem lw_p10 : lw_okq (⟨"FastWhy$Ways", "addToEach", "([III)V"⟩, 3) := ⟨⟨by decide +kernel, by decide +kernel⟩, List.mem_of_getElem? (i := 289) (by decide +kernel), List.mem_of_getElem? (i := 719) (by decide +kernel), List.mem_of_getElem? (i := 720) (by decide +kernel)⟩
theorem lw_p11 : lw_okq (⟨"FastWhy$Sitting", "isRare", "(II)Z"⟩, 6) := ⟨⟨by decide +kernel, by decide +kernel⟩, List.mem_of_getElem? (i := 99) (by decide +kernel), List.mem_of_getElem? (i := 749) (by decide +kernel), List.mem_of_getElem? (i := 750) (by decide +kernel)⟩
theorem lw_p12 : lw_okq (⟨"FastWhy$Dating", "farness", "(II)I"⟩, 7) := ⟨⟨by decide +kernel, by decide +kernel⟩, List.mem_of_getElem? (i := 305) (by decide +kernel), List.mem_of_getElem? (i := 775) (by decide +kernel), List.mem_of_getElem? (i := 776) (by decide +kernel)⟩
theorem lw_p13 : lw_okq (⟨"FastWhy$Undoing", "brings", "(I)Z"⟩, 9) := ⟨⟨by decide +kernel, by decide +kernel⟩, List.mem_of_getElem? (i := 337) (by decide +kernel), List.mem_of_getElem? (i := 798) (by decide +kernel), List.mem_of_getElem? (i := 799) (by decide +kernel)⟩
theorem lw_p14 : lw_okq (⟨"FastWhy$Undoing", "holdsFound", "(I)Z"⟩, 9) := ⟨⟨by decide +kernel, by decide +kernel⟩, List.mem_of_getElem? (i := 337) (by decide +kernel), List.mem_of_getElem? (i := 813) (by decide +kernel), List.mem_of_getElem? (i := 814) (by decide +kernel)⟩
theorem lw_p15 : lw_okq (⟨"FastWhy$Fitting", "gatherRuns", "(LFastWhy$Store;I)V"⟩, 9) := ⟨⟨by decide +kernel, by decide +kernel⟩, List.mem_of_getElem? (i := 372) (by decide +kernel), List.mem_of_getElem? (i := 843) (by decide +kernel), List.mem_of_getElem? (i := 844) (by decide +kernel)⟩
def lw_privs_1 : List (MethodName × Nat) := [(⟨"FastWhy", "isNoSpot", "(III)Z"⟩, 10), (⟨"FastWhy", "goAndKeep", "(IIIIIZ)I"⟩, 10), (⟨"FastWhy$Stepper", "empty", "()V"⟩, 12), (⟨"FastWhy$Stepper", "begin", "(LFastWhy$Source;III)V"⟩, 12), (⟨"FastWhy$Stepper", "go", "(I)V"⟩, 12), (⟨"FastWhy$Stepper", "leap", "(I)I"⟩, 12), (⟨"FastWhy$Stepper", "work", "(II)I"⟩, 12), (⟨"FastWhy$Stepper", "touched", "(I)I"⟩, 12), (⟨"FastWhy$Stepper", "useOwn", "()V"⟩, 12), (⟨"FastWhy$Ways", "sumsOfSets", "([IIII[I)I"⟩, 3), (⟨"FastWhy$Ways", "addToEach", "([III)V"⟩, 3), (⟨"FastWhy$Sitting", "isRare", "(II)Z"⟩, 6), (⟨"FastWhy$Dating", "farness", "(II)I"⟩, 7), (⟨"FastWhy$Undoing", "brings", "(I)Z"⟩, 9), (⟨"FastWhy$Undoing", "holdsFound", "(I)Z"⟩, 9), (⟨"FastWhy$Fitting", "gatherRuns", "(LFastWhy$Store;I)V"⟩, 9)]
theorem lw_r1 : ∀ q ∈ lw_privs_1, lw_okq q := List.forall_mem_cons.mpr ⟨lw_p0, List.forall_mem_cons.mpr ⟨lw_p1, List.forall_mem_cons.mpr ⟨lw_p2, List.forall_mem_cons.mpr ⟨lw_p3, List.forall_mem_cons.mpr ⟨lw_p4, List.forall_mem_cons.mpr ⟨lw_p5, List.forall_mem_cons.mpr ⟨lw_p6, List.forall_mem_cons.mpr ⟨lw_p7, List.forall_mem_cons.mpr ⟨lw_p8, List.forall_mem_cons.mpr ⟨lw_p9, List.forall_mem_cons.mpr ⟨lw_p10, List.forall_mem_cons.mpr ⟨lw_p11, List.forall_mem_cons.mpr ⟨lw_p12, List.forall_mem_cons.mpr ⟨lw_p13, List.forall_mem_cons.mpr ⟨lw_p14, List.forall_mem_cons.mpr ⟨lw_p15, fun _ h => absurd h List.not_mem_nil⟩⟩⟩⟩⟩⟩⟩⟩⟩⟩⟩⟩⟩⟩⟩⟩
theorem lw_p16 : lw_okq (⟨"FastWhy$Fitting", "take", "(IIIJ)V"⟩, 9) := ⟨⟨by decide +kernel, by decide +kernel⟩, List.mem_of_getElem? (i := 372) (by decide +kernel), List.mem_of_getElem? (i := 850) (by decide +kernel), List.mem_of_getElem? (i := 851) (by decide +kernel)⟩
theorem lw_p17 : lw_okq (⟨"FastWhy$Fitting", "farness", "(IIIJ)J"⟩, 9) := ⟨⟨by decide +kernel, by decide +kernel⟩, List.mem_of_getElem? (i := 372) (by decide +kernel), List.mem_of_getElem? (i := 854) (by decide +kernel), List.mem_of_getElem? (i := 855) (by decide +kernel)⟩
theorem lw_p18 : lw_okq (⟨"FastWhy$Reader", "value", "(I)J"⟩, 5) := ⟨⟨by decide +kernel, by decide +kernel⟩, List.mem_of_getElem? (i := 408) (by decide +kernel), List.mem_of_getElem? (i := 908) (by decide +kernel), List.mem_of_getElem? (i := 909) (by decide +kernel)⟩
theorem lw_p19 : lw_okq (⟨"FastWhy$Reader", "both", "(I)J"⟩, 5) := ⟨⟨by decide +kernel, by decide +kernel⟩, List.mem_of_getElem? (i := 408) (by decide +kernel), List.mem_of_getElem? (i := 912) (by decide +kernel), List.mem_of_getElem? (i := 913) (by decide +kernel)⟩
theorem lw_p20 : lw_okq (⟨"FastWhy$Reader", "held", "(I)J"⟩, 5) := ⟨⟨by decide +kernel, by decide +kernel⟩, List.mem_of_getElem? (i := 408) (by decide +kernel), List.mem_of_getElem? (i := 916) (by decide +kernel), List.mem_of_getElem? (i := 917) (by decide +kernel)⟩
theorem lw_p21 : lw_okq (⟨"FastWhy$Reader", "sum", "(I)J"⟩, 5) := ⟨⟨by decide +kernel, by decide +kernel⟩, List.mem_of_getElem? (i := 408) (by decide +kernel), List.mem_of_getElem? (i := 920) (by decide +kernel), List.mem_of_getElem? (i := 921) (by decide +kernel)⟩
theorem lw_p22 : lw_okq (⟨"FastWhy$Reader", "term", "(I)J"⟩, 5) := ⟨⟨by decide +kernel, by decide +kernel⟩, List.mem_of_getElem? (i := 408) (by decide +kernel), List.mem_of_getElem? (i := 924) (by decide +kernel), List.mem_of_getElem? (i := 925) (by decide +kernel)⟩
theorem lw_p23 : lw_okq (⟨"FastWhy$Reader", "unit", "(I)J"⟩, 5) := ⟨⟨by decide +kernel, by decide +kernel⟩, List.mem_of_getElem? (i := 408) (by decide +kernel), List.mem_of_getElem? (i := 928) (by decide +kernel), List.mem_of_getElem? (i := 929) (by decide +kernel)⟩
theorem lw_p24 : lw_okq (⟨"FastWhy$Reader", "takes", "(I)Z"⟩, 5) := ⟨⟨by decide +kernel, by decide +kernel⟩, List.mem_of_getElem? (i := 408) (by decide +kernel), List.mem_of_getElem? (i := 932) (by decide +kernel), List.mem_of_getElem? (i := 933) (by decide +kernel)⟩
theorem lw_p25 : lw_okq (⟨"FastWhy$Reader", "ahead", "()I"⟩, 5) := ⟨⟨by decide +kernel, by decide +kernel⟩, List.mem_of_getElem? (i := 408) (by decide +kernel), List.mem_of_getElem? (i := 936) (by decide +kernel), List.mem_of_getElem? (i := 937) (by decide +kernel)⟩
theorem lw_p26 : lw_okq (⟨"FastWhy$Reader", "bare", "(I)J"⟩, 5) := ⟨⟨by decide +kernel, by decide +kernel⟩, List.mem_of_getElem? (i := 408) (by decide +kernel), List.mem_of_getElem? (i := 941) (by decide +kernel), List.mem_of_getElem? (i := 942) (by decide +kernel)⟩
theorem lw_p27 : lw_okq (⟨"FastWhy$Reader", "number", "()J"⟩, 5) := ⟨⟨by decide +kernel, by decide +kernel⟩, List.mem_of_getElem? (i := 408) (by decide +kernel), List.mem_of_getElem? (i := 948) (by decide +kernel), List.mem_of_getElem? (i := 949) (by decide +kernel)⟩
theorem lw_p28 : lw_okq (⟨"FastWhy$Reader", "fail", "(I)J"⟩, 5) := ⟨⟨by decide +kernel, by decide +kernel⟩, List.mem_of_getElem? (i := 408) (by decide +kernel), List.mem_of_getElem? (i := 954) (by decide +kernel), List.mem_of_getElem? (i := 955) (by decide +kernel)⟩
theorem lw_p29 : lw_okq (⟨"FastWhy$Reader", "within", "(I)J"⟩, 5) := ⟨⟨by decide +kernel, by decide +kernel⟩, List.mem_of_getElem? (i := 408) (by decide +kernel), List.mem_of_getElem? (i := 1007) (by decide +kernel), List.mem_of_getElem? (i := 1008) (by decide +kernel)⟩
theorem lw_p30 : lw_okq (⟨"FastWhyModel", "many", "(I)I"⟩, 30) := ⟨⟨by decide +kernel, by decide +kernel⟩, List.mem_of_getElem? (i := 1090) (by decide +kernel), List.mem_of_getElem? (i := 1191) (by decide +kernel), List.mem_of_getElem? (i := 1192) (by decide +kernel)⟩
theorem lw_p31 : lw_okq (⟨"FastWhyModel", "has", "(II)Z"⟩, 30) := ⟨⟨by decide +kernel, by decide +kernel⟩, List.mem_of_getElem? (i := 1090) (by decide +kernel), List.mem_of_getElem? (i := 1199) (by decide +kernel), List.mem_of_getElem? (i := 1200) (by decide +kernel)⟩
def lw_privs_2 : List (MethodName × Nat) := [(⟨"FastWhy$Fitting", "take", "(IIIJ)V"⟩, 9), (⟨"FastWhy$Fitting", "farness", "(IIIJ)J"⟩, 9), (⟨"FastWhy$Reader", "value", "(I)J"⟩, 5), (⟨"FastWhy$Reader", "both", "(I)J"⟩, 5), (⟨"FastWhy$Reader", "held", "(I)J"⟩, 5), (⟨"FastWhy$Reader", "sum", "(I)J"⟩, 5), (⟨"FastWhy$Reader", "term", "(I)J"⟩, 5), (⟨"FastWhy$Reader", "unit", "(I)J"⟩, 5), (⟨"FastWhy$Reader", "takes", "(I)Z"⟩, 5), (⟨"FastWhy$Reader", "ahead", "()I"⟩, 5), (⟨"FastWhy$Reader", "bare", "(I)J"⟩, 5), (⟨"FastWhy$Reader", "number", "()J"⟩, 5), (⟨"FastWhy$Reader", "fail", "(I)J"⟩, 5), (⟨"FastWhy$Reader", "within", "(I)J"⟩, 5), (⟨"FastWhyModel", "many", "(I)I"⟩, 30), (⟨"FastWhyModel", "has", "(II)Z"⟩, 30)]
theorem lw_r2 : ∀ q ∈ lw_privs_2, lw_okq q := List.forall_mem_cons.mpr ⟨lw_p16, List.forall_mem_cons.mpr ⟨lw_p17, List.forall_mem_cons.mpr ⟨lw_p18, List.forall_mem_cons.mpr ⟨lw_p19, List.forall_mem_cons.mpr ⟨lw_p20, List.forall_mem_cons.mpr ⟨lw_p21, List.forall_mem_cons.mpr ⟨lw_p22, List.forall_mem_cons.mpr ⟨lw_p23, List.forall_mem_cons.mpr ⟨lw_p24, List.forall_mem_cons.mpr ⟨lw_p25, List.forall_mem_cons.mpr ⟨lw_p26, List.forall_mem_cons.mpr ⟨lw_p27, List.forall_mem_cons.mpr ⟨lw_p28, List.forall_mem_cons.mpr ⟨lw_p29, List.forall_mem_cons.mpr ⟨lw_p30, List.forall_mem_cons.mpr ⟨lw_p31, fun _ h => absurd h List.not_mem_nil⟩⟩⟩⟩⟩⟩⟩⟩⟩⟩⟩⟩⟩⟩⟩⟩
theorem lw_p32 : lw_okq (⟨"FastWhyModel", "put", "(IIIII)V"⟩, 30) := ⟨⟨by decide +kernel, by decide +kernel⟩, List.mem_of_getElem? (i := 1090) (by decide +kernel), List.mem_of_getElem? (i := 1213) (by decide +kernel), List.mem_of_getElem? (i := 1214) (by decide +kernel)⟩
theorem lw_p33 : lw_okq (⟨"FastWhyModel", "isThere", "(III)Z"⟩, 30) := ⟨⟨by decide +kernel, by decide +kernel⟩, List.mem_of_getElem? (i := 1090) (by decide +kernel), List.mem_of_getElem? (i := 1262) (by decide +kernel), List.mem_of_getElem? (i := 1263) (by decide +kernel)⟩
theorem lw_p34 : lw_okq (⟨"FastWhyModel", "keepRun", "(IIIIIZ)V"⟩, 30) := ⟨⟨by decide +kernel, by decide +kernel⟩, List.mem_of_getElem? (i := 1090) (by decide +kernel), List.mem_of_getElem? (i := 1267) (by decide +kernel), List.mem_of_getElem? (i := 1268) (by decide +kernel)⟩
theorem lw_p35 : lw_okq (⟨"FastWhyModel", "fetch", "(IZ)V"⟩, 30) := ⟨⟨by decide +kernel, by decide +kernel⟩, List.mem_of_getElem? (i := 1090) (by decide +kernel), List.mem_of_getElem? (i := 1271) (by decide +kernel), List.mem_of_getElem? (i := 1272) (by decide +kernel)⟩
theorem lw_p36 : lw_okq (⟨"FastWhyModel", "empty", "()V"⟩, 30) := ⟨⟨by decide +kernel, by decide +kernel⟩, List.mem_of_getElem? (i := 1090) (by decide +kernel), List.mem_of_getElem? (i := 1275) (by decide +kernel), List.mem_of_getElem? (i := 1276) (by decide +kernel)⟩
theorem lw_p37 : lw_okq (⟨"FastWhyModel", "goesBy", "(IIIII)V"⟩, 30) := ⟨⟨by decide +kernel, by decide +kernel⟩, List.mem_of_getElem? (i := 1090) (by decide +kernel), List.mem_of_getElem? (i := 1279) (by decide +kernel), List.mem_of_getElem? (i := 1280) (by decide +kernel)⟩
theorem lw_p38 : lw_okq (⟨"FastWhyModel", "assemble", "(II)V"⟩, 30) := ⟨⟨by decide +kernel, by decide +kernel⟩, List.mem_of_getElem? (i := 1090) (by decide +kernel), List.mem_of_getElem? (i := 1284) (by decide +kernel), List.mem_of_getElem? (i := 1285) (by decide +kernel)⟩
theorem lw_p39 : lw_okq (⟨"FastWhyModel", "bits", "(I)I"⟩, 30) := ⟨⟨by decide +kernel, by decide +kernel⟩, List.mem_of_getElem? (i := 1090) (by decide +kernel), List.mem_of_getElem? (i := 1288) (by decide +kernel), List.mem_of_getElem? (i := 1289) (by decide +kernel)⟩
theorem lw_p40 : lw_okq (⟨"FastWhyModel", "goes", "(III)V"⟩, 30) := ⟨⟨by decide +kernel, by decide +kernel⟩, List.mem_of_getElem? (i := 1090) (by decide +kernel), List.mem_of_getElem? (i := 1292) (by decide +kernel), List.mem_of_getElem? (i := 1293) (by decide +kernel)⟩
theorem lw_p41 : lw_okq (⟨"FastWhyModel", "step", "(III)I"⟩, 30) := ⟨⟨by decide +kernel, by decide +kernel⟩, List.mem_of_getElem? (i := 1090) (by decide +kernel), List.mem_of_getElem? (i := 1296) (by decide +kernel), List.mem_of_getElem? (i := 1297) (by decide +kernel)⟩
theorem lw_p42 : lw_okq (⟨"FastWhyModel", "touch", "(III)V"⟩, 30) := ⟨⟨by decide +kernel, by decide +kernel⟩, List.mem_of_getElem? (i := 1090) (by decide +kernel), List.mem_of_getElem? (i := 1300) (by decide +kernel), List.mem_of_getElem? (i := 1301) (by decide +kernel)⟩
theorem lw_p43 : lw_okq (⟨"FastWhyModel", "goesPlain", "(IIII)V"⟩, 30) := ⟨⟨by decide +kernel, by decide +kernel⟩, List.mem_of_getElem? (i := 1090) (by decide +kernel), List.mem_of_getElem? (i := 1315) (by decide +kernel), List.mem_of_getElem? (i := 1316) (by decide +kernel)⟩
theorem lw_p44 : lw_okq (⟨"FastWhyModel", "sortRuns", "(IIII)V"⟩, 30) := ⟨⟨by decide +kernel, by decide +kernel⟩, List.mem_of_getElem? (i := 1090) (by decide +kernel), List.mem_of_getElem? (i := 1323) (by decide +kernel), List.mem_of_getElem? (i := 1324) (by decide +kernel)⟩
theorem lw_p45 : lw_okq (⟨"FastWhyModel", "sortIn", "(I)V"⟩, 30) := ⟨⟨by decide +kernel, by decide +kernel⟩, List.mem_of_getElem? (i := 1090) (by decide +kernel), List.mem_of_getElem? (i := 1327) (by decide +kernel), List.mem_of_getElem? (i := 1328) (by decide +kernel)⟩
theorem lw_p46 : lw_okq (⟨"FastWhyModel", "middle", "()I"⟩, 30) := ⟨⟨by decide +kernel, by decide +kernel⟩, List.mem_of_getElem? (i := 1090) (by decide +kernel), List.mem_of_getElem? (i := 1331) (by decide +kernel), List.mem_of_getElem? (i := 1332) (by decide +kernel)⟩
theorem lw_p47 : lw_okq (⟨"FastWhyModel", "oddsOf", "(IZ)I"⟩, 30) := ⟨⟨by decide +kernel, by decide +kernel⟩, List.mem_of_getElem? (i := 1090) (by decide +kernel), List.mem_of_getElem? (i := 1352) (by decide +kernel), List.mem_of_getElem? (i := 1353) (by decide +kernel)⟩
def lw_privs_3 : List (MethodName × Nat) := [(⟨"FastWhyModel", "put", "(IIIII)V"⟩, 30), (⟨"FastWhyModel", "isThere", "(III)Z"⟩, 30), (⟨"FastWhyModel", "keepRun", "(IIIIIZ)V"⟩, 30), (⟨"FastWhyModel", "fetch", "(IZ)V"⟩, 30), (⟨"FastWhyModel", "empty", "()V"⟩, 30), (⟨"FastWhyModel", "goesBy", "(IIIII)V"⟩, 30), (⟨"FastWhyModel", "assemble", "(II)V"⟩, 30), (⟨"FastWhyModel", "bits", "(I)I"⟩, 30), (⟨"FastWhyModel", "goes", "(III)V"⟩, 30), (⟨"FastWhyModel", "step", "(III)I"⟩, 30), (⟨"FastWhyModel", "touch", "(III)V"⟩, 30), (⟨"FastWhyModel", "goesPlain", "(IIII)V"⟩, 30), (⟨"FastWhyModel", "sortRuns", "(IIII)V"⟩, 30), (⟨"FastWhyModel", "sortIn", "(I)V"⟩, 30), (⟨"FastWhyModel", "middle", "()I"⟩, 30), (⟨"FastWhyModel", "oddsOf", "(IZ)I"⟩, 30)]
theorem lw_r3 : ∀ q ∈ lw_privs_3, lw_okq q := List.forall_mem_cons.mpr ⟨lw_p32, List.forall_mem_cons.mpr ⟨lw_p33, List.forall_mem_cons.mpr ⟨lw_p34, List.forall_mem_cons.mpr ⟨lw_p35, List.forall_mem_cons.mpr ⟨lw_p36, List.forall_mem_cons.mpr ⟨lw_p37, List.forall_mem_cons.mpr ⟨lw_p38, List.forall_mem_cons.mpr ⟨lw_p39, List.forall_mem_cons.mpr ⟨lw_p40, List.forall_mem_cons.mpr ⟨lw_p41, List.forall_mem_cons.mpr ⟨lw_p42, List.forall_mem_cons.mpr ⟨lw_p43, List.forall_mem_cons.mpr ⟨lw_p44, List.forall_mem_cons.mpr ⟨lw_p45, List.forall_mem_cons.mpr ⟨lw_p46, List.forall_mem_cons.mpr ⟨lw_p47, fun _ h => absurd h List.not_mem_nil⟩⟩⟩⟩⟩⟩⟩⟩⟩⟩⟩⟩⟩⟩⟩⟩
theorem lw_p48 : lw_okq (⟨"FastWhyModel", "farOf", "(II)I"⟩, 30) := ⟨⟨by decide +kernel, by decide +kernel⟩, List.mem_of_getElem? (i := 1090) (by decide +kernel), List.mem_of_getElem? (i := 1375) (by decide +kernel), List.mem_of_getElem? (i := 1376) (by decide +kernel)⟩
theorem lw_p49 : lw_okq (⟨"FastWhyModel", "isOf", "(II)Z"⟩, 30) := ⟨⟨by decide +kernel, by decide +kernel⟩, List.mem_of_getElem? (i := 1090) (by decide +kernel), List.mem_of_getElem? (i := 1392) (by decide +kernel), List.mem_of_getElem? (i := 1393) (by decide +kernel)⟩
theorem lw_p50 : lw_okq (⟨"FastWhyModel", "fitAll", "(IIII)V"⟩, 30) := ⟨⟨by decide +kernel, by decide +kernel⟩, List.mem_of_getElem? (i := 1090) (by decide +kernel), List.mem_of_getElem? (i := 1408) (by decide +kernel), List.mem_of_getElem? (i := 1409) (by decide +kernel)⟩
theorem lw_p51 : lw_okq (⟨"FastWhyModel", "made", "(IIIIIII)J"⟩, 30) := ⟨⟨by decide +kernel, by decide +kernel⟩, List.mem_of_getElem? (i := 1090) (by decide +kernel), List.mem_of_getElem? (i := 1413) (by decide +kernel), List.mem_of_getElem? (i := 1414) (by decide +kernel)⟩
theorem lw_p52 : lw_okq (⟨"FastWhyModel", "reads", "()Z"⟩, 30) := ⟨⟨by decide +kernel, by decide +kernel⟩, List.mem_of_getElem? (i := 1090) (by decide +kernel), List.mem_of_getElem? (i := 1444) (by decide +kernel), List.mem_of_getElem? (i := 1445) (by decide +kernel)⟩
theorem lw_p53 : lw_okq (⟨"FastWhyModel", "ahead", "()I"⟩, 30) := ⟨⟨by decide +kernel, by decide +kernel⟩, List.mem_of_getElem? (i := 1090) (by decide +kernel), List.mem_of_getElem? (i := 1448) (by decide +kernel), List.mem_of_getElem? (i := 1449) (by decide +kernel)⟩
theorem lw_p54 : lw_okq (⟨"FastWhyModel", "digits", "()J"⟩, 30) := ⟨⟨by decide +kernel, by decide +kernel⟩, List.mem_of_getElem? (i := 1090) (by decide +kernel), List.mem_of_getElem? (i := 1454) (by decide +kernel), List.mem_of_getElem? (i := 1455) (by decide +kernel)⟩
theorem lw_p55 : lw_okq (⟨"FastWhyModel", "stands", "(J)V"⟩, 30) := ⟨⟨by decide +kernel, by decide +kernel⟩, List.mem_of_getElem? (i := 1090) (by decide +kernel), List.mem_of_getElem? (i := 1459) (by decide +kernel), List.mem_of_getElem? (i := 1460) (by decide +kernel)⟩
theorem lw_p56 : lw_okq (⟨"FastWhyModel", "nameOf", "(I)I"⟩, 30) := ⟨⟨by decide +kernel, by decide +kernel⟩, List.mem_of_getElem? (i := 1090) (by decide +kernel), List.mem_of_getElem? (i := 1463) (by decide +kernel), List.mem_of_getElem? (i := 1464) (by decide +kernel)⟩
theorem lw_p57 : lw_okq (⟨"FastWhyModel", "worksDown", "(I)V"⟩, 30) := ⟨⟨by decide +kernel, by decide +kernel⟩, List.mem_of_getElem? (i := 1090) (by decide +kernel), List.mem_of_getElem? (i := 1467) (by decide +kernel), List.mem_of_getElem? (i := 1468) (by decide +kernel)⟩
theorem lw_p58 : lw_okq (⟨"FastWhyModel", "works", "()V"⟩, 30) := ⟨⟨by decide +kernel, by decide +kernel⟩, List.mem_of_getElem? (i := 1090) (by decide +kernel), List.mem_of_getElem? (i := 1474) (by decide +kernel), List.mem_of_getElem? (i := 1475) (by decide +kernel)⟩
theorem lw_p59 : lw_okq (⟨"FastWhyModel", "sums", "(JII)J"⟩, 30) := ⟨⟨by decide +kernel, by decide +kernel⟩, List.mem_of_getElem? (i := 1090) (by decide +kernel), List.mem_of_getElem? (i := 1510) (by decide +kernel), List.mem_of_getElem? (i := 1511) (by decide +kernel)⟩
def lw_privs_4 : List (MethodName × Nat) := [(⟨"FastWhyModel", "farOf", "(II)I"⟩, 30), (⟨"FastWhyModel", "isOf", "(II)Z"⟩, 30), (⟨"FastWhyModel", "fitAll", "(IIII)V"⟩, 30), (⟨"FastWhyModel", "made", "(IIIIIII)J"⟩, 30), (⟨"FastWhyModel", "reads", "()Z"⟩, 30), (⟨"FastWhyModel", "ahead", "()I"⟩, 30), (⟨"FastWhyModel", "digits", "()J"⟩, 30), (⟨"FastWhyModel", "stands", "(J)V"⟩, 30), (⟨"FastWhyModel", "nameOf", "(I)I"⟩, 30), (⟨"FastWhyModel", "worksDown", "(I)V"⟩, 30), (⟨"FastWhyModel", "works", "()V"⟩, 30), (⟨"FastWhyModel", "sums", "(JII)J"⟩, 30)]
theorem lw_r4 : ∀ q ∈ lw_privs_4, lw_okq q := List.forall_mem_cons.mpr ⟨lw_p48, List.forall_mem_cons.mpr ⟨lw_p49, List.forall_mem_cons.mpr ⟨lw_p50, List.forall_mem_cons.mpr ⟨lw_p51, List.forall_mem_cons.mpr ⟨lw_p52, List.forall_mem_cons.mpr ⟨lw_p53, List.forall_mem_cons.mpr ⟨lw_p54, List.forall_mem_cons.mpr ⟨lw_p55, List.forall_mem_cons.mpr ⟨lw_p56, List.forall_mem_cons.mpr ⟨lw_p57, List.forall_mem_cons.mpr ⟨lw_p58, List.forall_mem_cons.mpr ⟨lw_p59, fun _ h => absurd h List.not_mem_nil⟩⟩⟩⟩⟩⟩⟩⟩⟩⟩⟩⟩
def lw_privs : List (MethodName × Nat) := lw_privs_1 ++ (lw_privs_2 ++ (lw_privs_3 ++ (lw_privs_4)))
def lw_tbl : List Cond := k2_sels lw_privs ++ tables_1
theorem lw_privs_ok : ∀ q ∈ lw_privs, lw_okq q := by
  show ∀ q ∈ lw_privs_1 ++ (lw_privs_2 ++ (lw_privs_3 ++ (lw_privs_4))), lw_okq q
  exact List.forall_mem_append.mpr ⟨lw_r1, List.forall_mem_append.mpr ⟨lw_r2, List.forall_mem_append.mpr ⟨lw_r3, lw_r4⟩⟩⟩
def RX0 : String := "FastWhy$Bag"
def TX0 : u_T := fun k => match k with
  | 0 => ("FastWhy$Bag", "numbers", "[I", true)
  | _ => ("FastWhy$Bag", "size", "I", false)
def tyX0 : Nat → FieldType := fun k => match k with
  | 0 => .array .int
  | _ => .int
abbrev wsX00 : List Cond := u_ws RX0 TX0 2
theorem nmX0 : ∀ a, a < 2 → ∀ b, b < 2 → a ≠ b → (TX0 a).2.1 ≠ (TX0 b).2.1 := by decide +kernel
theorem tyX0_ok : ∀ k, k < 2 → parseFieldDescriptor (TX0 k).2.2.1 = some (tyX0 k) := by decide +kernel
abbrev cX0_init : ByteArray := prog_2_method_1_code
def yX0_init : MethodName := ⟨RX0, "<init>", "()V"⟩
abbrev cX0_clear : ByteArray := prog_2_method_2_code
def yX0_clear : MethodName := ⟨RX0, "clear", "()V"⟩
abbrev cX0_add : ByteArray := prog_2_method_3_code
def yX0_add : MethodName := ⟨RX0, "add", "(I)V"⟩
abbrev cX0_least : ByteArray := prog_2_method_4_code
def yX0_least : MethodName := ⟨RX0, "least", "()I"⟩
abbrev cX0_greatest : ByteArray := prog_2_method_5_code
def yX0_greatest : MethodName := ⟨RX0, "greatest", "()I"⟩
abbrev cX0_middle : ByteArray := prog_2_method_6_code
def yX0_middle : MethodName := ⟨RX0, "middle", "()I"⟩
def RX1 : String := "FastWhy$Dating"
def TX1 : u_T := fun k => match k with
  | 0 => ("FastWhy$Dating", "build", "I", false)
  | 1 => ("FastWhy$Dating", "cost", "I", false)
  | 2 => ("FastWhy$Dating", "builds", "[I", true)
  | 3 => ("FastWhy$Dating", "middles", "[I", true)
  | 4 => ("FastWhy$Dating", "costs", "[I", true)
  | 5 => ("FastWhy$Dating", "size", "I", false)
  | _ => ("FastWhy$Dating", "bag", "LFastWhy$Bag;", true)
def tyX1 : Nat → FieldType := fun k => match k with
  | 0 => .int
  | 1 => .int
  | 2 => .array .int
  | 3 => .array .int
  | 4 => .array .int
  | 5 => .int
  | _ => .object "FastWhy$Bag"
abbrev wsX10 : List Cond := u_ws RX1 TX1 7
theorem nmX1 : ∀ a, a < 7 → ∀ b, b < 7 → a ≠ b → (TX1 a).2.1 ≠ (TX1 b).2.1 := by decide +kernel
theorem tyX1_ok : ∀ k, k < 7 → parseFieldDescriptor (TX1 k).2.2.1 = some (tyX1 k) := by decide +kernel
abbrev cX1_init : ByteArray := prog_3_method_1_code
def yX1_init : MethodName := ⟨RX1, "<init>", "()V"⟩
abbrev cX1_gather : ByteArray := prog_3_method_2_code
def yX1_gather : MethodName := ⟨RX1, "gather", "(LFastWhy$Store;IIII)V"⟩
abbrev cX1_find : ByteArray := prog_3_method_3_code
def yX1_find : MethodName := ⟨RX1, "find", "()Z"⟩
abbrev cX1_couldBe : ByteArray := prog_3_method_4_code
def yX1_couldBe : MethodName := ⟨RX1, "couldBe", "(I)I"⟩
abbrev cX1_farness : ByteArray := prog_3_method_5_code
def yX1_farness : MethodName := ⟨RX1, "farness", "(II)I"⟩
def RX2 : String := "FastWhy$Fitting"
def TX2 : u_T := fun k => match k with
  | 0 => ("FastWhy$Fitting", "costs", "[I", true)
  | 1 => ("FastWhy$Fitting", "sum", "J", false)
  | 2 => ("FastWhy$Fitting", "asked", "[I", true)
  | 3 => ("FastWhy$Fitting", "runs", "[I", true)
  | 4 => ("FastWhy$Fitting", "firsts", "[I", true)
  | 5 => ("FastWhy$Fitting", "seconds", "[I", true)
  | 6 => ("FastWhy$Fitting", "thirds", "[I", true)
  | 7 => ("FastWhy$Fitting", "times", "[I", true)
  | _ => ("FastWhy$Fitting", "size", "I", false)
def tyX2 : Nat → FieldType := fun k => match k with
  | 0 => .array .int
  | 1 => .long
  | 2 => .array .int
  | 3 => .array .int
  | 4 => .array .int
  | 5 => .array .int
  | 6 => .array .int
  | 7 => .array .int
  | _ => .int
abbrev wsX20 : List Cond := u_ws RX2 TX2 9
theorem nmX2 : ∀ a, a < 9 → ∀ b, b < 9 → a ≠ b → (TX2 a).2.1 ≠ (TX2 b).2.1 := by decide +kernel
theorem tyX2_ok : ∀ k, k < 9 → parseFieldDescriptor (TX2 k).2.2.1 = some (tyX2 k) := by decide +kernel
abbrev cX2_init : ByteArray := prog_4_method_1_code
def yX2_init : MethodName := ⟨RX2, "<init>", "()V"⟩
abbrev cX2_find : ByteArray := prog_4_method_2_code
def yX2_find : MethodName := ⟨RX2, "find", "(LFastWhy$Store;IIII)V"⟩
abbrev cX2_made : ByteArray := prog_4_method_3_code
def yX2_made : MethodName := ⟨RX2, "made", "(III)I"⟩
abbrev cX2_farthest : ByteArray := prog_4_method_4_code
def yX2_farthest : MethodName := ⟨RX2, "farthest", "()I"⟩
abbrev cX2_gatherMisses : ByteArray := prog_4_method_5_code
def yX2_gatherMisses : MethodName := ⟨RX2, "gatherMisses", "(LFastWhy$Store;ILFastWhy$Bag;)V"⟩
abbrev cX2_gatherRuns : ByteArray := prog_4_method_6_code
def yX2_gatherRuns : MethodName := ⟨RX2, "gatherRuns", "(LFastWhy$Store;I)V"⟩
abbrev cX2_take : ByteArray := prog_4_method_7_code
def yX2_take : MethodName := ⟨RX2, "take", "(IIIJ)V"⟩
abbrev cX2_farness : ByteArray := prog_4_method_8_code
def yX2_farness : MethodName := ⟨RX2, "farness", "(IIIJ)J"⟩
def RX3 : String := "FastWhy$Machine"
def TX3 : u_T := fun k => match k with
  | 0 => ("FastWhy$Machine", "prices", "[I", true)
  | 1 => ("FastWhy$Machine", "lines", "I", false)
  | 2 => ("FastWhy$Machine", "wide", "I", false)
  | 3 => ("FastWhy$Machine", "miss", "I", false)
  | 4 => ("FastWhy$Machine", "rooms", "[I", true)
  | 5 => ("FastWhy$Machine", "guessMany", "I", false)
  | 6 => ("FastWhy$Machine", "wrong", "I", false)
  | 7 => ("FastWhy$Machine", "guesses", "[I", true)
  | 8 => ("FastWhy$Machine", "drift", "I", false)
  | 9 => ("FastWhy$Machine", "burst", "I", false)
  | 10 => ("FastWhy$Machine", "oneOf", "I", false)
  | _ => ("FastWhy$Machine", "places", "Z", false)
def tyX3 : Nat → FieldType := fun k => match k with
  | 0 => .array .int
  | 1 => .int
  | 2 => .int
  | 3 => .int
  | 4 => .array .int
  | 5 => .int
  | 6 => .int
  | 7 => .array .int
  | 8 => .int
  | 9 => .int
  | 10 => .int
  | _ => .boolean
abbrev wsX30 : List Cond := u_ws RX3 TX3 12
theorem nmX3 : ∀ a, a < 12 → ∀ b, b < 12 → a ≠ b → (TX3 a).2.1 ≠ (TX3 b).2.1 := by decide +kernel
theorem tyX3_ok : ∀ k, k < 12 → parseFieldDescriptor (TX3 k).2.2.1 = some (tyX3 k) := by decide +kernel
abbrev cX3_init : ByteArray := prog_5_method_1_code
def yX3_init : MethodName := ⟨RX3, "<init>", "()V"⟩
abbrev cX3_takeFrom : ByteArray := prog_5_method_2_code
def yX3_takeFrom : MethodName := ⟨RX3, "takeFrom", "(LFastWhy$Machine;)V"⟩
abbrev cX3_tellCache : ByteArray := prog_5_method_3_code
def yX3_tellCache : MethodName := ⟨RX3, "tellCache", "(III)V"⟩
abbrev cX3_tellGuesses : ByteArray := prog_5_method_4_code
def yX3_tellGuesses : MethodName := ⟨RX3, "tellGuesses", "(II)V"⟩
abbrev cX3_tellNoise : ByteArray := prog_5_method_5_code
def yX3_tellNoise : MethodName := ⟨RX3, "tellNoise", "(IIIZ)V"⟩
abbrev cX3_placeBy : ByteArray := prog_5_method_6_code
def yX3_placeBy : MethodName := ⟨RX3, "placeBy", "(I)I"⟩
abbrev cX3_noiseBy : ByteArray := prog_5_method_7_code
def yX3_noiseBy : MethodName := ⟨RX3, "noiseBy", "(II)I"⟩
abbrev cX3_drawn : ByteArray := prog_5_method_8_code
def yX3_drawn : MethodName := ⟨RX3, "drawn", "(I)I"⟩
abbrev cX3_highBits : ByteArray := prog_5_method_9_code
def yX3_highBits : MethodName := ⟨RX3, "highBits", "(I)I"⟩
def RX4 : String := "FastWhy$Reader"
def TX4 : u_T := fun k => match k with
  | 0 => ("FastWhy$Reader", "fault", "I", false)
  | 1 => ("FastWhy$Reader", "text", "[I", true)
  | 2 => ("FastWhy$Reader", "size", "I", false)
  | 3 => ("FastWhy$Reader", "place", "I", false)
  | _ => ("FastWhy$Reader", "known", "[J", true)
def tyX4 : Nat → FieldType := fun k => match k with
  | 0 => .int
  | 1 => .array .int
  | 2 => .int
  | 3 => .int
  | _ => .array .long
abbrev wsX40 : List Cond := u_ws RX4 TX4 5
theorem nmX4 : ∀ a, a < 5 → ∀ b, b < 5 → a ≠ b → (TX4 a).2.1 ≠ (TX4 b).2.1 := by decide +kernel
theorem tyX4_ok : ∀ k, k < 5 → parseFieldDescriptor (TX4 k).2.2.1 = some (tyX4 k) := by decide +kernel
abbrev cX4_init : ByteArray := prog_6_method_1_code
def yX4_init : MethodName := ⟨RX4, "<init>", "()V"⟩
abbrev cX4_know : ByteArray := prog_6_method_2_code
def yX4_know : MethodName := ⟨RX4, "know", "(LFastWhy$Bag;II)V"⟩
abbrev cX4_work : ByteArray := prog_6_method_3_code
def yX4_work : MethodName := ⟨RX4, "work", "([II)J"⟩
abbrev cX4_value : ByteArray := prog_6_method_4_code
def yX4_value : MethodName := ⟨RX4, "value", "(I)J"⟩
abbrev cX4_both : ByteArray := prog_6_method_5_code
def yX4_both : MethodName := ⟨RX4, "both", "(I)J"⟩
abbrev cX4_held : ByteArray := prog_6_method_6_code
def yX4_held : MethodName := ⟨RX4, "held", "(I)J"⟩
abbrev cX4_sum : ByteArray := prog_6_method_7_code
def yX4_sum : MethodName := ⟨RX4, "sum", "(I)J"⟩
abbrev cX4_term : ByteArray := prog_6_method_8_code
def yX4_term : MethodName := ⟨RX4, "term", "(I)J"⟩
abbrev cX4_unit : ByteArray := prog_6_method_9_code
def yX4_unit : MethodName := ⟨RX4, "unit", "(I)J"⟩
abbrev cX4_bare : ByteArray := prog_6_method_10_code
def yX4_bare : MethodName := ⟨RX4, "bare", "(I)J"⟩
abbrev cX4_within : ByteArray := prog_6_method_11_code
def yX4_within : MethodName := ⟨RX4, "within", "(I)J"⟩
abbrev cX4_number : ByteArray := prog_6_method_12_code
def yX4_number : MethodName := ⟨RX4, "number", "()J"⟩
abbrev cX4_takes : ByteArray := prog_6_method_13_code
def yX4_takes : MethodName := ⟨RX4, "takes", "(I)Z"⟩
abbrev cX4_ahead : ByteArray := prog_6_method_14_code
def yX4_ahead : MethodName := ⟨RX4, "ahead", "()I"⟩
abbrev cX4_fail : ByteArray := prog_6_method_15_code
def yX4_fail : MethodName := ⟨RX4, "fail", "(I)J"⟩
abbrev cX4_isDigit : ByteArray := prog_6_method_16_code
def yX4_isDigit : MethodName := ⟨RX4, "isDigit", "(I)Z"⟩
abbrev cX4_truth : ByteArray := prog_6_method_17_code
def yX4_truth : MethodName := ⟨RX4, "truth", "(Z)J"⟩
def RX5 : String := "FastWhy$Sitting"
def TX5 : u_T := fun k => match k with
  | 0 => ("FastWhy$Sitting", "differences", "[I", true)
  | 1 => ("FastWhy$Sitting", "size", "I", false)
  | 2 => ("FastWhy$Sitting", "lookAt", "[I", true)
  | 3 => ("FastWhy$Sitting", "looks", "I", false)
  | 4 => ("FastWhy$Sitting", "o", "I", false)
  | _ => ("FastWhy$Sitting", "span", "I", false)
def tyX5 : Nat → FieldType := fun k => match k with
  | 0 => .array .int
  | 1 => .int
  | 2 => .array .int
  | 3 => .int
  | 4 => .int
  | _ => .int
abbrev wsX50 : List Cond := u_ws RX5 TX5 6
theorem nmX5 : ∀ a, a < 6 → ∀ b, b < 6 → a ≠ b → (TX5 a).2.1 ≠ (TX5 b).2.1 := by decide +kernel
theorem tyX5_ok : ∀ k, k < 6 → parseFieldDescriptor (TX5 k).2.2.1 = some (tyX5 k) := by decide +kernel
abbrev cX5_init : ByteArray := prog_7_method_1_code
def yX5_init : MethodName := ⟨RX5, "<init>", "()V"⟩
abbrev cX5_takeFrom : ByteArray := prog_7_method_2_code
def yX5_takeFrom : MethodName := ⟨RX5, "takeFrom", "(LFastWhy$Sitting;)V"⟩
abbrev cX5_add : ByteArray := prog_7_method_3_code
def yX5_add : MethodName := ⟨RX5, "add", "(I)V"⟩
abbrev cX5_lastLook : ByteArray := prog_7_method_4_code
def yX5_lastLook : MethodName := ⟨RX5, "lastLook", "()I"⟩
abbrev cX5_addLook : ByteArray := prog_7_method_5_code
def yX5_addLook : MethodName := ⟨RX5, "addLook", "(I)I"⟩
abbrev cX5_judge : ByteArray := prog_7_method_6_code
def yX5_judge : MethodName := ⟨RX5, "judge", "(LFastWhy$Ways;LFastWhy$Bag;)I"⟩
abbrev cX5_isRare : ByteArray := prog_7_method_7_code
def yX5_isRare : MethodName := ⟨RX5, "isRare", "(II)Z"⟩
def RX6 : String := "FastWhy$Source"
def TX6 : u_T := fun k => match k with
  | 0 => ("FastWhy$Source", "programs", "I", false)
  | 1 => ("FastWhy$Source", "sizes", "[I", true)
  | 2 => ("FastWhy$Source", "lines", "[I", true)
  | 3 => ("FastWhy$Source", "changes", "I", false)
  | 4 => ("FastWhy$Source", "changeProgram", "[I", true)
  | 5 => ("FastWhy$Source", "changeLine", "[I", true)
  | 6 => ("FastWhy$Source", "changed", "[I", true)
  | 7 => ("FastWhy$Source", "builds", "I", false)
  | 8 => ("FastWhy$Source", "buildProgram", "[I", true)
  | 9 => ("FastWhy$Source", "buildChanges", "[I", true)
  | 10 => ("FastWhy$Source", "settings", "I", false)
  | _ => ("FastWhy$Source", "values", "[I", true)
def tyX6 : Nat → FieldType := fun k => match k with
  | 0 => .int
  | 1 => .array .int
  | 2 => .array .int
  | 3 => .int
  | 4 => .array .int
  | 5 => .array .int
  | 6 => .array .int
  | 7 => .int
  | 8 => .array .int
  | 9 => .array .int
  | 10 => .int
  | _ => .array .int
abbrev wsX60 : List Cond := u_ws RX6 TX6 12
theorem nmX6 : ∀ a, a < 12 → ∀ b, b < 12 → a ≠ b → (TX6 a).2.1 ≠ (TX6 b).2.1 := by decide +kernel
theorem tyX6_ok : ∀ k, k < 12 → parseFieldDescriptor (TX6 k).2.2.1 = some (tyX6 k) := by decide +kernel
abbrev cX6_init : ByteArray := prog_8_method_1_code
def yX6_init : MethodName := ⟨RX6, "<init>", "()V"⟩
abbrev cX6_takeFrom : ByteArray := prog_8_method_2_code
def yX6_takeFrom : MethodName := ⟨RX6, "takeFrom", "(LFastWhy$Source;)V"⟩
abbrev cX6_addProgram : ByteArray := prog_8_method_3_code
def yX6_addProgram : MethodName := ⟨RX6, "addProgram", "()I"⟩
abbrev cX6_addLine : ByteArray := prog_8_method_4_code
def yX6_addLine : MethodName := ⟨RX6, "addLine", "(IIIII)I"⟩
abbrev cX6_addChange : ByteArray := prog_8_method_5_code
def yX6_addChange : MethodName := ⟨RX6, "addChange", "(IIIIII)I"⟩
abbrev cX6_addBuild : ByteArray := prog_8_method_6_code
def yX6_addBuild : MethodName := ⟨RX6, "addBuild", "(II)I"⟩
abbrev cX6_addSetting : ByteArray := prog_8_method_7_code
def yX6_addSetting : MethodName := ⟨RX6, "addSetting", "(IIII)I"⟩
abbrev cX6_isBuilt : ByteArray := prog_8_method_8_code
def yX6_isBuilt : MethodName := ⟨RX6, "isBuilt", "(I)Z"⟩
abbrev cX6_fits : ByteArray := prog_8_method_9_code
def yX6_fits : MethodName := ⟨RX6, "fits", "(II)Z"⟩
def RX7 : String := "FastWhy$Stepper"
def TX7 : u_T := fun k => match k with
  | 0 => ("FastWhy$Stepper", "counts", "[I", true)
  | 1 => ("FastWhy$Stepper", "isVoid", "Z", false)
  | 2 => ("FastWhy$Stepper", "lines", "[I", true)
  | 3 => ("FastWhy$Stepper", "size", "I", false)
  | 4 => ("FastWhy$Stepper", "registers", "[I", true)
  | 5 => ("FastWhy$Stepper", "memory", "[I", true)
  | 6 => ("FastWhy$Stepper", "ownRooms", "[I", true)
  | 7 => ("FastWhy$Stepper", "ownGuesses", "[I", true)
  | 8 => ("FastWhy$Stepper", "on", "LFastWhy$Machine;", false)
  | 9 => ("FastWhy$Stepper", "rooms", "[I", false)
  | 10 => ("FastWhy$Stepper", "guesses", "[I", false)
  | _ => ("FastWhy$Stepper", "place", "I", false)
def tyX7 : Nat → FieldType := fun k => match k with
  | 0 => .array .int
  | 1 => .boolean
  | 2 => .array .int
  | 3 => .int
  | 4 => .array .int
  | 5 => .array .int
  | 6 => .array .int
  | 7 => .array .int
  | 8 => .object "FastWhy$Machine"
  | 9 => .array .int
  | 10 => .array .int
  | _ => .int
abbrev wsX70 : List Cond := u_ws RX7 TX7 12
theorem nmX7 : ∀ a, a < 12 → ∀ b, b < 12 → a ≠ b → (TX7 a).2.1 ≠ (TX7 b).2.1 := by decide +kernel
theorem tyX7_ok : ∀ k, k < 12 → parseFieldDescriptor (TX7 k).2.2.1 = some (tyX7 k) := by decide +kernel
abbrev cX7_init : ByteArray := prog_9_method_1_code
def yX7_init : MethodName := ⟨RX7, "<init>", "()V"⟩
abbrev cX7_goKept : ByteArray := prog_9_method_2_code
def yX7_goKept : MethodName := ⟨RX7, "goKept", "(LFastWhy$Store;IIIIIZ)V"⟩
abbrev cX7_goPlain : ByteArray := prog_9_method_3_code
def yX7_goPlain : MethodName := ⟨RX7, "goPlain", "(LFastWhy$Store;III)V"⟩
abbrev cX7_goPlainWith : ByteArray := prog_9_method_4_code
def yX7_goPlainWith : MethodName := ⟨RX7, "goPlainWith", "(LFastWhy$Store;IIII)V"⟩
abbrev cX7_goAgain : ByteArray := prog_9_method_5_code
def yX7_goAgain : MethodName := ⟨RX7, "goAgain", "(LFastWhy$Store;I)V"⟩
abbrev cX7_useOwn : ByteArray := prog_9_method_6_code
def yX7_useOwn : MethodName := ⟨RX7, "useOwn", "()V"⟩
abbrev cX7_empty : ByteArray := prog_9_method_7_code
def yX7_empty : MethodName := ⟨RX7, "empty", "()V"⟩
abbrev cX7_begin : ByteArray := prog_9_method_8_code
def yX7_begin : MethodName := ⟨RX7, "begin", "(LFastWhy$Source;III)V"⟩
abbrev cX7_go : ByteArray := prog_9_method_9_code
def yX7_go : MethodName := ⟨RX7, "go", "(I)V"⟩
abbrev cX7_work : ByteArray := prog_9_method_10_code
def yX7_work : MethodName := ⟨RX7, "work", "(II)I"⟩
abbrev cX7_touched : ByteArray := prog_9_method_11_code
def yX7_touched : MethodName := ⟨RX7, "touched", "(I)I"⟩
abbrev cX7_leap : ByteArray := prog_9_method_12_code
def yX7_leap : MethodName := ⟨RX7, "leap", "(I)I"⟩
def RX8 : String := "FastWhy$Store"
def TX8 : u_T := fun k => match k with
  | 0 => ("FastWhy$Store", "source", "LFastWhy$Source;", true)
  | 1 => ("FastWhy$Store", "machines", "[LFastWhy$Machine;", true)
  | 2 => ("FastWhy$Store", "sitting", "LFastWhy$Sitting;", true)
  | 3 => ("FastWhy$Store", "cells", "[I", true)
  | 4 => ("FastWhy$Store", "runs", "I", false)
  | 5 => ("FastWhy$Store", "text", "[I", true)
  | _ => ("FastWhy$Store", "signs", "I", false)
def tyX8 : Nat → FieldType := fun k => match k with
  | 0 => .object "FastWhy$Source"
  | 1 => .array (.object "FastWhy$Machine")
  | 2 => .object "FastWhy$Sitting"
  | 3 => .array .int
  | 4 => .int
  | 5 => .array .int
  | _ => .int
abbrev wsX80 : List Cond := u_ws RX8 TX8 7
theorem nmX8 : ∀ a, a < 7 → ∀ b, b < 7 → a ≠ b → (TX8 a).2.1 ≠ (TX8 b).2.1 := by decide +kernel
theorem tyX8_ok : ∀ k, k < 7 → parseFieldDescriptor (TX8 k).2.2.1 = some (tyX8 k) := by decide +kernel
abbrev cX8_init : ByteArray := prog_10_method_1_code
def yX8_init : MethodName := ⟨RX8, "<init>", "()V"⟩
abbrev cX8_takeFrom : ByteArray := prog_10_method_2_code
def yX8_takeFrom : MethodName := ⟨RX8, "takeFrom", "(LFastWhy$Store;)V"⟩
abbrev cX8_told : ByteArray := prog_10_method_3_code
def yX8_told : MethodName := ⟨RX8, "told", "(II)I"⟩
abbrev cX8_tell : ByteArray := prog_10_method_4_code
def yX8_tell : MethodName := ⟨RX8, "tell", "(III)V"⟩
abbrev cX8_addRun : ByteArray := prog_10_method_5_code
def yX8_addRun : MethodName := ⟨RX8, "addRun", "([IZ)I"⟩
abbrev cX8_isTimedOn : ByteArray := prog_10_method_6_code
def yX8_isTimedOn : MethodName := ⟨RX8, "isTimedOn", "(II)Z"⟩
abbrev cX8_isAsCounted : ByteArray := prog_10_method_7_code
def yX8_isAsCounted : MethodName := ⟨RX8, "isAsCounted", "(I[I)Z"⟩
abbrev cX8_voidRuns : ByteArray := prog_10_method_8_code
def yX8_voidRuns : MethodName := ⟨RX8, "voidRuns", "()I"⟩
abbrev cX8_gather : ByteArray := prog_10_method_9_code
def yX8_gather : MethodName := ⟨RX8, "gather", "(LFastWhy$Bag;IIII)V"⟩
def RX9 : String := "FastWhy$Undoing"
def TX9 : u_T := fun k => match k with
  | 0 => ("FastWhy$Undoing", "size", "I", false)
  | 1 => ("FastWhy$Undoing", "least", "[I", true)
  | 2 => ("FastWhy$Undoing", "store", "LFastWhy$Store;", false)
  | 3 => ("FastWhy$Undoing", "stepper", "LFastWhy$Stepper;", false)
  | 4 => ("FastWhy$Undoing", "build", "I", false)
  | 5 => ("FastWhy$Undoing", "machine", "I", false)
  | 6 => ("FastWhy$Undoing", "setting", "I", false)
  | 7 => ("FastWhy$Undoing", "limit", "I", false)
  | _ => ("FastWhy$Undoing", "open", "I", false)
def tyX9 : Nat → FieldType := fun k => match k with
  | 0 => .int
  | 1 => .array .int
  | 2 => .object "FastWhy$Store"
  | 3 => .object "FastWhy$Stepper"
  | 4 => .int
  | 5 => .int
  | 6 => .int
  | 7 => .int
  | _ => .int
abbrev wsX90 : List Cond := u_ws RX9 TX9 9
theorem nmX9 : ∀ a, a < 9 → ∀ b, b < 9 → a ≠ b → (TX9 a).2.1 ≠ (TX9 b).2.1 := by decide +kernel
theorem tyX9_ok : ∀ k, k < 9 → parseFieldDescriptor (TX9 k).2.2.1 = some (tyX9 k) := by decide +kernel
abbrev cX9_init : ByteArray := prog_11_method_1_code
def yX9_init : MethodName := ⟨RX9, "<init>", "()V"⟩
abbrev cX9_ask : ByteArray := prog_11_method_2_code
def yX9_ask : MethodName := ⟨RX9, "ask", "(LFastWhy$Store;LFastWhy$Stepper;IIIII)V"⟩
abbrev cX9_findLeast : ByteArray := prog_11_method_3_code
def yX9_findLeast : MethodName := ⟨RX9, "findLeast", "()V"⟩
abbrev cX9_fewest : ByteArray := prog_11_method_4_code
def yX9_fewest : MethodName := ⟨RX9, "fewest", "()I"⟩
abbrev cX9_alone : ByteArray := prog_11_method_5_code
def yX9_alone : MethodName := ⟨RX9, "alone", "()I"⟩
abbrev cX9_holdsFound : ByteArray := prog_11_method_6_code
def yX9_holdsFound : MethodName := ⟨RX9, "holdsFound", "(I)Z"⟩
abbrev cX9_brings : ByteArray := prog_11_method_7_code
def yX9_brings : MethodName := ⟨RX9, "brings", "(I)Z"⟩
def RX10 : String := "FastWhy$Ways"
def TX10 : u_T := fun k => match k with
  | 0 => ("FastWhy$Ways", "left", "[I", true)
  | 1 => ("FastWhy$Ways", "right", "[I", true)
  | _ => ("FastWhy$Ways", "merged", "[I", true)
def tyX10 : Nat → FieldType := fun k => match k with
  | 0 => .array .int
  | 1 => .array .int
  | _ => .array .int
abbrev wsX100 : List Cond := u_ws RX10 TX10 3
theorem nmX10 : ∀ a, a < 3 → ∀ b, b < 3 → a ≠ b → (TX10 a).2.1 ≠ (TX10 b).2.1 := by decide +kernel
theorem tyX10_ok : ∀ k, k < 3 → parseFieldDescriptor (TX10 k).2.2.1 = some (tyX10 k) := by decide +kernel
abbrev cX10_init : ByteArray := prog_12_method_1_code
def yX10_init : MethodName := ⟨RX10, "<init>", "()V"⟩
abbrev cX10_dealt : ByteArray := prog_12_method_2_code
def yX10_dealt : MethodName := ⟨RX10, "dealt", "([IIZ)I"⟩
abbrev cX10_sumsOfSets : ByteArray := prog_12_method_3_code
def yX10_sumsOfSets : MethodName := ⟨RX10, "sumsOfSets", "([IIII[I)I"⟩
abbrev cX10_addToEach : ByteArray := prog_12_method_4_code
def yX10_addToEach : MethodName := ⟨RX10, "addToEach", "([III)V"⟩
def RX11 : String := "FastWhy"
def TX11 : u_T := fun k => match k with
  | 0 => ("FastWhy", "now", "LFastWhy$Store;", true)
  | 1 => ("FastWhy", "images", "[LFastWhy$Store;", true)
  | 2 => ("FastWhy", "imageThere", "[Z", true)
  | 3 => ("FastWhy", "stepper", "LFastWhy$Stepper;", true)
  | 4 => ("FastWhy", "bag", "LFastWhy$Bag;", true)
  | 5 => ("FastWhy", "ways", "LFastWhy$Ways;", true)
  | 6 => ("FastWhy", "dating", "LFastWhy$Dating;", true)
  | 7 => ("FastWhy", "undoing", "LFastWhy$Undoing;", true)
  | 8 => ("FastWhy", "fitting", "LFastWhy$Fitting;", true)
  | _ => ("FastWhy", "reader", "LFastWhy$Reader;", true)
def tyX11 : Nat → FieldType := fun k => match k with
  | 0 => .object "FastWhy$Store"
  | 1 => .array (.object "FastWhy$Store")
  | 2 => .array .boolean
  | 3 => .object "FastWhy$Stepper"
  | 4 => .object "FastWhy$Bag"
  | 5 => .object "FastWhy$Ways"
  | 6 => .object "FastWhy$Dating"
  | 7 => .object "FastWhy$Undoing"
  | 8 => .object "FastWhy$Fitting"
  | _ => .object "FastWhy$Reader"
abbrev wsX110 : List Cond := u_ws RX11 TX11 10
theorem nmX11 : ∀ a, a < 10 → ∀ b, b < 10 → a ≠ b → (TX11 a).2.1 ≠ (TX11 b).2.1 := by decide +kernel
theorem tyX11_ok : ∀ k, k < 10 → parseFieldDescriptor (TX11 k).2.2.1 = some (tyX11 k) := by decide +kernel
abbrev cX11_init : ByteArray := prog_1_method_1_code
def yX11_init : MethodName := ⟨RX11, "<init>", "()V"⟩
abbrev cX11_program : ByteArray := prog_1_method_2_code
def yX11_program : MethodName := ⟨RX11, "program", "()I"⟩
abbrev cX11_line : ByteArray := prog_1_method_3_code
def yX11_line : MethodName := ⟨RX11, "line", "(IIIII)I"⟩
abbrev cX11_change : ByteArray := prog_1_method_4_code
def yX11_change : MethodName := ⟨RX11, "change", "(IIIIII)I"⟩
abbrev cX11_build : ByteArray := prog_1_method_5_code
def yX11_build : MethodName := ⟨RX11, "build", "(II)I"⟩
abbrev cX11_setting : ByteArray := prog_1_method_6_code
def yX11_setting : MethodName := ⟨RX11, "setting", "(IIII)I"⟩
abbrev cX11_price : ByteArray := prog_1_method_7_code
def yX11_price : MethodName := ⟨RX11, "price", "(III)I"⟩
abbrev cX11_cache : ByteArray := prog_1_method_8_code
def yX11_cache : MethodName := ⟨RX11, "cache", "(IIII)I"⟩
abbrev cX11_guess : ByteArray := prog_1_method_9_code
def yX11_guess : MethodName := ⟨RX11, "guess", "(III)I"⟩
abbrev cX11_noise : ByteArray := prog_1_method_10_code
def yX11_noise : MethodName := ⟨RX11, "noise", "(IIIIZ)I"⟩
abbrev cX11_run : ByteArray := prog_1_method_11_code
def yX11_run : MethodName := ⟨RX11, "run", "(IIIIIZ)I"⟩
abbrev cX11_of : ByteArray := prog_1_method_12_code
def yX11_of : MethodName := ⟨RX11, "of", "(II)I"⟩
abbrev cX11_plain : ByteArray := prog_1_method_13_code
def yX11_plain : MethodName := ⟨RX11, "plain", "(IIII)I"⟩
abbrev cX11_figure : ByteArray := prog_1_method_14_code
def yX11_figure : MethodName := ⟨RX11, "figure", "(IIIII)I"⟩
abbrev cX11_pair : ByteArray := prog_1_method_15_code
def yX11_pair : MethodName := ⟨RX11, "pair", "(IIIIIIZ)I"⟩
abbrev cX11_difference : ByteArray := prog_1_method_16_code
def yX11_difference : MethodName := ⟨RX11, "difference", "(I)I"⟩
abbrev cX11_stand : ByteArray := prog_1_method_17_code
def yX11_stand : MethodName := ⟨RX11, "stand", "()I"⟩
abbrev cX11_odds : ByteArray := prog_1_method_18_code
def yX11_odds : MethodName := ⟨RX11, "odds", "(I)I"⟩
abbrev cX11_look : ByteArray := prog_1_method_19_code
def yX11_look : MethodName := ⟨RX11, "look", "(I)I"⟩
abbrev cX11_sure : ByteArray := prog_1_method_20_code
def yX11_sure : MethodName := ⟨RX11, "sure", "(II)I"⟩
abbrev cX11_answer : ByteArray := prog_1_method_21_code
def yX11_answer : MethodName := ⟨RX11, "answer", "()I"⟩
abbrev cX11_step : ByteArray := prog_1_method_22_code
def yX11_step : MethodName := ⟨RX11, "step", "(IIIIII)I"⟩
abbrev cX11_back : ByteArray := prog_1_method_23_code
def yX11_back : MethodName := ⟨RX11, "back", "(IIIIII)I"⟩
abbrev cX11_with : ByteArray := prog_1_method_24_code
def yX11_with : MethodName := ⟨RX11, "with", "(II)J"⟩
abbrev cX11_keep : ByteArray := prog_1_method_25_code
def yX11_keep : MethodName := ⟨RX11, "keep", "(IZ)I"⟩
abbrev cX11_fit : ByteArray := prog_1_method_26_code
def yX11_fit : MethodName := ⟨RX11, "fit", "(IIIII)J"⟩
abbrev cX11_foretell : ByteArray := prog_1_method_27_code
def yX11_foretell : MethodName := ⟨RX11, "foretell", "(IIIIIII)J"⟩
abbrev cX11_seek : ByteArray := prog_1_method_28_code
def yX11_seek : MethodName := ⟨RX11, "seek", "(IIII)I"⟩
abbrev cX11_write : ByteArray := prog_1_method_29_code
def yX11_write : MethodName := ⟨RX11, "write", "(I)I"⟩
abbrev cX11_erase : ByteArray := prog_1_method_30_code
def yX11_erase : MethodName := ⟨RX11, "erase", "()I"⟩
abbrev cX11_fault : ByteArray := prog_1_method_31_code
def yX11_fault : MethodName := ⟨RX11, "fault", "()I"⟩
abbrev cX11_rung : ByteArray := prog_1_method_32_code
def yX11_rung : MethodName := ⟨RX11, "rung", "(III)I"⟩
abbrev cX11_forge : ByteArray := prog_1_method_33_code
def yX11_forge : MethodName := ⟨RX11, "forge", "(II)I"⟩
abbrev cX11_check : ByteArray := prog_1_method_34_code
def yX11_check : MethodName := ⟨RX11, "check", "()I"⟩
abbrev cX11_image : ByteArray := prog_1_method_35_code
def yX11_image : MethodName := ⟨RX11, "image", "(I)I"⟩
abbrev cX11_from : ByteArray := prog_1_method_36_code
def yX11_from : MethodName := ⟨RX11, "from", "(I)I"⟩
abbrev cX11_count : ByteArray := prog_1_method_37_code
def yX11_count : MethodName := ⟨RX11, "count", "(I)I"⟩
abbrev cX11_digest : ByteArray := prog_1_method_38_code
def yX11_digest : MethodName := ⟨RX11, "digest", "()J"⟩
abbrev cX11_goAndKeep : ByteArray := prog_1_method_39_code
def yX11_goAndKeep : MethodName := ⟨RX11, "goAndKeep", "(IIIIIZ)I"⟩
abbrev cX11_isNoSpot : ByteArray := prog_1_method_40_code
def yX11_isNoSpot : MethodName := ⟨RX11, "isNoSpot", "(III)Z"⟩
abbrev cX11_isNoHour : ByteArray := prog_1_method_41_code
def yX11_isNoHour : MethodName := ⟨RX11, "isNoHour", "(I)Z"⟩
abbrev cX11_areNoCounts : ByteArray := prog_1_method_42_code
def yX11_areNoCounts : MethodName := ⟨RX11, "areNoCounts", "(III)Z"⟩
abbrev cX11_isOut : ByteArray := prog_1_method_43_code
def yX11_isOut : MethodName := ⟨RX11, "isOut", "(II)Z"⟩
abbrev cX11_isBeyond : ByteArray := prog_1_method_44_code
def yX11_isBeyond : MethodName := ⟨RX11, "isBeyond", "(III)Z"⟩
abbrev cX11_isNotSmall : ByteArray := prog_1_method_45_code
def yX11_isNotSmall : MethodName := ⟨RX11, "isNotSmall", "(I)Z"⟩
abbrev cX11_isLine : ByteArray := prog_1_method_46_code
def yX11_isLine : MethodName := ⟨RX11, "isLine", "(IIII)Z"⟩
abbrev cX11_writeLine : ByteArray := prog_1_method_47_code
def yX11_writeLine : MethodName := ⟨RX11, "writeLine", "([IIIIII)V"⟩
abbrev cX11_leftOver : ByteArray := prog_1_method_48_code
def yX11_leftOver : MethodName := ⟨RX11, "leftOver", "(II)I"⟩
abbrev cX11_cutBy : ByteArray := prog_1_method_49_code
def yX11_cutBy : MethodName := ⟨RX11, "cutBy", "(II)I"⟩
abbrev cX11_mixed : ByteArray := prog_1_method_50_code
def yX11_mixed : MethodName := ⟨RX11, "mixed", "(J[II)J"⟩
def RX12 : String := "FastWhyModel"
def TX12 : u_T := fun k => match k with
  | 0 => ("FastWhyModel", "now", "[I", true)
  | 1 => ("FastWhyModel", "kept", "[I", true)
  | 2 => ("FastWhyModel", "isKept", "[Z", true)
  | 3 => ("FastWhyModel", "code", "[I", true)
  | 4 => ("FastWhyModel", "codeLong", "I", false)
  | 5 => ("FastWhyModel", "registers", "[I", true)
  | 6 => ("FastWhyModel", "memory", "[I", true)
  | 7 => ("FastWhyModel", "rooms", "[I", true)
  | 8 => ("FastWhyModel", "said", "[I", true)
  | 9 => ("FastWhyModel", "counts", "[I", true)
  | 10 => ("FastWhyModel", "isVoid", "Z", false)
  | 11 => ("FastWhyModel", "sorted", "[I", true)
  | 12 => ("FastWhyModel", "sortedMany", "I", false)
  | 13 => ("FastWhyModel", "middles", "[I", true)
  | 14 => ("FastWhyModel", "numbers", "[I", true)
  | 15 => ("FastWhyModel", "costs", "[I", true)
  | 16 => ("FastWhyModel", "does", "[Z", true)
  | 17 => ("FastWhyModel", "hasPart", "[Z", true)
  | 18 => ("FastWhyModel", "cost0", "I", false)
  | 19 => ("FastWhyModel", "cost1", "I", false)
  | 20 => ("FastWhyModel", "cost2", "I", false)
  | 21 => ("FastWhyModel", "leastSum", "J", false)
  | 22 => ("FastWhyModel", "at", "I", false)
  | 23 => ("FastWhyModel", "fault", "I", false)
  | 24 => ("FastWhyModel", "values", "[J", true)
  | 25 => ("FastWhyModel", "valueMany", "I", false)
  | 26 => ("FastWhyModel", "signs", "[I", true)
  | 27 => ("FastWhyModel", "signMany", "I", false)
  | 28 => ("FastWhyModel", "names", "[J", true)
  | _ => ("FastWhyModel", "told", "J", false)
def tyX12 : Nat → FieldType := fun k => match k with
  | 0 => .array .int
  | 1 => .array .int
  | 2 => .array .boolean
  | 3 => .array .int
  | 4 => .int
  | 5 => .array .int
  | 6 => .array .int
  | 7 => .array .int
  | 8 => .array .int
  | 9 => .array .int
  | 10 => .boolean
  | 11 => .array .int
  | 12 => .int
  | 13 => .array .int
  | 14 => .array .int
  | 15 => .array .int
  | 16 => .array .boolean
  | 17 => .array .boolean
  | 18 => .int
  | 19 => .int
  | 20 => .int
  | 21 => .long
  | 22 => .int
  | 23 => .int
  | 24 => .array .long
  | 25 => .int
  | 26 => .array .int
  | 27 => .int
  | 28 => .array .long
  | _ => .long
abbrev wsX120 : List Cond := u_ws RX12 TX12 30
theorem nmX12 : ∀ a, a < 30 → ∀ b, b < 30 → a ≠ b → (TX12 a).2.1 ≠ (TX12 b).2.1 := by decide +kernel
theorem tyX12_ok : ∀ k, k < 30 → parseFieldDescriptor (TX12 k).2.2.1 = some (tyX12 k) := by decide +kernel
abbrev cX12_init : ByteArray := prog_14_method_1_code
def yX12_init : MethodName := ⟨RX12, "<init>", "()V"⟩
abbrev cX12_in : ByteArray := prog_14_method_3_code
def yX12_in : MethodName := ⟨RX12, "in", "(JJJ)Z"⟩
abbrev cX12_many : ByteArray := prog_14_method_4_code
def yX12_many : MethodName := ⟨RX12, "many", "(I)I"⟩
abbrev cX12_has : ByteArray := prog_14_method_5_code
def yX12_has : MethodName := ⟨RX12, "has", "(II)Z"⟩
abbrev cX12_isMachine : ByteArray := prog_14_method_6_code
def yX12_isMachine : MethodName := ⟨RX12, "isMachine", "(I)Z"⟩
abbrev cX12_program : ByteArray := prog_14_method_7_code
def yX12_program : MethodName := ⟨RX12, "program", "()I"⟩
abbrev cX12_isLine : ByteArray := prog_14_method_8_code
def yX12_isLine : MethodName := ⟨RX12, "isLine", "(IIII)Z"⟩
abbrev cX12_put : ByteArray := prog_14_method_9_code
def yX12_put : MethodName := ⟨RX12, "put", "(IIIII)V"⟩
abbrev cX12_line : ByteArray := prog_14_method_10_code
def yX12_line : MethodName := ⟨RX12, "line", "(IIIII)I"⟩
abbrev cX12_change : ByteArray := prog_14_method_11_code
def yX12_change : MethodName := ⟨RX12, "change", "(IIIIII)I"⟩
abbrev cX12_build : ByteArray := prog_14_method_12_code
def yX12_build : MethodName := ⟨RX12, "build", "(II)I"⟩
abbrev cX12_isStart : ByteArray := prog_14_method_13_code
def yX12_isStart : MethodName := ⟨RX12, "isStart", "(I)Z"⟩
abbrev cX12_setting : ByteArray := prog_14_method_14_code
def yX12_setting : MethodName := ⟨RX12, "setting", "(IIII)I"⟩
abbrev cX12_price : ByteArray := prog_14_method_15_code
def yX12_price : MethodName := ⟨RX12, "price", "(III)I"⟩
abbrev cX12_cache : ByteArray := prog_14_method_16_code
def yX12_cache : MethodName := ⟨RX12, "cache", "(IIII)I"⟩
abbrev cX12_guess : ByteArray := prog_14_method_17_code
def yX12_guess : MethodName := ⟨RX12, "guess", "(III)I"⟩
abbrev cX12_noise : ByteArray := prog_14_method_18_code
def yX12_noise : MethodName := ⟨RX12, "noise", "(IIIIZ)I"⟩
abbrev cX12_assemble : ByteArray := prog_14_method_19_code
def yX12_assemble : MethodName := ⟨RX12, "assemble", "(II)V"⟩
abbrev cX12_empty : ByteArray := prog_14_method_20_code
def yX12_empty : MethodName := ⟨RX12, "empty", "()V"⟩
abbrev cX12_fetch : ByteArray := prog_14_method_21_code
def yX12_fetch : MethodName := ⟨RX12, "fetch", "(IZ)V"⟩
abbrev cX12_touch : ByteArray := prog_14_method_22_code
def yX12_touch : MethodName := ⟨RX12, "touch", "(III)V"⟩
abbrev cX12_goes : ByteArray := prog_14_method_23_code
def yX12_goes : MethodName := ⟨RX12, "goes", "(III)V"⟩
abbrev cX12_step : ByteArray := prog_14_method_24_code
def yX12_step : MethodName := ⟨RX12, "step", "(III)I"⟩
abbrev cX12_bits : ByteArray := prog_14_method_25_code
def yX12_bits : MethodName := ⟨RX12, "bits", "(I)I"⟩
abbrev cX12_goesBy : ByteArray := prog_14_method_26_code
def yX12_goesBy : MethodName := ⟨RX12, "goesBy", "(IIIII)V"⟩
abbrev cX12_keepRun : ByteArray := prog_14_method_27_code
def yX12_keepRun : MethodName := ⟨RX12, "keepRun", "(IIIIIZ)V"⟩
abbrev cX12_isThere : ByteArray := prog_14_method_28_code
def yX12_isThere : MethodName := ⟨RX12, "isThere", "(III)Z"⟩
abbrev cX12_run : ByteArray := prog_14_method_29_code
def yX12_run : MethodName := ⟨RX12, "run", "(IIIIIZ)I"⟩
abbrev cX12_of : ByteArray := prog_14_method_30_code
def yX12_of : MethodName := ⟨RX12, "of", "(II)I"⟩
abbrev cX12_goesPlain : ByteArray := prog_14_method_31_code
def yX12_goesPlain : MethodName := ⟨RX12, "goesPlain", "(IIII)V"⟩
abbrev cX12_plain : ByteArray := prog_14_method_32_code
def yX12_plain : MethodName := ⟨RX12, "plain", "(IIII)I"⟩
abbrev cX12_sortIn : ByteArray := prog_14_method_33_code
def yX12_sortIn : MethodName := ⟨RX12, "sortIn", "(I)V"⟩
abbrev cX12_middle : ByteArray := prog_14_method_34_code
def yX12_middle : MethodName := ⟨RX12, "middle", "()I"⟩
abbrev cX12_sortRuns : ByteArray := prog_14_method_35_code
def yX12_sortRuns : MethodName := ⟨RX12, "sortRuns", "(IIII)V"⟩
abbrev cX12_figure : ByteArray := prog_14_method_36_code
def yX12_figure : MethodName := ⟨RX12, "figure", "(IIIII)I"⟩
abbrev cX12_pair : ByteArray := prog_14_method_37_code
def yX12_pair : MethodName := ⟨RX12, "pair", "(IIIIIIZ)I"⟩
abbrev cX12_difference : ByteArray := prog_14_method_38_code
def yX12_difference : MethodName := ⟨RX12, "difference", "(I)I"⟩
abbrev cX12_stand : ByteArray := prog_14_method_39_code
def yX12_stand : MethodName := ⟨RX12, "stand", "()I"⟩
abbrev cX12_oddsOf : ByteArray := prog_14_method_40_code
def yX12_oddsOf : MethodName := ⟨RX12, "oddsOf", "(IZ)I"⟩
abbrev cX12_odds : ByteArray := prog_14_method_41_code
def yX12_odds : MethodName := ⟨RX12, "odds", "(I)I"⟩
abbrev cX12_look : ByteArray := prog_14_method_42_code
def yX12_look : MethodName := ⟨RX12, "look", "(I)I"⟩
abbrev cX12_sure : ByteArray := prog_14_method_43_code
def yX12_sure : MethodName := ⟨RX12, "sure", "(II)I"⟩
abbrev cX12_answer : ByteArray := prog_14_method_44_code
def yX12_answer : MethodName := ⟨RX12, "answer", "()I"⟩
abbrev cX12_farOf : ByteArray := prog_14_method_45_code
def yX12_farOf : MethodName := ⟨RX12, "farOf", "(II)I"⟩
abbrev cX12_step_ : ByteArray := prog_14_method_46_code
def yX12_step_ : MethodName := ⟨RX12, "step", "(IIIIII)I"⟩
abbrev cX12_back : ByteArray := prog_14_method_47_code
def yX12_back : MethodName := ⟨RX12, "back", "(IIIIII)I"⟩
abbrev cX12_isOf : ByteArray := prog_14_method_48_code
def yX12_isOf : MethodName := ⟨RX12, "isOf", "(II)Z"⟩
abbrev cX12_isCounter : ByteArray := prog_14_method_49_code
def yX12_isCounter : MethodName := ⟨RX12, "isCounter", "(I)Z"⟩
abbrev cX12_with : ByteArray := prog_14_method_50_code
def yX12_with : MethodName := ⟨RX12, "with", "(II)J"⟩
abbrev cX12_keep : ByteArray := prog_14_method_51_code
def yX12_keep : MethodName := ⟨RX12, "keep", "(IZ)I"⟩
abbrev cX12_made : ByteArray := prog_14_method_52_code
def yX12_made : MethodName := ⟨RX12, "made", "(IIIIIII)J"⟩
abbrev cX12_size : ByteArray := prog_14_method_53_code
def yX12_size : MethodName := ⟨RX12, "size", "(J)J"⟩
abbrev cX12_fitAll : ByteArray := prog_14_method_54_code
def yX12_fitAll : MethodName := ⟨RX12, "fitAll", "(IIII)V"⟩
abbrev cX12_areCounters : ByteArray := prog_14_method_55_code
def yX12_areCounters : MethodName := ⟨RX12, "areCounters", "(III)Z"⟩
abbrev cX12_fit : ByteArray := prog_14_method_56_code
def yX12_fit : MethodName := ⟨RX12, "fit", "(IIIII)J"⟩
abbrev cX12_foretell : ByteArray := prog_14_method_57_code
def yX12_foretell : MethodName := ⟨RX12, "foretell", "(IIIIIII)J"⟩
abbrev cX12_seek : ByteArray := prog_14_method_58_code
def yX12_seek : MethodName := ⟨RX12, "seek", "(IIII)I"⟩
abbrev cX12_write : ByteArray := prog_14_method_59_code
def yX12_write : MethodName := ⟨RX12, "write", "(I)I"⟩
abbrev cX12_erase : ByteArray := prog_14_method_60_code
def yX12_erase : MethodName := ⟨RX12, "erase", "()I"⟩
abbrev cX12_ahead : ByteArray := prog_14_method_61_code
def yX12_ahead : MethodName := ⟨RX12, "ahead", "()I"⟩
abbrev cX12_rank : ByteArray := prog_14_method_62_code
def yX12_rank : MethodName := ⟨RX12, "rank", "(I)I"⟩
abbrev cX12_works : ByteArray := prog_14_method_63_code
def yX12_works : MethodName := ⟨RX12, "works", "()V"⟩
abbrev cX12_worksDown : ByteArray := prog_14_method_64_code
def yX12_worksDown : MethodName := ⟨RX12, "worksDown", "(I)V"⟩
abbrev cX12_stands : ByteArray := prog_14_method_65_code
def yX12_stands : MethodName := ⟨RX12, "stands", "(J)V"⟩
abbrev cX12_nameOf : ByteArray := prog_14_method_66_code
def yX12_nameOf : MethodName := ⟨RX12, "nameOf", "(I)I"⟩
abbrev cX12_digits : ByteArray := prog_14_method_67_code
def yX12_digits : MethodName := ⟨RX12, "digits", "()J"⟩
abbrev cX12_reads : ByteArray := prog_14_method_68_code
def yX12_reads : MethodName := ⟨RX12, "reads", "()Z"⟩
abbrev cX12_fault : ByteArray := prog_14_method_69_code
def yX12_fault : MethodName := ⟨RX12, "fault", "()I"⟩
abbrev cX12_rung : ByteArray := prog_14_method_70_code
def yX12_rung : MethodName := ⟨RX12, "rung", "(III)I"⟩
abbrev cX12_forge : ByteArray := prog_14_method_71_code
def yX12_forge : MethodName := ⟨RX12, "forge", "(II)I"⟩
abbrev cX12_check : ByteArray := prog_14_method_72_code
def yX12_check : MethodName := ⟨RX12, "check", "()I"⟩
abbrev cX12_image : ByteArray := prog_14_method_73_code
def yX12_image : MethodName := ⟨RX12, "image", "(I)I"⟩
abbrev cX12_from : ByteArray := prog_14_method_74_code
def yX12_from : MethodName := ⟨RX12, "from", "(I)I"⟩
abbrev cX12_count : ByteArray := prog_14_method_75_code
def yX12_count : MethodName := ⟨RX12, "count", "(I)I"⟩
abbrev cX12_sums : ByteArray := prog_14_method_76_code
def yX12_sums : MethodName := ⟨RX12, "sums", "(JII)J"⟩
abbrev cX12_digest : ByteArray := prog_14_method_77_code
def yX12_digest : MethodName := ⟨RX12, "digest", "()J"⟩
def RJ6 : String := "java/lang/Integer"
def TJ6 : u_T := fun k => match k with
  | _ => ("", "", "", false)
def tyJ6 : Nat → FieldType := fun k => match k with
  | _ => .int
abbrev wsJ60 : List Cond := u_ws RJ6 TJ6 0
theorem nmJ6 : ∀ a, a < 0 → ∀ b, b < 0 → a ≠ b → (TJ6 a).2.1 ≠ (TJ6 b).2.1 := by decide +kernel
theorem tyJ6_ok : ∀ k, k < 0 → parseFieldDescriptor (TJ6 k).2.2.1 = some (tyJ6 k) := by decide +kernel
abbrev cJ6_bitCount_0f7a4 : ByteArray := prog_15_method_49_code
def yJ6_bitCount_0f7a4 : MethodName := ⟨RJ6, "bitCount", "(I)I"⟩
def RJ9 : String := "java/lang/Math"
def TJ9 : u_T := fun k => match k with
  | _ => ("", "", "", false)
def tyJ9 : Nat → FieldType := fun k => match k with
  | _ => .int
abbrev wsJ90 : List Cond := u_ws RJ9 TJ9 0
theorem nmJ9 : ∀ a, a < 0 → ∀ b, b < 0 → a ≠ b → (TJ9 a).2.1 ≠ (TJ9 b).2.1 := by decide +kernel
theorem tyJ9_ok : ∀ k, k < 0 → parseFieldDescriptor (TJ9 k).2.2.1 = some (tyJ9 k) := by decide +kernel
abbrev cJ9_abs_0f7a4 : ByteArray := prog_16_method_59_code
def yJ9_abs_0f7a4 : MethodName := ⟨RJ9, "abs", "(I)I"⟩
abbrev cJ9_max_7cf53 : ByteArray := prog_16_method_65_code
def yJ9_max_7cf53 : MethodName := ⟨RJ9, "max", "(II)I"⟩
abbrev cJ9_min_7cf53 : ByteArray := prog_16_method_69_code
def yJ9_min_7cf53 : MethodName := ⟨RJ9, "min", "(II)I"⟩
def RJ0 : String := "java/lang/String"
def TJ0 : u_T := fun k => match k with
  | _ => ("", "", "", false)
def tyJ0 : Nat → FieldType := fun k => match k with
  | _ => .int
abbrev wsJ00 : List Cond := u_ws RJ0 TJ0 0
theorem nmJ0 : ∀ a, a < 0 → ∀ b, b < 0 → a ≠ b → (TJ0 a).2.1 ≠ (TJ0 b).2.1 := by decide +kernel
theorem tyJ0_ok : ∀ k, k < 0 → parseFieldDescriptor (TJ0 k).2.2.1 = some (tyJ0 k) := by decide +kernel
abbrev cJ0_length_8abf5 : ByteArray := prog_17_method_54_code
def yJ0_length_8abf5 : MethodName := ⟨RJ0, "length", "()I"⟩
abbrev cJ0_charAt_5068e : ByteArray := prog_17_method_56_code
def yJ0_charAt_5068e : MethodName := ⟨RJ0, "charAt", "(I)C"⟩
abbrev cJ0_coder_7d493 : ByteArray := prog_17_method_152_code
def yJ0_coder_7d493 : MethodName := ⟨RJ0, "coder", "()B"⟩
abbrev cJ0_isLatin1_aae02 : ByteArray := prog_17_method_154_code
def yJ0_isLatin1_aae02 : MethodName := ⟨RJ0, "isLatin1", "()Z"⟩
abbrev cJ0_checkIndex_df160 : ByteArray := prog_17_method_155_code
def yJ0_checkIndex_df160 : MethodName := ⟨RJ0, "checkIndex", "(II)V"⟩
def RJ1 : String := "java/lang/StringLatin1"
def TJ1 : u_T := fun k => match k with
  | _ => ("", "", "", false)
def tyJ1 : Nat → FieldType := fun k => match k with
  | _ => .int
abbrev wsJ10 : List Cond := u_ws RJ1 TJ1 0
theorem nmJ1 : ∀ a, a < 0 → ∀ b, b < 0 → a ≠ b → (TJ1 a).2.1 ≠ (TJ1 b).2.1 := by decide +kernel
theorem tyJ1_ok : ∀ k, k < 0 → parseFieldDescriptor (TJ1 k).2.2.1 = some (tyJ1 k) := by decide +kernel
abbrev cJ1_charAt_3b067 : ByteArray := prog_18_method_2_code
def yJ1_charAt_3b067 : MethodName := ⟨RJ1, "charAt", "([BI)C"⟩
def RJ2 : String := "java/lang/StringUTF16"
def TJ2 : u_T := fun k => match k with
  | _ => ("", "", "", false)
def tyJ2 : Nat → FieldType := fun k => match k with
  | _ => .int
abbrev wsJ20 : List Cond := u_ws RJ2 TJ2 0
theorem nmJ2 : ∀ a, a < 0 → ∀ b, b < 0 → a ≠ b → (TJ2 a).2.1 ≠ (TJ2 b).2.1 := by decide +kernel
theorem tyJ2_ok : ∀ k, k < 0 → parseFieldDescriptor (TJ2 k).2.2.1 = some (tyJ2 k) := by decide +kernel
abbrev cJ2_getChar_3b067 : ByteArray := prog_19_method_5_code
def yJ2_getChar_3b067 : MethodName := ⟨RJ2, "getChar", "([BI)C"⟩
abbrev cJ2_length_9d52b : ByteArray := prog_19_method_6_code
def yJ2_length_9d52b : MethodName := ⟨RJ2, "length", "([B)I"⟩
abbrev cJ2_charAt_3b067 : ByteArray := prog_19_method_83_code
def yJ2_charAt_3b067 : MethodName := ⟨RJ2, "charAt", "([BI)C"⟩
abbrev cJ2_checkIndex_2214a : ByteArray := prog_19_method_91_code
def yJ2_checkIndex_2214a : MethodName := ⟨RJ2, "checkIndex", "(I[B)V"⟩
def RJ10 : String := "java/lang/System"
def TJ10 : u_T := fun k => match k with
  | _ => ("", "", "", false)
def tyJ10 : Nat → FieldType := fun k => match k with
  | _ => .int
abbrev wsJ100 : List Cond := u_ws RJ10 TJ10 0
theorem nmJ10 : ∀ a, a < 0 → ∀ b, b < 0 → a ≠ b → (TJ10 a).2.1 ≠ (TJ10 b).2.1 := by decide +kernel
theorem tyJ10_ok : ∀ k, k < 0 → parseFieldDescriptor (TJ10 k).2.2.1 = some (tyJ10 k) := by decide +kernel
def RJ7 : String := "java/util/Arrays"
def TJ7 : u_T := fun k => match k with
  | _ => ("", "", "", false)
def tyJ7 : Nat → FieldType := fun k => match k with
  | _ => .int
abbrev wsJ70 : List Cond := u_ws RJ7 TJ7 0
theorem nmJ7 : ∀ a, a < 0 → ∀ b, b < 0 → a ≠ b → (TJ7 a).2.1 ≠ (TJ7 b).2.1 := by decide +kernel
theorem tyJ7_ok : ∀ k, k < 0 → parseFieldDescriptor (TJ7 k).2.2.1 = some (tyJ7 k) := by decide +kernel
abbrev cJ7_fill_53178 : ByteArray := prog_21_method_103_code
def yJ7_fill_53178 : MethodName := ⟨RJ7, "fill", "([II)V"⟩
def RJ3 : String := "jdk/internal/util/Preconditions"
def TJ3 : u_T := fun k => match k with
  | _ => ("", "", "", false)
def tyJ3 : Nat → FieldType := fun k => match k with
  | _ => .int
abbrev wsJ30 : List Cond := u_ws RJ3 TJ3 0
theorem nmJ3 : ∀ a, a < 0 → ∀ b, b < 0 → a ≠ b → (TJ3 a).2.1 ≠ (TJ3 b).2.1 := by decide +kernel
theorem tyJ3_ok : ∀ k, k < 0 → parseFieldDescriptor (TJ3 k).2.2.1 = some (tyJ3 k) := by decide +kernel
abbrev cJ3_checkIndex_8e157 : ByteArray := prog_22_method_11_code
def yJ3_checkIndex_8e157 : MethodName := ⟨RJ3, "checkIndex", "(IILjava/util/function/BiFunction;)I"⟩
def RL : String := "FastWhyLaw"
abbrev cL_law : ByteArray := code
def yL_law : MethodName := ⟨RL, "law", "([I)Z"⟩
abbrev vwCl : List vw_C := [(RX0, TX0, 2), (RX1, TX1, 7), (RX2, TX2, 9), (RX3, TX3, 12), (RX4, TX4, 5), (RX5, TX5, 6), (RX6, TX6, 12), (RX7, TX7, 12), (RX8, TX8, 7), (RX9, TX9, 9), (RX10, TX10, 3), (RX11, TX11, 10), (RX12, TX12, 30)]
set_option maxRecDepth 20000 in
theorem inX0 : ∀ w ∈ wsX00, w ∈ lw_tbl := by decide +kernel
set_option maxRecDepth 20000 in
theorem inX1 : ∀ w ∈ wsX10, w ∈ lw_tbl := by decide +kernel
set_option maxRecDepth 20000 in
theorem inX2 : ∀ w ∈ wsX20, w ∈ lw_tbl := by decide +kernel
set_option maxRecDepth 20000 in
theorem inX3 : ∀ w ∈ wsX30, w ∈ lw_tbl := by decide +kernel
set_option maxRecDepth 20000 in
theorem inX4 : ∀ w ∈ wsX40, w ∈ lw_tbl := by decide +kernel
set_option maxRecDepth 20000 in
theorem inX5 : ∀ w ∈ wsX50, w ∈ lw_tbl := by decide +kernel
set_option maxRecDepth 20000 in
theorem inX6 : ∀ w ∈ wsX60, w ∈ lw_tbl := by decide +kernel
set_option maxRecDepth 20000 in
theorem inX7 : ∀ w ∈ wsX70, w ∈ lw_tbl := by decide +kernel
set_option maxRecDepth 20000 in
theorem inX8 : ∀ w ∈ wsX80, w ∈ lw_tbl := by decide +kernel
set_option maxRecDepth 20000 in
theorem inX9 : ∀ w ∈ wsX90, w ∈ lw_tbl := by decide +kernel
set_option maxRecDepth 20000 in
theorem inX10 : ∀ w ∈ wsX100, w ∈ lw_tbl := by decide +kernel
set_option maxRecDepth 20000 in
theorem inX11 : ∀ w ∈ wsX110, w ∈ lw_tbl := by decide +kernel
set_option maxRecDepth 20000 in
theorem inX12 : ∀ w ∈ wsX120, w ∈ lw_tbl := by decide +kernel
