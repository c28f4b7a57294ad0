section
-- ===== PART A: goes FIRST, ahead of the names: the tables' words, and 'selects' of the private methods out of them =====
/-- a private method of a class that the tables say can be made, by its rows of tables_1 -/
def lw_okq (q : MethodName × Nat) : Prop := (q.1.cls ≠ "java/lang/invoke/MethodHandle" ∧ q.1.cls ≠ "java/lang/invoke/VarHandle") ∧ Cond.instantiable q.1.cls q.2 ∈ tables_1 ∧ Cond.privateMethod q.1 ∈ tables_1 ∧ Cond.instanceMethod q.1 ∈ tables_1
theorem lw_p0 : lw_okq (⟨"ChoiceCode", "workOut", "()V"⟩, 13) := ⟨⟨by decide +kernel, by decide +kernel⟩, List.mem_of_getElem? (i := 17) (by decide +kernel), List.mem_of_getElem? (i := 281) (by decide +kernel), List.mem_of_getElem? (i := 282) (by decide +kernel)⟩
theorem lw_p1 : lw_okq (⟨"ChoiceCode$Spans", "join", "(IIII)V"⟩, 5) := ⟨⟨by decide +kernel, by decide +kernel⟩, List.mem_of_getElem? (i := 25) (by decide +kernel), List.mem_of_getElem? (i := 311) (by decide +kernel), List.mem_of_getElem? (i := 312) (by decide +kernel)⟩
theorem lw_p2 : lw_okq (⟨"ChoiceCode$Clusters", "findFewest", "()V"⟩, 10) := ⟨⟨by decide +kernel, by decide +kernel⟩, List.mem_of_getElem? (i := 51) (by decide +kernel), List.mem_of_getElem? (i := 320) (by decide +kernel), List.mem_of_getElem? (i := 321) (by decide +kernel)⟩
theorem lw_p3 : lw_okq (⟨"ChoiceCode$Clusters", "kindOf", "(II)I"⟩, 10) := ⟨⟨by decide +kernel, by decide +kernel⟩, List.mem_of_getElem? (i := 51) (by decide +kernel), List.mem_of_getElem? (i := 328) (by decide +kernel), List.mem_of_getElem? (i := 329) (by decide +kernel)⟩
theorem lw_p4 : lw_okq (⟨"ChoiceCode$Tree", "findCheapest", "(II)V"⟩, 4) := ⟨⟨by decide +kernel, by decide +kernel⟩, List.mem_of_getElem? (i := 88) (by decide +kernel), List.mem_of_getElem? (i := 363) (by decide +kernel), List.mem_of_getElem? (i := 364) (by decide +kernel)⟩
theorem lw_p5 : lw_okq (⟨"ChoiceCode$Tree", "costOf", "(II)I"⟩, 4) := ⟨⟨by decide +kernel, by decide +kernel⟩, List.mem_of_getElem? (i := 88) (by decide +kernel), List.mem_of_getElem? (i := 372) (by decide +kernel), List.mem_of_getElem? (i := 373) (by decide +kernel)⟩
theorem lw_p6 : lw_okq (⟨"ChoiceCode$Code", "write", "(IIIJ)I"⟩, 14) := ⟨⟨by decide +kernel, by decide +kernel⟩, List.mem_of_getElem? (i := 107) (by decide +kernel), List.mem_of_getElem? (i := 384) (by decide +kernel), List.mem_of_getElem? (i := 385) (by decide +kernel)⟩
theorem lw_p7 : lw_okq (⟨"ChoiceCode$Code", "layPart", "(IIIII)V"⟩, 14) := ⟨⟨by decide +kernel, by decide +kernel⟩, List.mem_of_getElem? (i := 107) (by decide +kernel), List.mem_of_getElem? (i := 390) (by decide +kernel), List.mem_of_getElem? (i := 391) (by decide +kernel)⟩
theorem lw_p8 : lw_okq (⟨"ChoiceCode$Code", "layLeaf", "(III)V"⟩, 14) := ⟨⟨by decide +kernel, by decide +kernel⟩, List.mem_of_getElem? (i := 107) (by decide +kernel), List.mem_of_getElem? (i := 394) (by decide +kernel), List.mem_of_getElem? (i := 395) (by decide +kernel)⟩
theorem lw_p9 : lw_okq (⟨"ChoiceCode$Code", "layBits", "(II)V"⟩, 14) := ⟨⟨by decide +kernel, by decide +kernel⟩, List.mem_of_getElem? (i := 107) (by decide +kernel), List.mem_of_getElem? (i := 420) (by decide +kernel), List.mem_of_getElem? (i := 421) (by decide +kernel)⟩
theorem lw_p10 : lw_okq (⟨"ChoiceCode$Code", "layTable", "(III)V"⟩, 14) := ⟨⟨by decide +kernel, by decide +kernel⟩, List.mem_of_getElem? (i := 107) (by decide +kernel), List.mem_of_getElem? (i := 433) (by decide +kernel), List.mem_of_getElem? (i := 434) (by decide +kernel)⟩
theorem lw_p11 : lw_okq (⟨"ChoiceCode$Code", "fill", "(III)V"⟩, 14) := ⟨⟨by decide +kernel, by decide +kernel⟩, List.mem_of_getElem? (i := 107) (by decide +kernel), List.mem_of_getElem? (i := 442) (by decide +kernel), List.mem_of_getElem? (i := 443) (by decide +kernel)⟩
theorem lw_p12 : lw_okq (⟨"ChoiceCode$Code", "aim", "(II)V"⟩, 14) := ⟨⟨by decide +kernel, by decide +kernel⟩, List.mem_of_getElem? (i := 107) (by decide +kernel), List.mem_of_getElem? (i := 451) (by decide +kernel), List.mem_of_getElem? (i := 452) (by decide +kernel)⟩
theorem lw_p13 : lw_okq (⟨"ChoiceCode", "mostSteps", "()I"⟩, 13) := ⟨⟨by decide +kernel, by decide +kernel⟩, List.mem_of_getElem? (i := 17) (by decide +kernel), List.mem_of_getElem? (i := 473) (by decide +kernel), List.mem_of_getElem? (i := 474) (by decide +kernel)⟩
theorem lw_p14 : lw_okq (⟨"ChoiceCode", "stepsOf", "(I)I"⟩, 13) := ⟨⟨by decide +kernel, by decide +kernel⟩, List.mem_of_getElem? (i := 17) (by decide +kernel), List.mem_of_getElem? (i := 478) (by decide +kernel), List.mem_of_getElem? (i := 479) (by decide +kernel)⟩
theorem lw_p15 : lw_okq (⟨"ChoiceCode$Code", "doLine", "(II)I"⟩, 14) := ⟨⟨by decide +kernel, by decide +kernel⟩, List.mem_of_getElem? (i := 107) (by decide +kernel), List.mem_of_getElem? (i := 486) (by decide +kernel), List.mem_of_getElem? (i := 487) (by decide +kernel)⟩
def lw_privs_1 : List (MethodName × Nat) := [(⟨"ChoiceCode", "workOut", "()V"⟩, 13), (⟨"ChoiceCode$Spans", "join", "(IIII)V"⟩, 5), (⟨"ChoiceCode$Clusters", "findFewest", "()V"⟩, 10), (⟨"ChoiceCode$Clusters", "kindOf", "(II)I"⟩, 10), (⟨"ChoiceCode$Tree", "findCheapest", "(II)V"⟩, 4), (⟨"ChoiceCode$Tree", "costOf", "(II)I"⟩, 4), (⟨"ChoiceCode$Code", "write", "(IIIJ)I"⟩, 14), (⟨"ChoiceCode$Code", "layPart", "(IIIII)V"⟩, 14), (⟨"ChoiceCode$Code", "layLeaf", "(III)V"⟩, 14), (⟨"ChoiceCode$Code", "layBits", "(II)V"⟩, 14), (⟨"ChoiceCode$Code", "layTable", "(III)V"⟩, 14), (⟨"ChoiceCode$Code", "fill", "(III)V"⟩, 14), (⟨"ChoiceCode$Code", "aim", "(II)V"⟩, 14), (⟨"ChoiceCode", "mostSteps", "()I"⟩, 13), (⟨"ChoiceCode", "stepsOf", "(I)I"⟩, 13), (⟨"ChoiceCode$Code", "doLine", "(II)I"⟩, 14)]
theorem lw_r1 : ∀ q ∈ lw_privs_1, lw_okq q := List.forall_mem_cons.mpr ⟨lw_p0, List.forall_mem_cons.mpr ⟨lw_p1, List.forall_mem_cons.mpr ⟨lw_p2, List.forall_mem_cons.mpr ⟨lw_p3, List.forall_mem_cons.mpr ⟨lw_p4, List.forall_mem_cons.mpr ⟨lw_p5, List.forall_mem_cons.mpr ⟨lw_p6, List.forall_mem_cons.mpr ⟨lw_p7, List.forall_mem_cons.mpr ⟨lw_p8, List.forall_mem_cons.mpr ⟨lw_p9, List.forall_mem_cons.mpr ⟨lw_p10, List.forall_mem_cons.mpr ⟨lw_p11, List.forall_mem_cons.mpr ⟨lw_p12, List.forall_mem_cons.mpr ⟨lw_p13, List.forall_mem_cons.mpr ⟨lw_p14, List.forall_mem_cons.mpr ⟨lw_p15, fun _ h => absurd h List.not_mem_nil⟩⟩⟩⟩⟩⟩⟩⟩⟩⟩⟩⟩⟩⟩⟩⟩
theorem lw_p16 : lw_okq (⟨"ChoiceCode$Code", "endWith", "(I)I"⟩, 14) := ⟨⟨by decide +kernel, by decide +kernel⟩, List.mem_of_getElem? (i := 107) (by decide +kernel), List.mem_of_getElem? (i := 490) (by decide +kernel), List.mem_of_getElem? (i := 491) (by decide +kernel)⟩
theorem lw_p17 : lw_okq (⟨"ChoiceCode$Code", "hasBit", "(IJ)Z"⟩, 14) := ⟨⟨by decide +kernel, by decide +kernel⟩, List.mem_of_getElem? (i := 107) (by decide +kernel), List.mem_of_getElem? (i := 494) (by decide +kernel), List.mem_of_getElem? (i := 495) (by decide +kernel)⟩
theorem lw_p18 : lw_okq (⟨"ChoiceCode", "leastInNoCase", "()J"⟩, 13) := ⟨⟨by decide +kernel, by decide +kernel⟩, List.mem_of_getElem? (i := 17) (by decide +kernel), List.mem_of_getElem? (i := 593) (by decide +kernel), List.mem_of_getElem? (i := 594) (by decide +kernel)⟩
theorem lw_p19 : lw_okq (⟨"ChoiceCode$Code", "printLine", "(ILChoiceCode$Text;)V"⟩, 14) := ⟨⟨by decide +kernel, by decide +kernel⟩, List.mem_of_getElem? (i := 107) (by decide +kernel), List.mem_of_getElem? (i := 611) (by decide +kernel), List.mem_of_getElem? (i := 612) (by decide +kernel)⟩
theorem lw_p20 : lw_okq (⟨"ChoiceCode$Text", "put", "(I)V"⟩, 2) := ⟨⟨by decide +kernel, by decide +kernel⟩, List.mem_of_getElem? (i := 157) (by decide +kernel), List.mem_of_getElem? (i := 620) (by decide +kernel), List.mem_of_getElem? (i := 621) (by decide +kernel)⟩
theorem lw_p21 : lw_okq (⟨"ChoiceCodeModel", "noCase", "(I)Z"⟩, 41) := ⟨⟨by decide +kernel, by decide +kernel⟩, List.mem_of_getElem? (i := 719) (by decide +kernel), List.mem_of_getElem? (i := 868) (by decide +kernel), List.mem_of_getElem? (i := 869) (by decide +kernel)⟩
theorem lw_p22 : lw_okq (⟨"ChoiceCodeModel", "make", "()V"⟩, 41) := ⟨⟨by decide +kernel, by decide +kernel⟩, List.mem_of_getElem? (i := 719) (by decide +kernel), List.mem_of_getElem? (i := 895) (by decide +kernel), List.mem_of_getElem? (i := 896) (by decide +kernel)⟩
theorem lw_p23 : lw_okq (⟨"ChoiceCodeModel", "makeRuns", "()V"⟩, 41) := ⟨⟨by decide +kernel, by decide +kernel⟩, List.mem_of_getElem? (i := 719) (by decide +kernel), List.mem_of_getElem? (i := 899) (by decide +kernel), List.mem_of_getElem? (i := 900) (by decide +kernel)⟩
theorem lw_p24 : lw_okq (⟨"ChoiceCodeModel", "makeClusters", "()V"⟩, 41) := ⟨⟨by decide +kernel, by decide +kernel⟩, List.mem_of_getElem? (i := 719) (by decide +kernel), List.mem_of_getElem? (i := 904) (by decide +kernel), List.mem_of_getElem? (i := 905) (by decide +kernel)⟩
theorem lw_p25 : lw_okq (⟨"ChoiceCodeModel", "kindOf", "(II)I"⟩, 41) := ⟨⟨by decide +kernel, by decide +kernel⟩, List.mem_of_getElem? (i := 719) (by decide +kernel), List.mem_of_getElem? (i := 908) (by decide +kernel), List.mem_of_getElem? (i := 909) (by decide +kernel)⟩
theorem lw_p26 : lw_okq (⟨"ChoiceCodeModel", "makeTree", "()V"⟩, 41) := ⟨⟨by decide +kernel, by decide +kernel⟩, List.mem_of_getElem? (i := 719) (by decide +kernel), List.mem_of_getElem? (i := 913) (by decide +kernel), List.mem_of_getElem? (i := 914) (by decide +kernel)⟩
theorem lw_p27 : lw_okq (⟨"ChoiceCodeModel", "weightOf", "(I)J"⟩, 41) := ⟨⟨by decide +kernel, by decide +kernel⟩, List.mem_of_getElem? (i := 719) (by decide +kernel), List.mem_of_getElem? (i := 917) (by decide +kernel), List.mem_of_getElem? (i := 918) (by decide +kernel)⟩
theorem lw_p28 : lw_okq (⟨"ChoiceCodeModel", "emit", "(IIII)V"⟩, 41) := ⟨⟨by decide +kernel, by decide +kernel⟩, List.mem_of_getElem? (i := 719) (by decide +kernel), List.mem_of_getElem? (i := 922) (by decide +kernel), List.mem_of_getElem? (i := 923) (by decide +kernel)⟩
theorem lw_p29 : lw_okq (⟨"ChoiceCodeModel", "part", "(IIIJJI)V"⟩, 41) := ⟨⟨by decide +kernel, by decide +kernel⟩, List.mem_of_getElem? (i := 719) (by decide +kernel), List.mem_of_getElem? (i := 927) (by decide +kernel), List.mem_of_getElem? (i := 928) (by decide +kernel)⟩
theorem lw_p30 : lw_okq (⟨"ChoiceCodeModel", "leaf", "(IJJ)V"⟩, 41) := ⟨⟨by decide +kernel, by decide +kernel⟩, List.mem_of_getElem? (i := 719) (by decide +kernel), List.mem_of_getElem? (i := 931) (by decide +kernel), List.mem_of_getElem? (i := 932) (by decide +kernel)⟩
theorem lw_p31 : lw_okq (⟨"ChoiceCodeModel", "bottom", "(I)I"⟩, 41) := ⟨⟨by decide +kernel, by decide +kernel⟩, List.mem_of_getElem? (i := 719) (by decide +kernel), List.mem_of_getElem? (i := 935) (by decide +kernel), List.mem_of_getElem? (i := 936) (by decide +kernel)⟩
def lw_privs_2 : List (MethodName × Nat) := [(⟨"ChoiceCode$Code", "endWith", "(I)I"⟩, 14), (⟨"ChoiceCode$Code", "hasBit", "(IJ)Z"⟩, 14), (⟨"ChoiceCode", "leastInNoCase", "()J"⟩, 13), (⟨"ChoiceCode$Code", "printLine", "(ILChoiceCode$Text;)V"⟩, 14), (⟨"ChoiceCode$Text", "put", "(I)V"⟩, 2), (⟨"ChoiceCodeModel", "noCase", "(I)Z"⟩, 41), (⟨"ChoiceCodeModel", "make", "()V"⟩, 41), (⟨"ChoiceCodeModel", "makeRuns", "()V"⟩, 41), (⟨"ChoiceCodeModel", "makeClusters", "()V"⟩, 41), (⟨"ChoiceCodeModel", "kindOf", "(II)I"⟩, 41), (⟨"ChoiceCodeModel", "makeTree", "()V"⟩, 41), (⟨"ChoiceCodeModel", "weightOf", "(I)J"⟩, 41), (⟨"ChoiceCodeModel", "emit", "(IIII)V"⟩, 41), (⟨"ChoiceCodeModel", "part", "(IIIJJI)V"⟩, 41), (⟨"ChoiceCodeModel", "leaf", "(IJJ)V"⟩, 41), (⟨"ChoiceCodeModel", "bottom", "(I)I"⟩, 41)]
theorem lw_r2 : ∀ q ∈ lw_privs_2, lw_okq q := List.forall_mem_cons.mpr ⟨lw_p16, List.forall_mem_cons.mpr ⟨lw_p17, List.forall_mem_cons.mpr ⟨lw_p18, List.forall_mem_cons.mpr ⟨lw_p19, List.forall_mem_cons.mpr ⟨lw_p20, List.forall_mem_cons.mpr ⟨lw_p21, List.forall_mem_cons.mpr ⟨lw_p22, List.forall_mem_cons.mpr ⟨lw_p23, List.forall_mem_cons.mpr ⟨lw_p24, List.forall_mem_cons.mpr ⟨lw_p25, List.forall_mem_cons.mpr ⟨lw_p26, List.forall_mem_cons.mpr ⟨lw_p27, List.forall_mem_cons.mpr ⟨lw_p28, List.forall_mem_cons.mpr ⟨lw_p29, List.forall_mem_cons.mpr ⟨lw_p30, List.forall_mem_cons.mpr ⟨lw_p31, fun _ h => absurd h List.not_mem_nil⟩⟩⟩⟩⟩⟩⟩⟩⟩⟩⟩⟩⟩⟩⟩⟩
theorem lw_p32 : lw_okq (⟨"ChoiceCodeModel", "top", "(I)I"⟩, 41) := ⟨⟨by decide +kernel, by decide +kernel⟩, List.mem_of_getElem? (i := 719) (by decide +kernel), List.mem_of_getElem? (i := 939) (by decide +kernel), List.mem_of_getElem? (i := 940) (by decide +kernel)⟩
theorem lw_p33 : lw_okq (⟨"ChoiceCodeModel", "ends", "(IJJ)I"⟩, 41) := ⟨⟨by decide +kernel, by decide +kernel⟩, List.mem_of_getElem? (i := 719) (by decide +kernel), List.mem_of_getElem? (i := 943) (by decide +kernel), List.mem_of_getElem? (i := 944) (by decide +kernel)⟩
theorem lw_p34 : lw_okq (⟨"ChoiceCodeModel", "layBits", "(III)V"⟩, 41) := ⟨⟨by decide +kernel, by decide +kernel⟩, List.mem_of_getElem? (i := 719) (by decide +kernel), List.mem_of_getElem? (i := 947) (by decide +kernel), List.mem_of_getElem? (i := 948) (by decide +kernel)⟩
theorem lw_p35 : lw_okq (⟨"ChoiceCodeModel", "runOn", "(I)I"⟩, 41) := ⟨⟨by decide +kernel, by decide +kernel⟩, List.mem_of_getElem? (i := 719) (by decide +kernel), List.mem_of_getElem? (i := 951) (by decide +kernel), List.mem_of_getElem? (i := 952) (by decide +kernel)⟩
theorem lw_p36 : lw_okq (⟨"ChoiceCodeModel", "within", "(II)I"⟩, 41) := ⟨⟨by decide +kernel, by decide +kernel⟩, List.mem_of_getElem? (i := 719) (by decide +kernel), List.mem_of_getElem? (i := 955) (by decide +kernel), List.mem_of_getElem? (i := 956) (by decide +kernel)⟩
theorem lw_p37 : lw_okq (⟨"ChoiceCodeModel", "stepsOf", "(J)I"⟩, 41) := ⟨⟨by decide +kernel, by decide +kernel⟩, List.mem_of_getElem? (i := 719) (by decide +kernel), List.mem_of_getElem? (i := 963) (by decide +kernel), List.mem_of_getElem? (i := 964) (by decide +kernel)⟩
theorem lw_p38 : lw_okq (⟨"ChoiceCodeModel", "caseOf", "(J)I"⟩, 41) := ⟨⟨by decide +kernel, by decide +kernel⟩, List.mem_of_getElem? (i := 719) (by decide +kernel), List.mem_of_getElem? (i := 971) (by decide +kernel), List.mem_of_getElem? (i := 972) (by decide +kernel)⟩
theorem lw_p39 : lw_okq (⟨"ChoiceCodeModel", "numbers", "()I"⟩, 41) := ⟨⟨by decide +kernel, by decide +kernel⟩, List.mem_of_getElem? (i := 719) (by decide +kernel), List.mem_of_getElem? (i := 983) (by decide +kernel), List.mem_of_getElem? (i := 984) (by decide +kernel)⟩
theorem lw_p40 : lw_okq (⟨"ChoiceCodeModel", "mostSteps", "()I"⟩, 41) := ⟨⟨by decide +kernel, by decide +kernel⟩, List.mem_of_getElem? (i := 719) (by decide +kernel), List.mem_of_getElem? (i := 987) (by decide +kernel), List.mem_of_getElem? (i := 988) (by decide +kernel)⟩
theorem lw_p41 : lw_okq (⟨"ChoiceCodeModel", "noLine", "(I)Z"⟩, 41) := ⟨⟨by decide +kernel, by decide +kernel⟩, List.mem_of_getElem? (i := 719) (by decide +kernel), List.mem_of_getElem? (i := 1007) (by decide +kernel), List.mem_of_getElem? (i := 1008) (by decide +kernel)⟩
theorem lw_p42 : lw_okq (⟨"ChoiceCodeModel", "printLine", "(I)V"⟩, 41) := ⟨⟨by decide +kernel, by decide +kernel⟩, List.mem_of_getElem? (i := 719) (by decide +kernel), List.mem_of_getElem? (i := 1024) (by decide +kernel), List.mem_of_getElem? (i := 1025) (by decide +kernel)⟩
theorem lw_p43 : lw_okq (⟨"ChoiceCodeModel", "plain", "(J)V"⟩, 41) := ⟨⟨by decide +kernel, by decide +kernel⟩, List.mem_of_getElem? (i := 719) (by decide +kernel), List.mem_of_getElem? (i := 1028) (by decide +kernel), List.mem_of_getElem? (i := 1029) (by decide +kernel)⟩
theorem lw_p44 : lw_okq (⟨"ChoiceCodeModel", "put", "(I)V"⟩, 41) := ⟨⟨by decide +kernel, by decide +kernel⟩, List.mem_of_getElem? (i := 719) (by decide +kernel), List.mem_of_getElem? (i := 1035) (by decide +kernel), List.mem_of_getElem? (i := 1036) (by decide +kernel)⟩
theorem lw_p45 : lw_okq (⟨"ChoiceCodeModel", "name", "(IIIII)V"⟩, 41) := ⟨⟨by decide +kernel, by decide +kernel⟩, List.mem_of_getElem? (i := 719) (by decide +kernel), List.mem_of_getElem? (i := 1039) (by decide +kernel), List.mem_of_getElem? (i := 1040) (by decide +kernel)⟩
theorem lw_p46 : lw_okq (⟨"ChoiceCodeModel", "number", "(J)V"⟩, 41) := ⟨⟨by decide +kernel, by decide +kernel⟩, List.mem_of_getElem? (i := 719) (by decide +kernel), List.mem_of_getElem? (i := 1043) (by decide +kernel), List.mem_of_getElem? (i := 1044) (by decide +kernel)⟩
theorem lw_p47 : lw_okq (⟨"ChoiceCodeModel", "sixteen", "(J)V"⟩, 41) := ⟨⟨by decide +kernel, by decide +kernel⟩, List.mem_of_getElem? (i := 719) (by decide +kernel), List.mem_of_getElem? (i := 1047) (by decide +kernel), List.mem_of_getElem? (i := 1048) (by decide +kernel)⟩
def lw_privs_3 : List (MethodName × Nat) := [(⟨"ChoiceCodeModel", "top", "(I)I"⟩, 41), (⟨"ChoiceCodeModel", "ends", "(IJJ)I"⟩, 41), (⟨"ChoiceCodeModel", "layBits", "(III)V"⟩, 41), (⟨"ChoiceCodeModel", "runOn", "(I)I"⟩, 41), (⟨"ChoiceCodeModel", "within", "(II)I"⟩, 41), (⟨"ChoiceCodeModel", "stepsOf", "(J)I"⟩, 41), (⟨"ChoiceCodeModel", "caseOf", "(J)I"⟩, 41), (⟨"ChoiceCodeModel", "numbers", "()I"⟩, 41), (⟨"ChoiceCodeModel", "mostSteps", "()I"⟩, 41), (⟨"ChoiceCodeModel", "noLine", "(I)Z"⟩, 41), (⟨"ChoiceCodeModel", "printLine", "(I)V"⟩, 41), (⟨"ChoiceCodeModel", "plain", "(J)V"⟩, 41), (⟨"ChoiceCodeModel", "put", "(I)V"⟩, 41), (⟨"ChoiceCodeModel", "name", "(IIIII)V"⟩, 41), (⟨"ChoiceCodeModel", "number", "(J)V"⟩, 41), (⟨"ChoiceCodeModel", "sixteen", "(J)V"⟩, 41)]
theorem lw_r3 : ∀ q ∈ lw_privs_3, lw_okq q := List.forall_mem_cons.mpr ⟨lw_p32, List.forall_mem_cons.mpr ⟨lw_p33, List.forall_mem_cons.mpr ⟨lw_p34, List.forall_mem_cons.mpr ⟨lw_p35, List.forall_mem_cons.mpr ⟨lw_p36, List.forall_mem_cons.mpr ⟨lw_p37, List.forall_mem_cons.mpr ⟨lw_p38, List.forall_mem_cons.mpr ⟨lw_p39, List.forall_mem_cons.mpr ⟨lw_p40, List.forall_mem_cons.mpr ⟨lw_p41, List.forall_mem_cons.mpr ⟨lw_p42, List.forall_mem_cons.mpr ⟨lw_p43, List.forall_mem_cons.mpr ⟨lw_p44, List.forall_mem_cons.mpr ⟨lw_p45, List.forall_mem_cons.mpr ⟨lw_p46, List.forall_mem_cons.mpr ⟨lw_p47, fun _ h => absurd h List.not_mem_nil⟩⟩⟩⟩⟩⟩⟩⟩⟩⟩⟩⟩⟩⟩⟩⟩
def lw_privs : List (MethodName × Nat) := lw_privs_1 ++ (lw_privs_2 ++ (lw_privs_3))
def lw_tbl : List Cond := k2_sels lw_privs ++ tables_1
theorem lw_privs_ok : ∀ q ∈ lw_privs, lw_okq q := by
  show ∀ q ∈ lw_privs_1 ++ (lw_privs_2 ++ (lw_privs_3)), lw_okq q
  exact List.forall_mem_append.mpr ⟨lw_r1, List.forall_mem_append.mpr ⟨lw_r2, lw_r3⟩⟩
-- ===== end of PART A; then your names; then what follows =====
end
section

def RX0 : String := "ChoiceCode$Clusters"
def TX0 : u_T := fun k => match k with
  | 0 => ("ChoiceCode$Clusters", "runs", "LChoiceCode$Spans;", true)
  | 1 => ("ChoiceCode$Clusters", "kinds", "[I", true)
  | 2 => ("ChoiceCode$Clusters", "firsts", "[I", true)
  | 3 => ("ChoiceCode$Clusters", "lasts", "[I", true)
  | 4 => ("ChoiceCode$Clusters", "weights", "[I", true)
  | 5 => ("ChoiceCode$Clusters", "fewest", "[I", true)
  | 6 => ("ChoiceCode$Clusters", "ends", "[I", true)
  | 7 => ("ChoiceCode$Clusters", "density", "I", false)
  | 8 => ("ChoiceCode$Clusters", "size", "I", false)
  | _ => ("ChoiceCode$Clusters", "held", "I", false)
def tyX0 : Nat → FieldType := fun k => match k with
  | 0 => .object "ChoiceCode$Spans"
  | 1 => .array .int
  | 2 => .array .int
  | 3 => .array .int
  | 4 => .array .int
  | 5 => .array .int
  | 6 => .array .int
  | 7 => .int
  | 8 => .int
  | _ => .int
abbrev wsX00 : List Cond := u_ws RX0 TX0 10
theorem nmX0 : ∀ a, a < 10 → ∀ b, b < 10 → a ≠ b → (TX0 a).2.1 ≠ (TX0 b).2.1 := by decide +kernel
theorem tyX0_ok : ∀ k, k < 10 → parseFieldDescriptor (TX0 k).2.2.1 = some (tyX0 k) := by decide +kernel
abbrev cX0_init : ByteArray := prog_2_method_1_code
def yX0_init : MethodName := ⟨RX0, "<init>", "(LChoiceCode$Spans;)V"⟩
abbrev cX0_has : ByteArray := prog_2_method_2_code
def yX0_has : MethodName := ⟨RX0, "has", "(I)Z"⟩
abbrev cX0_held : ByteArray := prog_2_method_3_code
def yX0_held : MethodName := ⟨RX0, "held", "()I"⟩
abbrev cX0_kind : ByteArray := prog_2_method_4_code
def yX0_kind : MethodName := ⟨RX0, "kind", "(I)I"⟩
abbrev cX0_firstRun : ByteArray := prog_2_method_5_code
def yX0_firstRun : MethodName := ⟨RX0, "firstRun", "(I)I"⟩
abbrev cX0_lastRun : ByteArray := prog_2_method_6_code
def yX0_lastRun : MethodName := ⟨RX0, "lastRun", "(I)I"⟩
abbrev cX0_weight : ByteArray := prog_2_method_7_code
def yX0_weight : MethodName := ⟨RX0, "weight", "(I)I"⟩
abbrev cX0_runsOf : ByteArray := prog_2_method_8_code
def yX0_runsOf : MethodName := ⟨RX0, "runsOf", "(I)I"⟩
abbrev cX0_bottom : ByteArray := prog_2_method_9_code
def yX0_bottom : MethodName := ⟨RX0, "bottom", "(I)I"⟩
abbrev cX0_top : ByteArray := prog_2_method_10_code
def yX0_top : MethodName := ⟨RX0, "top", "(I)I"⟩
abbrev cX0_part : ByteArray := prog_2_method_11_code
def yX0_part : MethodName := ⟨RX0, "part", "(II)V"⟩
abbrev cX0_findFewest : ByteArray := prog_2_method_12_code
def yX0_findFewest : MethodName := ⟨RX0, "findFewest", "()V"⟩
abbrev cX0_kindOf : ByteArray := prog_2_method_13_code
def yX0_kindOf : MethodName := ⟨RX0, "kindOf", "(II)I"⟩
def RX1 : String := "ChoiceCode$Code"
def TX1 : u_T := fun k => match k with
  | 0 => ("ChoiceCode$Code", "runs", "LChoiceCode$Spans;", true)
  | 1 => ("ChoiceCode$Code", "clusters", "LChoiceCode$Clusters;", true)
  | 2 => ("ChoiceCode$Code", "tree", "LChoiceCode$Tree;", true)
  | 3 => ("ChoiceCode$Code", "kinds", "[I", true)
  | 4 => ("ChoiceCode$Code", "firsts", "[I", true)
  | 5 => ("ChoiceCode$Code", "seconds", "[I", true)
  | 6 => ("ChoiceCode$Code", "rows", "[J", true)
  | 7 => ("ChoiceCode$Code", "starts", "[I", true)
  | 8 => ("ChoiceCode$Code", "numbers", "[I", true)
  | 9 => ("ChoiceCode$Code", "length", "I", false)
  | 10 => ("ChoiceCode$Code", "used", "I", false)
  | 11 => ("ChoiceCode$Code", "restTarget", "I", false)
  | 12 => ("ChoiceCode$Code", "target", "I", false)
  | _ => ("ChoiceCode$Code", "done", "I", false)
def tyX1 : Nat → FieldType := fun k => match k with
  | 0 => .object "ChoiceCode$Spans"
  | 1 => .object "ChoiceCode$Clusters"
  | 2 => .object "ChoiceCode$Tree"
  | 3 => .array .int
  | 4 => .array .int
  | 5 => .array .int
  | 6 => .array .long
  | 7 => .array .int
  | 8 => .array .int
  | 9 => .int
  | 10 => .int
  | 11 => .int
  | 12 => .int
  | _ => .int
abbrev wsX10 : List Cond := u_ws RX1 TX1 14
theorem nmX1 : ∀ a, a < 14 → ∀ b, b < 14 → a ≠ b → (TX1 a).2.1 ≠ (TX1 b).2.1 := by decide +kernel
theorem tyX1_ok : ∀ k, k < 14 → parseFieldDescriptor (TX1 k).2.2.1 = some (tyX1 k) := by decide +kernel
abbrev cX1_init : ByteArray := prog_3_method_1_code
def yX1_init : MethodName := ⟨RX1, "<init>", "(LChoiceCode$Spans;LChoiceCode$Clusters;LChoiceCode$Tree;)V"⟩
abbrev cX1_has : ByteArray := prog_3_method_2_code
def yX1_has : MethodName := ⟨RX1, "has", "(I)Z"⟩
abbrev cX1_length : ByteArray := prog_3_method_3_code
def yX1_length : MethodName := ⟨RX1, "length", "()I"⟩
abbrev cX1_numbersInTables : ByteArray := prog_3_method_4_code
def yX1_numbersInTables : MethodName := ⟨RX1, "numbersInTables", "()I"⟩
abbrev cX1_target : ByteArray := prog_3_method_5_code
def yX1_target : MethodName := ⟨RX1, "target", "()I"⟩
abbrev cX1_linesDone : ByteArray := prog_3_method_6_code
def yX1_linesDone : MethodName := ⟨RX1, "linesDone", "()I"⟩
abbrev cX1_kind : ByteArray := prog_3_method_7_code
def yX1_kind : MethodName := ⟨RX1, "kind", "(I)I"⟩
abbrev cX1_first : ByteArray := prog_3_method_8_code
def yX1_first : MethodName := ⟨RX1, "first", "(I)I"⟩
abbrev cX1_second : ByteArray := prog_3_method_9_code
def yX1_second : MethodName := ⟨RX1, "second", "(I)I"⟩
abbrev cX1_row : ByteArray := prog_3_method_10_code
def yX1_row : MethodName := ⟨RX1, "row", "(I)J"⟩
abbrev cX1_number : ByteArray := prog_3_method_11_code
def yX1_number : MethodName := ⟨RX1, "number", "(IJ)I"⟩
abbrev cX1_layOut : ByteArray := prog_3_method_12_code
def yX1_layOut : MethodName := ⟨RX1, "layOut", "(I)V"⟩
abbrev cX1_layPart : ByteArray := prog_3_method_13_code
def yX1_layPart : MethodName := ⟨RX1, "layPart", "(IIIII)V"⟩
abbrev cX1_layLeaf : ByteArray := prog_3_method_14_code
def yX1_layLeaf : MethodName := ⟨RX1, "layLeaf", "(III)V"⟩
abbrev cX1_layBits : ByteArray := prog_3_method_15_code
def yX1_layBits : MethodName := ⟨RX1, "layBits", "(II)V"⟩
abbrev cX1_layTable : ByteArray := prog_3_method_16_code
def yX1_layTable : MethodName := ⟨RX1, "layTable", "(III)V"⟩
abbrev cX1_fill : ByteArray := prog_3_method_17_code
def yX1_fill : MethodName := ⟨RX1, "fill", "(III)V"⟩
abbrev cX1_write : ByteArray := prog_3_method_18_code
def yX1_write : MethodName := ⟨RX1, "write", "(IIIJ)I"⟩
abbrev cX1_aim : ByteArray := prog_3_method_19_code
def yX1_aim : MethodName := ⟨RX1, "aim", "(II)V"⟩
abbrev cX1_follow : ByteArray := prog_3_method_20_code
def yX1_follow : MethodName := ⟨RX1, "follow", "(I)V"⟩
abbrev cX1_doLine : ByteArray := prog_3_method_21_code
def yX1_doLine : MethodName := ⟨RX1, "doLine", "(II)I"⟩
abbrev cX1_hasBit : ByteArray := prog_3_method_22_code
def yX1_hasBit : MethodName := ⟨RX1, "hasBit", "(IJ)Z"⟩
abbrev cX1_endWith : ByteArray := prog_3_method_23_code
def yX1_endWith : MethodName := ⟨RX1, "endWith", "(I)I"⟩
abbrev cX1_printTo : ByteArray := prog_3_method_24_code
def yX1_printTo : MethodName := ⟨RX1, "printTo", "(LChoiceCode$Text;)V"⟩
abbrev cX1_printLine : ByteArray := prog_3_method_25_code
def yX1_printLine : MethodName := ⟨RX1, "printLine", "(ILChoiceCode$Text;)V"⟩
abbrev cX1_wordOf : ByteArray := prog_3_method_26_code
def yX1_wordOf : MethodName := ⟨RX1, "wordOf", "(I)Ljava/lang/String;"⟩
def RX2 : String := "ChoiceCode$Spans"
def TX2 : u_T := fun k => match k with
  | 0 => ("ChoiceCode$Spans", "lows", "[I", true)
  | 1 => ("ChoiceCode$Spans", "highs", "[I", true)
  | 2 => ("ChoiceCode$Spans", "targets", "[I", true)
  | 3 => ("ChoiceCode$Spans", "weights", "[I", true)
  | _ => ("ChoiceCode$Spans", "held", "I", false)
def tyX2 : Nat → FieldType := fun k => match k with
  | 0 => .array .int
  | 1 => .array .int
  | 2 => .array .int
  | 3 => .array .int
  | _ => .int
abbrev wsX20 : List Cond := u_ws RX2 TX2 5
theorem nmX2 : ∀ a, a < 5 → ∀ b, b < 5 → a ≠ b → (TX2 a).2.1 ≠ (TX2 b).2.1 := by decide +kernel
theorem tyX2_ok : ∀ k, k < 5 → parseFieldDescriptor (TX2 k).2.2.1 = some (tyX2 k) := by decide +kernel
abbrev cX2_init : ByteArray := prog_4_method_1_code
def yX2_init : MethodName := ⟨RX2, "<init>", "()V"⟩
abbrev cX2_has : ByteArray := prog_4_method_2_code
def yX2_has : MethodName := ⟨RX2, "has", "(I)Z"⟩
abbrev cX2_held : ByteArray := prog_4_method_3_code
def yX2_held : MethodName := ⟨RX2, "held", "()I"⟩
abbrev cX2_low : ByteArray := prog_4_method_4_code
def yX2_low : MethodName := ⟨RX2, "low", "(I)I"⟩
abbrev cX2_high : ByteArray := prog_4_method_5_code
def yX2_high : MethodName := ⟨RX2, "high", "(I)I"⟩
abbrev cX2_target : ByteArray := prog_4_method_6_code
def yX2_target : MethodName := ⟨RX2, "target", "(I)I"⟩
abbrev cX2_weight : ByteArray := prog_4_method_7_code
def yX2_weight : MethodName := ⟨RX2, "weight", "(I)I"⟩
abbrev cX2_tell : ByteArray := prog_4_method_8_code
def yX2_tell : MethodName := ⟨RX2, "tell", "(II)I"⟩
abbrev cX2_firstFree : ByteArray := prog_4_method_9_code
def yX2_firstFree : MethodName := ⟨RX2, "firstFree", "()I"⟩
abbrev cX2_firstMeeting : ByteArray := prog_4_method_10_code
def yX2_firstMeeting : MethodName := ⟨RX2, "firstMeeting", "(II)I"⟩
abbrev cX2_nextByLow : ByteArray := prog_4_method_11_code
def yX2_nextByLow : MethodName := ⟨RX2, "nextByLow", "(J)I"⟩
abbrev cX2_set : ByteArray := prog_4_method_12_code
def yX2_set : MethodName := ⟨RX2, "set", "(IIIII)V"⟩
abbrev cX2_free : ByteArray := prog_4_method_13_code
def yX2_free : MethodName := ⟨RX2, "free", "(I)V"⟩
abbrev cX2_gather : ByteArray := prog_4_method_14_code
def yX2_gather : MethodName := ⟨RX2, "gather", "(LChoiceCode$Spans;I)V"⟩
abbrev cX2_join : ByteArray := prog_4_method_15_code
def yX2_join : MethodName := ⟨RX2, "join", "(IIII)V"⟩
abbrev cX2_unlikeTargets : ByteArray := prog_4_method_16_code
def yX2_unlikeTargets : MethodName := ⟨RX2, "unlikeTargets", "(II)I"⟩
abbrev cX2_intsIn : ByteArray := prog_4_method_17_code
def yX2_intsIn : MethodName := ⟨RX2, "intsIn", "(II)J"⟩
abbrev cX2_weightOf : ByteArray := prog_4_method_18_code
def yX2_weightOf : MethodName := ⟨RX2, "weightOf", "(II)I"⟩
abbrev cX2_rowOfBits : ByteArray := prog_4_method_19_code
def yX2_rowOfBits : MethodName := ⟨RX2, "rowOfBits", "(III)J"⟩
def RX3 : String := "ChoiceCode$Text"
def TX3 : u_T := fun k => match k with
  | 0 => ("ChoiceCode$Text", "bytes", "[B", false)
  | _ => ("ChoiceCode$Text", "length", "I", false)
def tyX3 : Nat → FieldType := fun k => match k with
  | 0 => .array .byte
  | _ => .int
abbrev wsX30 : List Cond := u_ws RX3 TX3 2
theorem nmX3 : ∀ a, a < 2 → ∀ b, b < 2 → a ≠ b → (TX3 a).2.1 ≠ (TX3 b).2.1 := by decide +kernel
theorem tyX3_ok : ∀ k, k < 2 → parseFieldDescriptor (TX3 k).2.2.1 = some (tyX3 k) := by decide +kernel
abbrev cX3_init : ByteArray := prog_5_method_1_code
def yX3_init : MethodName := ⟨RX3, "<init>", "()V"⟩
abbrev cX3_length : ByteArray := prog_5_method_2_code
def yX3_length : MethodName := ⟨RX3, "length", "()I"⟩
abbrev cX3_clear : ByteArray := prog_5_method_3_code
def yX3_clear : MethodName := ⟨RX3, "clear", "()V"⟩
abbrev cX3_byteAt : ByteArray := prog_5_method_4_code
def yX3_byteAt : MethodName := ⟨RX3, "byteAt", "(I)I"⟩
abbrev cX3_word : ByteArray := prog_5_method_5_code
def yX3_word : MethodName := ⟨RX3, "word", "(Ljava/lang/String;)V"⟩
abbrev cX3_number : ByteArray := prog_5_method_6_code
def yX3_number : MethodName := ⟨RX3, "number", "(I)V"⟩
abbrev cX3_figures : ByteArray := prog_5_method_7_code
def yX3_figures : MethodName := ⟨RX3, "figures", "(J)V"⟩
abbrev cX3_put : ByteArray := prog_5_method_8_code
def yX3_put : MethodName := ⟨RX3, "put", "(I)V"⟩
def RX4 : String := "ChoiceCode$Tree"
def TX4 : u_T := fun k => match k with
  | 0 => ("ChoiceCode$Tree", "clusters", "LChoiceCode$Clusters;", true)
  | 1 => ("ChoiceCode$Tree", "costs", "[I", true)
  | 2 => ("ChoiceCode$Tree", "splits", "[I", true)
  | _ => ("ChoiceCode$Tree", "way", "I", false)
def tyX4 : Nat → FieldType := fun k => match k with
  | 0 => .object "ChoiceCode$Clusters"
  | 1 => .array .int
  | 2 => .array .int
  | _ => .int
abbrev wsX40 : List Cond := u_ws RX4 TX4 4
theorem nmX4 : ∀ a, a < 4 → ∀ b, b < 4 → a ≠ b → (TX4 a).2.1 ≠ (TX4 b).2.1 := by decide +kernel
theorem tyX4_ok : ∀ k, k < 4 → parseFieldDescriptor (TX4 k).2.2.1 = some (tyX4 k) := by decide +kernel
abbrev cX4_init : ByteArray := prog_6_method_1_code
def yX4_init : MethodName := ⟨RX4, "<init>", "(LChoiceCode$Clusters;)V"⟩
abbrev cX4_plan : ByteArray := prog_6_method_2_code
def yX4_plan : MethodName := ⟨RX4, "plan", "(I)V"⟩
abbrev cX4_split : ByteArray := prog_6_method_3_code
def yX4_split : MethodName := ⟨RX4, "split", "(II)I"⟩
abbrev cX4_questionsAbove : ByteArray := prog_6_method_4_code
def yX4_questionsAbove : MethodName := ⟨RX4, "questionsAbove", "(I)I"⟩
abbrev cX4_findCheapest : ByteArray := prog_6_method_5_code
def yX4_findCheapest : MethodName := ⟨RX4, "findCheapest", "(II)V"⟩
abbrev cX4_costOf : ByteArray := prog_6_method_6_code
def yX4_costOf : MethodName := ⟨RX4, "costOf", "(II)I"⟩
abbrev cX4_place : ByteArray := prog_6_method_7_code
def yX4_place : MethodName := ⟨RX4, "place", "(II)I"⟩
def RX5 : String := "ChoiceCode"
def TX5 : u_T := fun k => match k with
  | 0 => ("ChoiceCode", "cases", "LChoiceCode$Spans;", true)
  | 1 => ("ChoiceCode", "runs", "LChoiceCode$Spans;", true)
  | 2 => ("ChoiceCode", "clusters", "LChoiceCode$Clusters;", true)
  | 3 => ("ChoiceCode", "tree", "LChoiceCode$Tree;", true)
  | 4 => ("ChoiceCode", "code", "LChoiceCode$Code;", true)
  | 5 => ("ChoiceCode", "text", "LChoiceCode$Text;", true)
  | 6 => ("ChoiceCode", "restTarget", "I", false)
  | 7 => ("ChoiceCode", "restWeight", "I", false)
  | 8 => ("ChoiceCode", "density", "I", false)
  | 9 => ("ChoiceCode", "size", "I", false)
  | 10 => ("ChoiceCode", "wayOfTree", "I", false)
  | 11 => ("ChoiceCode", "clashed", "I", false)
  | _ => ("ChoiceCode", "stale", "Z", false)
def tyX5 : Nat → FieldType := fun k => match k with
  | 0 => .object "ChoiceCode$Spans"
  | 1 => .object "ChoiceCode$Spans"
  | 2 => .object "ChoiceCode$Clusters"
  | 3 => .object "ChoiceCode$Tree"
  | 4 => .object "ChoiceCode$Code"
  | 5 => .object "ChoiceCode$Text"
  | 6 => .int
  | 7 => .int
  | 8 => .int
  | 9 => .int
  | 10 => .int
  | 11 => .int
  | _ => .boolean
abbrev wsX50 : List Cond := u_ws RX5 TX5 13
theorem nmX5 : ∀ a, a < 13 → ∀ b, b < 13 → a ≠ b → (TX5 a).2.1 ≠ (TX5 b).2.1 := by decide +kernel
theorem tyX5_ok : ∀ k, k < 13 → parseFieldDescriptor (TX5 k).2.2.1 = some (tyX5 k) := by decide +kernel
abbrev cX5_init : ByteArray := prog_1_method_1_code
def yX5_init : MethodName := ⟨RX5, "<init>", "()V"⟩
abbrev cX5_add : ByteArray := prog_1_method_2_code
def yX5_add : MethodName := ⟨RX5, "add", "(IIII)I"⟩
abbrev cX5_clash : ByteArray := prog_1_method_3_code
def yX5_clash : MethodName := ⟨RX5, "clash", "()I"⟩
abbrev cX5_drop : ByteArray := prog_1_method_4_code
def yX5_drop : MethodName := ⟨RX5, "drop", "(I)I"⟩
abbrev cX5_rest : ByteArray := prog_1_method_5_code
def yX5_rest : MethodName := ⟨RX5, "rest", "(II)I"⟩
abbrev cX5_tables : ByteArray := prog_1_method_6_code
def yX5_tables : MethodName := ⟨RX5, "tables", "(II)I"⟩
abbrev cX5_way : ByteArray := prog_1_method_7_code
def yX5_way : MethodName := ⟨RX5, "way", "(I)I"⟩
abbrev cX5_told : ByteArray := prog_1_method_8_code
def yX5_told : MethodName := ⟨RX5, "told", "(II)I"⟩
abbrev cX5_count : ByteArray := prog_1_method_9_code
def yX5_count : MethodName := ⟨RX5, "count", "(I)I"⟩
abbrev cX5_run : ByteArray := prog_1_method_10_code
def yX5_run : MethodName := ⟨RX5, "run", "(II)I"⟩
abbrev cX5_cluster : ByteArray := prog_1_method_11_code
def yX5_cluster : MethodName := ⟨RX5, "cluster", "(II)I"⟩
abbrev cX5_cost : ByteArray := prog_1_method_12_code
def yX5_cost : MethodName := ⟨RX5, "cost", "()I"⟩
abbrev cX5_line : ByteArray := prog_1_method_13_code
def yX5_line : MethodName := ⟨RX5, "line", "(II)I"⟩
abbrev cX5_bits : ByteArray := prog_1_method_14_code
def yX5_bits : MethodName := ⟨RX5, "bits", "(I)J"⟩
abbrev cX5_entry : ByteArray := prog_1_method_15_code
def yX5_entry : MethodName := ⟨RX5, "entry", "(II)I"⟩
abbrev cX5_go : ByteArray := prog_1_method_16_code
def yX5_go : MethodName := ⟨RX5, "go", "(I)I"⟩
abbrev cX5_steps : ByteArray := prog_1_method_17_code
def yX5_steps : MethodName := ⟨RX5, "steps", "(I)I"⟩
abbrev cX5_by : ByteArray := prog_1_method_18_code
def yX5_by : MethodName := ⟨RX5, "by", "(I)I"⟩
abbrev cX5_spent : ByteArray := prog_1_method_19_code
def yX5_spent : MethodName := ⟨RX5, "spent", "()J"⟩
abbrev cX5_print : ByteArray := prog_1_method_20_code
def yX5_print : MethodName := ⟨RX5, "print", "()I"⟩
abbrev cX5_out : ByteArray := prog_1_method_21_code
def yX5_out : MethodName := ⟨RX5, "out", "(I)I"⟩
abbrev cX5_within : ByteArray := prog_1_method_22_code
def yX5_within : MethodName := ⟨RX5, "within", "(III)Z"⟩
abbrev cX5_isTarget : ByteArray := prog_1_method_23_code
def yX5_isTarget : MethodName := ⟨RX5, "isTarget", "(I)Z"⟩
abbrev cX5_isWeight : ByteArray := prog_1_method_24_code
def yX5_isWeight : MethodName := ⟨RX5, "isWeight", "(I)Z"⟩
abbrev cX5_workOut : ByteArray := prog_1_method_25_code
def yX5_workOut : MethodName := ⟨RX5, "workOut", "()V"⟩
abbrev cX5_stepsOf : ByteArray := prog_1_method_26_code
def yX5_stepsOf : MethodName := ⟨RX5, "stepsOf", "(I)I"⟩
abbrev cX5_mostSteps : ByteArray := prog_1_method_27_code
def yX5_mostSteps : MethodName := ⟨RX5, "mostSteps", "()I"⟩
abbrev cX5_leastInNoCase : ByteArray := prog_1_method_28_code
def yX5_leastInNoCase : MethodName := ⟨RX5, "leastInNoCase", "()J"⟩
def RX6 : String := "ChoiceCodeModel"
def TX6 : u_T := fun k => match k with
  | 0 => ("ChoiceCodeModel", "isThere", "[Z", true)
  | 1 => ("ChoiceCodeModel", "caseLow", "[I", true)
  | 2 => ("ChoiceCodeModel", "caseHigh", "[I", true)
  | 3 => ("ChoiceCodeModel", "caseTarget", "[I", true)
  | 4 => ("ChoiceCodeModel", "caseWeight", "[I", true)
  | 5 => ("ChoiceCodeModel", "cases", "I", false)
  | 6 => ("ChoiceCodeModel", "clash", "I", false)
  | 7 => ("ChoiceCodeModel", "restTarget", "I", false)
  | 8 => ("ChoiceCodeModel", "restWeight", "I", false)
  | 9 => ("ChoiceCodeModel", "density", "I", false)
  | 10 => ("ChoiceCodeModel", "most", "I", false)
  | 11 => ("ChoiceCodeModel", "way", "I", false)
  | 12 => ("ChoiceCodeModel", "low", "[I", true)
  | 13 => ("ChoiceCodeModel", "high", "[I", true)
  | 14 => ("ChoiceCodeModel", "target", "[I", true)
  | 15 => ("ChoiceCodeModel", "weight", "[I", true)
  | 16 => ("ChoiceCodeModel", "runs", "I", false)
  | 17 => ("ChoiceCodeModel", "kind", "[I", true)
  | 18 => ("ChoiceCodeModel", "first", "[I", true)
  | 19 => ("ChoiceCodeModel", "many", "[I", true)
  | 20 => ("ChoiceCodeModel", "clusters", "I", false)
  | 21 => ("ChoiceCodeModel", "fewest", "[I", true)
  | 22 => ("ChoiceCodeModel", "costs", "[J", true)
  | 23 => ("ChoiceCodeModel", "cuts", "[I", true)
  | 24 => ("ChoiceCodeModel", "deep", "[I", true)
  | 25 => ("ChoiceCodeModel", "what", "[I", true)
  | 26 => ("ChoiceCodeModel", "one", "[I", true)
  | 27 => ("ChoiceCodeModel", "two", "[I", true)
  | 28 => ("ChoiceCodeModel", "row", "[J", true)
  | 29 => ("ChoiceCodeModel", "of", "[I", true)
  | 30 => ("ChoiceCodeModel", "lines", "I", false)
  | 31 => ("ChoiceCodeModel", "partFrom", "[I", true)
  | 32 => ("ChoiceCodeModel", "partTo", "[I", true)
  | 33 => ("ChoiceCodeModel", "partDeep", "[I", true)
  | 34 => ("ChoiceCodeModel", "partLeast", "[J", true)
  | 35 => ("ChoiceCodeModel", "partMost", "[J", true)
  | 36 => ("ChoiceCodeModel", "partPatch", "[I", true)
  | 37 => ("ChoiceCodeModel", "parts", "I", false)
  | 38 => ("ChoiceCodeModel", "took", "I", false)
  | 39 => ("ChoiceCodeModel", "out", "[B", true)
  | _ => ("ChoiceCodeModel", "outs", "I", false)
def tyX6 : Nat → FieldType := fun k => match k with
  | 0 => .array .boolean
  | 1 => .array .int
  | 2 => .array .int
  | 3 => .array .int
  | 4 => .array .int
  | 5 => .int
  | 6 => .int
  | 7 => .int
  | 8 => .int
  | 9 => .int
  | 10 => .int
  | 11 => .int
  | 12 => .array .int
  | 13 => .array .int
  | 14 => .array .int
  | 15 => .array .int
  | 16 => .int
  | 17 => .array .int
  | 18 => .array .int
  | 19 => .array .int
  | 20 => .int
  | 21 => .array .int
  | 22 => .array .long
  | 23 => .array .int
  | 24 => .array .int
  | 25 => .array .int
  | 26 => .array .int
  | 27 => .array .int
  | 28 => .array .long
  | 29 => .array .int
  | 30 => .int
  | 31 => .array .int
  | 32 => .array .int
  | 33 => .array .int
  | 34 => .array .long
  | 35 => .array .long
  | 36 => .array .int
  | 37 => .int
  | 38 => .int
  | 39 => .array .byte
  | _ => .int
abbrev wsX60 : List Cond := u_ws RX6 TX6 41
theorem nmX6 : ∀ a, a < 41 → ∀ b, b < 41 → a ≠ b → (TX6 a).2.1 ≠ (TX6 b).2.1 := by decide +kernel
theorem tyX6_ok : ∀ k, k < 41 → parseFieldDescriptor (TX6 k).2.2.1 = some (tyX6 k) := by decide +kernel
abbrev cX6_init : ByteArray := prog_8_method_1_code
def yX6_init : MethodName := ⟨RX6, "<init>", "()V"⟩
abbrev cX6_in : ByteArray := prog_8_method_3_code
def yX6_in : MethodName := ⟨RX6, "in", "(JJJ)Z"⟩
abbrev cX6_add : ByteArray := prog_8_method_4_code
def yX6_add : MethodName := ⟨RX6, "add", "(IIII)I"⟩
abbrev cX6_clash : ByteArray := prog_8_method_5_code
def yX6_clash : MethodName := ⟨RX6, "clash", "()I"⟩
abbrev cX6_noCase : ByteArray := prog_8_method_6_code
def yX6_noCase : MethodName := ⟨RX6, "noCase", "(I)Z"⟩
abbrev cX6_drop : ByteArray := prog_8_method_7_code
def yX6_drop : MethodName := ⟨RX6, "drop", "(I)I"⟩
abbrev cX6_rest : ByteArray := prog_8_method_8_code
def yX6_rest : MethodName := ⟨RX6, "rest", "(II)I"⟩
abbrev cX6_tables : ByteArray := prog_8_method_9_code
def yX6_tables : MethodName := ⟨RX6, "tables", "(II)I"⟩
abbrev cX6_way : ByteArray := prog_8_method_10_code
def yX6_way : MethodName := ⟨RX6, "way", "(I)I"⟩
abbrev cX6_told : ByteArray := prog_8_method_11_code
def yX6_told : MethodName := ⟨RX6, "told", "(II)I"⟩
abbrev cX6_makeRuns : ByteArray := prog_8_method_12_code
def yX6_makeRuns : MethodName := ⟨RX6, "makeRuns", "()V"⟩
abbrev cX6_kindOf : ByteArray := prog_8_method_13_code
def yX6_kindOf : MethodName := ⟨RX6, "kindOf", "(II)I"⟩
abbrev cX6_makeClusters : ByteArray := prog_8_method_14_code
def yX6_makeClusters : MethodName := ⟨RX6, "makeClusters", "()V"⟩
abbrev cX6_bottom : ByteArray := prog_8_method_15_code
def yX6_bottom : MethodName := ⟨RX6, "bottom", "(I)I"⟩
abbrev cX6_top : ByteArray := prog_8_method_16_code
def yX6_top : MethodName := ⟨RX6, "top", "(I)I"⟩
abbrev cX6_weightOf : ByteArray := prog_8_method_17_code
def yX6_weightOf : MethodName := ⟨RX6, "weightOf", "(I)J"⟩
abbrev cX6_makeTree : ByteArray := prog_8_method_18_code
def yX6_makeTree : MethodName := ⟨RX6, "makeTree", "()V"⟩
abbrev cX6_emit : ByteArray := prog_8_method_19_code
def yX6_emit : MethodName := ⟨RX6, "emit", "(IIII)V"⟩
abbrev cX6_part : ByteArray := prog_8_method_20_code
def yX6_part : MethodName := ⟨RX6, "part", "(IIIJJI)V"⟩
abbrev cX6_ends : ByteArray := prog_8_method_21_code
def yX6_ends : MethodName := ⟨RX6, "ends", "(IJJ)I"⟩
abbrev cX6_leaf : ByteArray := prog_8_method_22_code
def yX6_leaf : MethodName := ⟨RX6, "leaf", "(IJJ)V"⟩
abbrev cX6_layBits : ByteArray := prog_8_method_23_code
def yX6_layBits : MethodName := ⟨RX6, "layBits", "(III)V"⟩
abbrev cX6_make : ByteArray := prog_8_method_24_code
def yX6_make : MethodName := ⟨RX6, "make", "()V"⟩
abbrev cX6_within : ByteArray := prog_8_method_25_code
def yX6_within : MethodName := ⟨RX6, "within", "(II)I"⟩
abbrev cX6_runOn : ByteArray := prog_8_method_26_code
def yX6_runOn : MethodName := ⟨RX6, "runOn", "(I)I"⟩
abbrev cX6_stepsOf : ByteArray := prog_8_method_27_code
def yX6_stepsOf : MethodName := ⟨RX6, "stepsOf", "(J)I"⟩
abbrev cX6_mostSteps : ByteArray := prog_8_method_28_code
def yX6_mostSteps : MethodName := ⟨RX6, "mostSteps", "()I"⟩
abbrev cX6_go : ByteArray := prog_8_method_29_code
def yX6_go : MethodName := ⟨RX6, "go", "(I)I"⟩
abbrev cX6_steps : ByteArray := prog_8_method_30_code
def yX6_steps : MethodName := ⟨RX6, "steps", "(I)I"⟩
abbrev cX6_caseOf : ByteArray := prog_8_method_31_code
def yX6_caseOf : MethodName := ⟨RX6, "caseOf", "(J)I"⟩
abbrev cX6_by : ByteArray := prog_8_method_32_code
def yX6_by : MethodName := ⟨RX6, "by", "(I)I"⟩
abbrev cX6_spent : ByteArray := prog_8_method_33_code
def yX6_spent : MethodName := ⟨RX6, "spent", "()J"⟩
abbrev cX6_numbers : ByteArray := prog_8_method_34_code
def yX6_numbers : MethodName := ⟨RX6, "numbers", "()I"⟩
abbrev cX6_count : ByteArray := prog_8_method_35_code
def yX6_count : MethodName := ⟨RX6, "count", "(I)I"⟩
abbrev cX6_run : ByteArray := prog_8_method_36_code
def yX6_run : MethodName := ⟨RX6, "run", "(II)I"⟩
abbrev cX6_cluster : ByteArray := prog_8_method_37_code
def yX6_cluster : MethodName := ⟨RX6, "cluster", "(II)I"⟩
abbrev cX6_cost : ByteArray := prog_8_method_38_code
def yX6_cost : MethodName := ⟨RX6, "cost", "()I"⟩
abbrev cX6_noLine : ByteArray := prog_8_method_39_code
def yX6_noLine : MethodName := ⟨RX6, "noLine", "(I)Z"⟩
abbrev cX6_line : ByteArray := prog_8_method_40_code
def yX6_line : MethodName := ⟨RX6, "line", "(II)I"⟩
abbrev cX6_bits : ByteArray := prog_8_method_41_code
def yX6_bits : MethodName := ⟨RX6, "bits", "(I)J"⟩
abbrev cX6_entry : ByteArray := prog_8_method_42_code
def yX6_entry : MethodName := ⟨RX6, "entry", "(II)I"⟩
abbrev cX6_put : ByteArray := prog_8_method_43_code
def yX6_put : MethodName := ⟨RX6, "put", "(I)V"⟩
abbrev cX6_number : ByteArray := prog_8_method_44_code
def yX6_number : MethodName := ⟨RX6, "number", "(J)V"⟩
abbrev cX6_plain : ByteArray := prog_8_method_45_code
def yX6_plain : MethodName := ⟨RX6, "plain", "(J)V"⟩
abbrev cX6_name : ByteArray := prog_8_method_46_code
def yX6_name : MethodName := ⟨RX6, "name", "(IIIII)V"⟩
abbrev cX6_sixteen : ByteArray := prog_8_method_47_code
def yX6_sixteen : MethodName := ⟨RX6, "sixteen", "(J)V"⟩
abbrev cX6_printLine : ByteArray := prog_8_method_48_code
def yX6_printLine : MethodName := ⟨RX6, "printLine", "(I)V"⟩
abbrev cX6_print : ByteArray := prog_8_method_49_code
def yX6_print : MethodName := ⟨RX6, "print", "()I"⟩
abbrev cX6_out : ByteArray := prog_8_method_50_code
def yX6_out : MethodName := ⟨RX6, "out", "(I)I"⟩
def RJx145de : String := "java/io/Serializable"
def TJx145de : u_T := fun k => match k with
  | _ => ("", "", "", false)
def tyJx145de : Nat → FieldType := fun k => match k with
  | _ => .int
abbrev wsJx145de0 : List Cond := u_ws RJx145de TJx145de 0
theorem nmJx145de : ∀ a, a < 0 → ∀ b, b < 0 → a ≠ b → (TJx145de a).2.1 ≠ (TJx145de b).2.1 := by decide +kernel
theorem tyJx145de_ok : ∀ k, k < 0 → parseFieldDescriptor (TJx145de k).2.2.1 = some (tyJx145de k) := by decide +kernel
def RJx9f9b0 : String := "java/lang/CharSequence"
def TJx9f9b0 : u_T := fun k => match k with
  | _ => ("", "", "", false)
def tyJx9f9b0 : Nat → FieldType := fun k => match k with
  | _ => .int
abbrev wsJx9f9b00 : List Cond := u_ws RJx9f9b0 TJx9f9b0 0
theorem nmJx9f9b0 : ∀ a, a < 0 → ∀ b, b < 0 → a ≠ b → (TJx9f9b0 a).2.1 ≠ (TJx9f9b0 b).2.1 := by decide +kernel
theorem tyJx9f9b0_ok : ∀ k, k < 0 → parseFieldDescriptor (TJx9f9b0 k).2.2.1 = some (tyJx9f9b0 k) := by decide +kernel
def RJx8e188 : String := "java/lang/Cloneable"
def TJx8e188 : u_T := fun k => match k with
  | _ => ("", "", "", false)
def tyJx8e188 : Nat → FieldType := fun k => match k with
  | _ => .int
abbrev wsJx8e1880 : List Cond := u_ws RJx8e188 TJx8e188 0
theorem nmJx8e188 : ∀ a, a < 0 → ∀ b, b < 0 → a ≠ b → (TJx8e188 a).2.1 ≠ (TJx8e188 b).2.1 := by decide +kernel
theorem tyJx8e188_ok : ∀ k, k < 0 → parseFieldDescriptor (TJx8e188 k).2.2.1 = some (tyJx8e188 k) := by decide +kernel
def RJxb160c : String := "java/lang/Comparable"
def TJxb160c : u_T := fun k => match k with
  | _ => ("", "", "", false)
def tyJxb160c : Nat → FieldType := fun k => match k with
  | _ => .int
abbrev wsJxb160c0 : List Cond := u_ws RJxb160c TJxb160c 0
theorem nmJxb160c : ∀ a, a < 0 → ∀ b, b < 0 → a ≠ b → (TJxb160c a).2.1 ≠ (TJxb160c b).2.1 := by decide +kernel
theorem tyJxb160c_ok : ∀ k, k < 0 → parseFieldDescriptor (TJxb160c k).2.2.1 = some (tyJxb160c k) := by decide +kernel
def RJ6 : String := "java/lang/Integer"
def TJ6 : u_T := fun k => match k with
  | _ => ("", "", "", false)
def tyJ6 : Nat → FieldType := fun k => match k with
  | _ => .int
abbrev wsJ60 : List Cond := u_ws RJ6 TJ6 0
theorem nmJ6 : ∀ a, a < 0 → ∀ b, b < 0 → a ≠ b → (TJ6 a).2.1 ≠ (TJ6 b).2.1 := by decide +kernel
theorem tyJ6_ok : ∀ k, k < 0 → parseFieldDescriptor (TJ6 k).2.2.1 = some (tyJ6 k) := by decide +kernel
abbrev cJ6_bitCount_0f7a4 : ByteArray := prog_10_method_49_code
def yJ6_bitCount_0f7a4 : MethodName := ⟨RJ6, "bitCount", "(I)I"⟩
def RJ9 : String := "java/lang/Math"
def TJ9 : u_T := fun k => match k with
  | _ => ("", "", "", false)
def tyJ9 : Nat → FieldType := fun k => match k with
  | _ => .int
abbrev wsJ90 : List Cond := u_ws RJ9 TJ9 0
theorem nmJ9 : ∀ a, a < 0 → ∀ b, b < 0 → a ≠ b → (TJ9 a).2.1 ≠ (TJ9 b).2.1 := by decide +kernel
theorem tyJ9_ok : ∀ k, k < 0 → parseFieldDescriptor (TJ9 k).2.2.1 = some (tyJ9 k) := by decide +kernel
abbrev cJ9_max_7cf53 : ByteArray := prog_11_method_65_code
def yJ9_max_7cf53 : MethodName := ⟨RJ9, "max", "(II)I"⟩
abbrev cJ9_min_7cf53 : ByteArray := prog_11_method_69_code
def yJ9_min_7cf53 : MethodName := ⟨RJ9, "min", "(II)I"⟩
abbrev cJ9_min_f86c9 : ByteArray := prog_11_method_70_code
def yJ9_min_f86c9 : MethodName := ⟨RJ9, "min", "(JJ)J"⟩
def RJ0 : String := "java/lang/String"
def TJ0 : u_T := fun k => match k with
  | _ => ("", "", "", false)
def tyJ0 : Nat → FieldType := fun k => match k with
  | _ => .int
abbrev wsJ00 : List Cond := u_ws RJ0 TJ0 0
theorem nmJ0 : ∀ a, a < 0 → ∀ b, b < 0 → a ≠ b → (TJ0 a).2.1 ≠ (TJ0 b).2.1 := by decide +kernel
theorem tyJ0_ok : ∀ k, k < 0 → parseFieldDescriptor (TJ0 k).2.2.1 = some (tyJ0 k) := by decide +kernel
abbrev cJ0_length_8abf5 : ByteArray := prog_12_method_54_code
def yJ0_length_8abf5 : MethodName := ⟨RJ0, "length", "()I"⟩
abbrev cJ0_charAt_5068e : ByteArray := prog_12_method_56_code
def yJ0_charAt_5068e : MethodName := ⟨RJ0, "charAt", "(I)C"⟩
abbrev cJ0_coder_7d493 : ByteArray := prog_12_method_152_code
def yJ0_coder_7d493 : MethodName := ⟨RJ0, "coder", "()B"⟩
abbrev cJ0_isLatin1_aae02 : ByteArray := prog_12_method_154_code
def yJ0_isLatin1_aae02 : MethodName := ⟨RJ0, "isLatin1", "()Z"⟩
abbrev cJ0_checkIndex_df160 : ByteArray := prog_12_method_155_code
def yJ0_checkIndex_df160 : MethodName := ⟨RJ0, "checkIndex", "(II)V"⟩
def RJ1 : String := "java/lang/StringLatin1"
def TJ1 : u_T := fun k => match k with
  | _ => ("", "", "", false)
def tyJ1 : Nat → FieldType := fun k => match k with
  | _ => .int
abbrev wsJ10 : List Cond := u_ws RJ1 TJ1 0
theorem nmJ1 : ∀ a, a < 0 → ∀ b, b < 0 → a ≠ b → (TJ1 a).2.1 ≠ (TJ1 b).2.1 := by decide +kernel
theorem tyJ1_ok : ∀ k, k < 0 → parseFieldDescriptor (TJ1 k).2.2.1 = some (tyJ1 k) := by decide +kernel
abbrev cJ1_charAt_3b067 : ByteArray := prog_13_method_2_code
def yJ1_charAt_3b067 : MethodName := ⟨RJ1, "charAt", "([BI)C"⟩
def RJ2 : String := "java/lang/StringUTF16"
def TJ2 : u_T := fun k => match k with
  | _ => ("", "", "", false)
def tyJ2 : Nat → FieldType := fun k => match k with
  | _ => .int
abbrev wsJ20 : List Cond := u_ws RJ2 TJ2 0
theorem nmJ2 : ∀ a, a < 0 → ∀ b, b < 0 → a ≠ b → (TJ2 a).2.1 ≠ (TJ2 b).2.1 := by decide +kernel
theorem tyJ2_ok : ∀ k, k < 0 → parseFieldDescriptor (TJ2 k).2.2.1 = some (tyJ2 k) := by decide +kernel
abbrev cJ2_getChar_3b067 : ByteArray := prog_14_method_5_code
def yJ2_getChar_3b067 : MethodName := ⟨RJ2, "getChar", "([BI)C"⟩
abbrev cJ2_length_9d52b : ByteArray := prog_14_method_6_code
def yJ2_length_9d52b : MethodName := ⟨RJ2, "length", "([B)I"⟩
abbrev cJ2_charAt_3b067 : ByteArray := prog_14_method_83_code
def yJ2_charAt_3b067 : MethodName := ⟨RJ2, "charAt", "([BI)C"⟩
abbrev cJ2_checkIndex_2214a : ByteArray := prog_14_method_91_code
def yJ2_checkIndex_2214a : MethodName := ⟨RJ2, "checkIndex", "(I[B)V"⟩
def RJ10 : String := "java/lang/System"
def TJ10 : u_T := fun k => match k with
  | _ => ("", "", "", false)
def tyJ10 : Nat → FieldType := fun k => match k with
  | _ => .int
abbrev wsJ100 : List Cond := u_ws RJ10 TJ10 0
theorem nmJ10 : ∀ a, a < 0 → ∀ b, b < 0 → a ≠ b → (TJ10 a).2.1 ≠ (TJ10 b).2.1 := by decide +kernel
theorem tyJ10_ok : ∀ k, k < 0 → parseFieldDescriptor (TJ10 k).2.2.1 = some (tyJ10 k) := by decide +kernel
def RJxfd54e : String := "java/lang/constant/Constable"
def TJxfd54e : u_T := fun k => match k with
  | _ => ("", "", "", false)
def tyJxfd54e : Nat → FieldType := fun k => match k with
  | _ => .int
abbrev wsJxfd54e0 : List Cond := u_ws RJxfd54e TJxfd54e 0
theorem nmJxfd54e : ∀ a, a < 0 → ∀ b, b < 0 → a ≠ b → (TJxfd54e a).2.1 ≠ (TJxfd54e b).2.1 := by decide +kernel
theorem tyJxfd54e_ok : ∀ k, k < 0 → parseFieldDescriptor (TJxfd54e k).2.2.1 = some (tyJxfd54e k) := by decide +kernel
def RJx3cf43 : String := "java/lang/constant/ConstantDesc"
def TJx3cf43 : u_T := fun k => match k with
  | _ => ("", "", "", false)
def tyJx3cf43 : Nat → FieldType := fun k => match k with
  | _ => .int
abbrev wsJx3cf430 : List Cond := u_ws RJx3cf43 TJx3cf43 0
theorem nmJx3cf43 : ∀ a, a < 0 → ∀ b, b < 0 → a ≠ b → (TJx3cf43 a).2.1 ≠ (TJx3cf43 b).2.1 := by decide +kernel
theorem tyJx3cf43_ok : ∀ k, k < 0 → parseFieldDescriptor (TJx3cf43 k).2.2.1 = some (tyJx3cf43 k) := by decide +kernel
def RJ7 : String := "java/util/Arrays"
def TJ7 : u_T := fun k => match k with
  | _ => ("", "", "", false)
def tyJ7 : Nat → FieldType := fun k => match k with
  | _ => .int
abbrev wsJ70 : List Cond := u_ws RJ7 TJ7 0
theorem nmJ7 : ∀ a, a < 0 → ∀ b, b < 0 → a ≠ b → (TJ7 a).2.1 ≠ (TJ7 b).2.1 := by decide +kernel
theorem tyJ7_ok : ∀ k, k < 0 → parseFieldDescriptor (TJ7 k).2.2.1 = some (tyJ7 k) := by decide +kernel
abbrev cJ7_fill_53178 : ByteArray := prog_16_method_103_code
def yJ7_fill_53178 : MethodName := ⟨RJ7, "fill", "([II)V"⟩
abbrev cJ7_copyOf_9075b : ByteArray := prog_16_method_121_code
def yJ7_copyOf_9075b : MethodName := ⟨RJ7, "copyOf", "([BI)[B"⟩
def RJ3 : String := "jdk/internal/util/Preconditions"
def TJ3 : u_T := fun k => match k with
  | _ => ("", "", "", false)
def tyJ3 : Nat → FieldType := fun k => match k with
  | _ => .int
abbrev wsJ30 : List Cond := u_ws RJ3 TJ3 0
theorem nmJ3 : ∀ a, a < 0 → ∀ b, b < 0 → a ≠ b → (TJ3 a).2.1 ≠ (TJ3 b).2.1 := by decide +kernel
theorem tyJ3_ok : ∀ k, k < 0 → parseFieldDescriptor (TJ3 k).2.2.1 = some (tyJ3 k) := by decide +kernel
abbrev cJ3_checkIndex_8e157 : ByteArray := prog_17_method_11_code
def yJ3_checkIndex_8e157 : MethodName := ⟨RJ3, "checkIndex", "(IILjava/util/function/BiFunction;)I"⟩
def RL : String := "ChoiceCodeLaw"
abbrev cL_law : ByteArray := code
def yL_law : MethodName := ⟨RL, "law", "([I)Z"⟩
theorem dX0_init_0 : decode cX0_init 0 = .ok (.aload_n 0, 1) := by decide +kernel
theorem dX0_init_1 : decode cX0_init 1 = .ok (.invokespecial 3, 3) := by decide +kernel
theorem dX0_init_4 : decode cX0_init 4 = .ok (.aload_n 0, 1) := by decide +kernel
theorem dX0_init_5 : decode cX0_init 5 = .ok (.bipush 24, 2) := by decide +kernel
theorem dX0_init_7 : decode cX0_init 7 = .ok (.newarray .int, 2) := by decide +kernel
theorem dX0_init_9 : decode cX0_init 9 = .ok (.putfield 9, 3) := by decide +kernel
theorem dX0_init_12 : decode cX0_init 12 = .ok (.aload_n 0, 1) := by decide +kernel
theorem dX0_init_13 : decode cX0_init 13 = .ok (.bipush 24, 2) := by decide +kernel
theorem dX0_init_15 : decode cX0_init 15 = .ok (.newarray .int, 2) := by decide +kernel
theorem dX0_init_17 : decode cX0_init 17 = .ok (.putfield 15, 3) := by decide +kernel
theorem dX0_init_20 : decode cX0_init 20 = .ok (.aload_n 0, 1) := by decide +kernel
theorem dX0_init_21 : decode cX0_init 21 = .ok (.bipush 24, 2) := by decide +kernel
theorem dX0_init_23 : decode cX0_init 23 = .ok (.newarray .int, 2) := by decide +kernel
theorem dX0_init_25 : decode cX0_init 25 = .ok (.putfield 18, 3) := by decide +kernel
theorem dX0_init_28 : decode cX0_init 28 = .ok (.aload_n 0, 1) := by decide +kernel
theorem dX0_init_29 : decode cX0_init 29 = .ok (.bipush 24, 2) := by decide +kernel
theorem dX0_init_31 : decode cX0_init 31 = .ok (.newarray .int, 2) := by decide +kernel
theorem dX0_init_33 : decode cX0_init 33 = .ok (.putfield 21, 3) := by decide +kernel
theorem dX0_init_36 : decode cX0_init 36 = .ok (.aload_n 0, 1) := by decide +kernel
theorem dX0_init_37 : decode cX0_init 37 = .ok (.bipush 25, 2) := by decide +kernel
theorem dX0_init_39 : decode cX0_init 39 = .ok (.newarray .int, 2) := by decide +kernel
theorem dX0_init_41 : decode cX0_init 41 = .ok (.putfield 24, 3) := by decide +kernel
theorem dX0_init_44 : decode cX0_init 44 = .ok (.aload_n 0, 1) := by decide +kernel
theorem dX0_init_45 : decode cX0_init 45 = .ok (.bipush 25, 2) := by decide +kernel
theorem dX0_init_47 : decode cX0_init 47 = .ok (.newarray .int, 2) := by decide +kernel
theorem dX0_init_49 : decode cX0_init 49 = .ok (.putfield 27, 3) := by decide +kernel
theorem dX0_init_52 : decode cX0_init 52 = .ok (.aload_n 0, 1) := by decide +kernel
theorem dX0_init_53 : decode cX0_init 53 = .ok (.iconst 0, 1) := by decide +kernel
theorem dX0_init_54 : decode cX0_init 54 = .ok (.putfield 30, 3) := by decide +kernel
theorem dX0_init_57 : decode cX0_init 57 = .ok (.aload_n 0, 1) := by decide +kernel
theorem dX0_init_58 : decode cX0_init 58 = .ok (.iconst 0, 1) := by decide +kernel
theorem dX0_init_59 : decode cX0_init 59 = .ok (.putfield 34, 3) := by decide +kernel
theorem dX0_init_62 : decode cX0_init 62 = .ok (.aload_n 0, 1) := by decide +kernel
theorem dX0_init_63 : decode cX0_init 63 = .ok (.iconst 0, 1) := by decide +kernel
theorem dX0_init_64 : decode cX0_init 64 = .ok (.putfield 37, 3) := by decide +kernel
theorem dX0_init_67 : decode cX0_init 67 = .ok (.aload_n 0, 1) := by decide +kernel
theorem dX0_init_68 : decode cX0_init 68 = .ok (.aload_n 1, 1) := by decide +kernel
theorem dX0_init_69 : decode cX0_init 69 = .ok (.putfield 40, 3) := by decide +kernel
theorem dX0_init_72 : decode cX0_init 72 = .ok (.return_, 1) := by decide +kernel
theorem dX0_has_0 : decode cX0_has 0 = .ok (.iload_n 1, 1) := by decide +kernel
theorem dX0_has_1 : decode cX0_has 1 = .ok (.ifCond .lt 15, 3) := by decide +kernel
theorem dX0_has_4 : decode cX0_has 4 = .ok (.iload_n 1, 1) := by decide +kernel
theorem dX0_has_5 : decode cX0_has 5 = .ok (.aload_n 0, 1) := by decide +kernel
theorem dX0_has_6 : decode cX0_has 6 = .ok (.getfield 37, 3) := by decide +kernel
theorem dX0_has_9 : decode cX0_has 9 = .ok (.if_icmp .ge 7, 3) := by decide +kernel
theorem dX0_has_12 : decode cX0_has 12 = .ok (.iconst 1, 1) := by decide +kernel
theorem dX0_has_13 : decode cX0_has 13 = .ok (.goto 4, 3) := by decide +kernel
theorem dX0_has_16 : decode cX0_has 16 = .ok (.iconst 0, 1) := by decide +kernel
theorem dX0_has_17 : decode cX0_has 17 = .ok (.ireturn, 1) := by decide +kernel
theorem dX0_held_0 : decode cX0_held 0 = .ok (.aload_n 0, 1) := by decide +kernel
theorem dX0_held_1 : decode cX0_held 1 = .ok (.getfield 37, 3) := by decide +kernel
theorem dX0_held_4 : decode cX0_held 4 = .ok (.ireturn, 1) := by decide +kernel
theorem dX0_kind_0 : decode cX0_kind 0 = .ok (.iload_n 1, 1) := by decide +kernel
theorem dX0_kind_1 : decode cX0_kind 1 = .ok (.ifCond .lt 18, 3) := by decide +kernel
theorem dX0_kind_4 : decode cX0_kind 4 = .ok (.iload_n 1, 1) := by decide +kernel
theorem dX0_kind_5 : decode cX0_kind 5 = .ok (.bipush 24, 2) := by decide +kernel
theorem dX0_kind_7 : decode cX0_kind 7 = .ok (.if_icmp .ge 12, 3) := by decide +kernel
theorem dX0_kind_10 : decode cX0_kind 10 = .ok (.aload_n 0, 1) := by decide +kernel
theorem dX0_kind_11 : decode cX0_kind 11 = .ok (.getfield 9, 3) := by decide +kernel
theorem dX0_kind_14 : decode cX0_kind 14 = .ok (.iload_n 1, 1) := by decide +kernel
theorem dX0_kind_15 : decode cX0_kind 15 = .ok (.iaload, 1) := by decide +kernel
theorem dX0_kind_16 : decode cX0_kind 16 = .ok (.goto 4, 3) := by decide +kernel
theorem dX0_kind_19 : decode cX0_kind 19 = .ok (.iconst (-1), 1) := by decide +kernel
theorem dX0_kind_20 : decode cX0_kind 20 = .ok (.ireturn, 1) := by decide +kernel
theorem dX0_firstRun_0 : decode cX0_firstRun 0 = .ok (.iload_n 1, 1) := by decide +kernel
theorem dX0_firstRun_1 : decode cX0_firstRun 1 = .ok (.ifCond .lt 18, 3) := by decide +kernel
theorem dX0_firstRun_4 : decode cX0_firstRun 4 = .ok (.iload_n 1, 1) := by decide +kernel
theorem dX0_firstRun_5 : decode cX0_firstRun 5 = .ok (.bipush 24, 2) := by decide +kernel
theorem dX0_firstRun_7 : decode cX0_firstRun 7 = .ok (.if_icmp .ge 12, 3) := by decide +kernel
theorem dX0_firstRun_10 : decode cX0_firstRun 10 = .ok (.aload_n 0, 1) := by decide +kernel
theorem dX0_firstRun_11 : decode cX0_firstRun 11 = .ok (.getfield 15, 3) := by decide +kernel
theorem dX0_firstRun_14 : decode cX0_firstRun 14 = .ok (.iload_n 1, 1) := by decide +kernel
theorem dX0_firstRun_15 : decode cX0_firstRun 15 = .ok (.iaload, 1) := by decide +kernel
theorem dX0_firstRun_16 : decode cX0_firstRun 16 = .ok (.goto 4, 3) := by decide +kernel
theorem dX0_firstRun_19 : decode cX0_firstRun 19 = .ok (.iconst (-1), 1) := by decide +kernel
theorem dX0_firstRun_20 : decode cX0_firstRun 20 = .ok (.ireturn, 1) := by decide +kernel
theorem dX0_lastRun_0 : decode cX0_lastRun 0 = .ok (.iload_n 1, 1) := by decide +kernel
theorem dX0_lastRun_1 : decode cX0_lastRun 1 = .ok (.ifCond .lt 18, 3) := by decide +kernel
theorem dX0_lastRun_4 : decode cX0_lastRun 4 = .ok (.iload_n 1, 1) := by decide +kernel
theorem dX0_lastRun_5 : decode cX0_lastRun 5 = .ok (.bipush 24, 2) := by decide +kernel
theorem dX0_lastRun_7 : decode cX0_lastRun 7 = .ok (.if_icmp .ge 12, 3) := by decide +kernel
theorem dX0_lastRun_10 : decode cX0_lastRun 10 = .ok (.aload_n 0, 1) := by decide +kernel
theorem dX0_lastRun_11 : decode cX0_lastRun 11 = .ok (.getfield 18, 3) := by decide +kernel
theorem dX0_lastRun_14 : decode cX0_lastRun 14 = .ok (.iload_n 1, 1) := by decide +kernel
theorem dX0_lastRun_15 : decode cX0_lastRun 15 = .ok (.iaload, 1) := by decide +kernel
theorem dX0_lastRun_16 : decode cX0_lastRun 16 = .ok (.goto 4, 3) := by decide +kernel
theorem dX0_lastRun_19 : decode cX0_lastRun 19 = .ok (.iconst (-1), 1) := by decide +kernel
theorem dX0_lastRun_20 : decode cX0_lastRun 20 = .ok (.ireturn, 1) := by decide +kernel
theorem dX0_weight_0 : decode cX0_weight 0 = .ok (.iload_n 1, 1) := by decide +kernel
theorem dX0_weight_1 : decode cX0_weight 1 = .ok (.ifCond .lt 18, 3) := by decide +kernel
theorem dX0_weight_4 : decode cX0_weight 4 = .ok (.iload_n 1, 1) := by decide +kernel
theorem dX0_weight_5 : decode cX0_weight 5 = .ok (.bipush 24, 2) := by decide +kernel
theorem dX0_weight_7 : decode cX0_weight 7 = .ok (.if_icmp .ge 12, 3) := by decide +kernel
theorem dX0_weight_10 : decode cX0_weight 10 = .ok (.aload_n 0, 1) := by decide +kernel
theorem dX0_weight_11 : decode cX0_weight 11 = .ok (.getfield 21, 3) := by decide +kernel
theorem dX0_weight_14 : decode cX0_weight 14 = .ok (.iload_n 1, 1) := by decide +kernel
theorem dX0_weight_15 : decode cX0_weight 15 = .ok (.iaload, 1) := by decide +kernel
theorem dX0_weight_16 : decode cX0_weight 16 = .ok (.goto 4, 3) := by decide +kernel
theorem dX0_weight_19 : decode cX0_weight 19 = .ok (.iconst 0, 1) := by decide +kernel
theorem dX0_weight_20 : decode cX0_weight 20 = .ok (.ireturn, 1) := by decide +kernel
theorem dX0_runsOf_0 : decode cX0_runsOf 0 = .ok (.aload_n 0, 1) := by decide +kernel
theorem dX0_runsOf_1 : decode cX0_runsOf 1 = .ok (.iload_n 1, 1) := by decide +kernel
theorem dX0_runsOf_2 : decode cX0_runsOf 2 = .ok (.invokevirtual 44, 3) := by decide +kernel
theorem dX0_runsOf_5 : decode cX0_runsOf 5 = .ok (.aload_n 0, 1) := by decide +kernel
theorem dX0_runsOf_6 : decode cX0_runsOf 6 = .ok (.iload_n 1, 1) := by decide +kernel
theorem dX0_runsOf_7 : decode cX0_runsOf 7 = .ok (.invokevirtual 48, 3) := by decide +kernel
theorem dX0_runsOf_10 : decode cX0_runsOf 10 = .ok (.isub, 1) := by decide +kernel
theorem dX0_runsOf_11 : decode cX0_runsOf 11 = .ok (.iconst 1, 1) := by decide +kernel
theorem dX0_runsOf_12 : decode cX0_runsOf 12 = .ok (.iadd, 1) := by decide +kernel
theorem dX0_runsOf_13 : decode cX0_runsOf 13 = .ok (.ireturn, 1) := by decide +kernel
theorem dX0_bottom_0 : decode cX0_bottom 0 = .ok (.aload_n 0, 1) := by decide +kernel
theorem dX0_bottom_1 : decode cX0_bottom 1 = .ok (.getfield 40, 3) := by decide +kernel
theorem dX0_bottom_4 : decode cX0_bottom 4 = .ok (.aload_n 0, 1) := by decide +kernel
theorem dX0_bottom_5 : decode cX0_bottom 5 = .ok (.iload_n 1, 1) := by decide +kernel
theorem dX0_bottom_6 : decode cX0_bottom 6 = .ok (.invokevirtual 48, 3) := by decide +kernel
theorem dX0_bottom_9 : decode cX0_bottom 9 = .ok (.invokevirtual 51, 3) := by decide +kernel
theorem dX0_bottom_12 : decode cX0_bottom 12 = .ok (.ireturn, 1) := by decide +kernel
theorem dX0_top_0 : decode cX0_top 0 = .ok (.aload_n 0, 1) := by decide +kernel
theorem dX0_top_1 : decode cX0_top 1 = .ok (.getfield 40, 3) := by decide +kernel
theorem dX0_top_4 : decode cX0_top 4 = .ok (.aload_n 0, 1) := by decide +kernel
theorem dX0_top_5 : decode cX0_top 5 = .ok (.iload_n 1, 1) := by decide +kernel
theorem dX0_top_6 : decode cX0_top 6 = .ok (.invokevirtual 44, 3) := by decide +kernel
theorem dX0_top_9 : decode cX0_top 9 = .ok (.invokevirtual 56, 3) := by decide +kernel
theorem dX0_top_12 : decode cX0_top 12 = .ok (.ireturn, 1) := by decide +kernel
theorem dX0_part_0 : decode cX0_part 0 = .ok (.aload_n 0, 1) := by decide +kernel
theorem dX0_part_1 : decode cX0_part 1 = .ok (.iload_n 1, 1) := by decide +kernel
theorem dX0_part_2 : decode cX0_part 2 = .ok (.putfield 30, 3) := by decide +kernel
theorem dX0_part_5 : decode cX0_part 5 = .ok (.aload_n 0, 1) := by decide +kernel
theorem dX0_part_6 : decode cX0_part 6 = .ok (.iload_n 2, 1) := by decide +kernel
theorem dX0_part_7 : decode cX0_part 7 = .ok (.putfield 34, 3) := by decide +kernel
theorem dX0_part_10 : decode cX0_part 10 = .ok (.aload_n 0, 1) := by decide +kernel
theorem dX0_part_11 : decode cX0_part 11 = .ok (.invokevirtual 59, 3) := by decide +kernel
theorem dX0_part_14 : decode cX0_part 14 = .ok (.aload_n 0, 1) := by decide +kernel
theorem dX0_part_15 : decode cX0_part 15 = .ok (.iconst 0, 1) := by decide +kernel
theorem dX0_part_16 : decode cX0_part 16 = .ok (.putfield 37, 3) := by decide +kernel
theorem dX0_part_19 : decode cX0_part 19 = .ok (.iconst 0, 1) := by decide +kernel
theorem dX0_part_20 : decode cX0_part 20 = .ok (.istore_n 3, 1) := by decide +kernel
theorem dX0_part_21 : decode cX0_part 21 = .ok (.iconst 0, 1) := by decide +kernel
theorem dX0_part_22 : decode cX0_part 22 = .ok (.istore 4, 2) := by decide +kernel
theorem dX0_part_24 : decode cX0_part 24 = .ok (.iload 4, 2) := by decide +kernel
theorem dX0_part_26 : decode cX0_part 26 = .ok (.bipush 24, 2) := by decide +kernel
theorem dX0_part_28 : decode cX0_part 28 = .ok (.if_icmp .ge 109, 3) := by decide +kernel
theorem dX0_part_31 : decode cX0_part 31 = .ok (.iload_n 3, 1) := by decide +kernel
theorem dX0_part_32 : decode cX0_part 32 = .ok (.ifCond .lt 105, 3) := by decide +kernel
theorem dX0_part_35 : decode cX0_part 35 = .ok (.iload_n 3, 1) := by decide +kernel
theorem dX0_part_36 : decode cX0_part 36 = .ok (.aload_n 0, 1) := by decide +kernel
theorem dX0_part_37 : decode cX0_part 37 = .ok (.getfield 40, 3) := by decide +kernel
theorem dX0_part_40 : decode cX0_part 40 = .ok (.invokevirtual 62, 3) := by decide +kernel
theorem dX0_part_43 : decode cX0_part 43 = .ok (.if_icmp .ge 94, 3) := by decide +kernel
theorem dX0_part_46 : decode cX0_part 46 = .ok (.iload_n 3, 1) := by decide +kernel
theorem dX0_part_47 : decode cX0_part 47 = .ok (.bipush 24, 2) := by decide +kernel
theorem dX0_part_49 : decode cX0_part 49 = .ok (.if_icmp .ge 88, 3) := by decide +kernel
theorem dX0_part_52 : decode cX0_part 52 = .ok (.aload_n 0, 1) := by decide +kernel
theorem dX0_part_53 : decode cX0_part 53 = .ok (.getfield 9, 3) := by decide +kernel
theorem dX0_part_56 : decode cX0_part 56 = .ok (.iload 4, 2) := by decide +kernel
theorem dX0_part_58 : decode cX0_part 58 = .ok (.aload_n 0, 1) := by decide +kernel
theorem dX0_part_59 : decode cX0_part 59 = .ok (.iload_n 3, 1) := by decide +kernel
theorem dX0_part_60 : decode cX0_part 60 = .ok (.aload_n 0, 1) := by decide +kernel
theorem dX0_part_61 : decode cX0_part 61 = .ok (.getfield 27, 3) := by decide +kernel
theorem dX0_part_64 : decode cX0_part 64 = .ok (.iload_n 3, 1) := by decide +kernel
theorem dX0_part_65 : decode cX0_part 65 = .ok (.iaload, 1) := by decide +kernel
theorem dX0_part_66 : decode cX0_part 66 = .ok (.invokevirtual 65, 3) := by decide +kernel
theorem dX0_part_69 : decode cX0_part 69 = .ok (.iastore, 1) := by decide +kernel
theorem dX0_part_70 : decode cX0_part 70 = .ok (.aload_n 0, 1) := by decide +kernel
theorem dX0_part_71 : decode cX0_part 71 = .ok (.getfield 15, 3) := by decide +kernel
theorem dX0_part_74 : decode cX0_part 74 = .ok (.iload 4, 2) := by decide +kernel
theorem dX0_part_76 : decode cX0_part 76 = .ok (.iload_n 3, 1) := by decide +kernel
theorem dX0_part_77 : decode cX0_part 77 = .ok (.iastore, 1) := by decide +kernel
theorem dX0_part_78 : decode cX0_part 78 = .ok (.aload_n 0, 1) := by decide +kernel
theorem dX0_part_79 : decode cX0_part 79 = .ok (.getfield 18, 3) := by decide +kernel
theorem dX0_part_82 : decode cX0_part 82 = .ok (.iload 4, 2) := by decide +kernel
theorem dX0_part_84 : decode cX0_part 84 = .ok (.aload_n 0, 1) := by decide +kernel
theorem dX0_part_85 : decode cX0_part 85 = .ok (.getfield 27, 3) := by decide +kernel
theorem dX0_part_88 : decode cX0_part 88 = .ok (.iload_n 3, 1) := by decide +kernel
theorem dX0_part_89 : decode cX0_part 89 = .ok (.iaload, 1) := by decide +kernel
theorem dX0_part_90 : decode cX0_part 90 = .ok (.iastore, 1) := by decide +kernel
theorem dX0_part_91 : decode cX0_part 91 = .ok (.aload_n 0, 1) := by decide +kernel
theorem dX0_part_92 : decode cX0_part 92 = .ok (.getfield 21, 3) := by decide +kernel
theorem dX0_part_95 : decode cX0_part 95 = .ok (.iload 4, 2) := by decide +kernel
theorem dX0_part_97 : decode cX0_part 97 = .ok (.aload_n 0, 1) := by decide +kernel
theorem dX0_part_98 : decode cX0_part 98 = .ok (.getfield 40, 3) := by decide +kernel
theorem dX0_part_101 : decode cX0_part 101 = .ok (.iload_n 3, 1) := by decide +kernel
theorem dX0_part_102 : decode cX0_part 102 = .ok (.aload_n 0, 1) := by decide +kernel
theorem dX0_part_103 : decode cX0_part 103 = .ok (.getfield 27, 3) := by decide +kernel
theorem dX0_part_106 : decode cX0_part 106 = .ok (.iload_n 3, 1) := by decide +kernel
theorem dX0_part_107 : decode cX0_part 107 = .ok (.iaload, 1) := by decide +kernel
theorem dX0_part_108 : decode cX0_part 108 = .ok (.invokevirtual 69, 3) := by decide +kernel
theorem dX0_part_111 : decode cX0_part 111 = .ok (.iastore, 1) := by decide +kernel
theorem dX0_part_112 : decode cX0_part 112 = .ok (.aload_n 0, 1) := by decide +kernel
theorem dX0_part_113 : decode cX0_part 113 = .ok (.dup, 1) := by decide +kernel
theorem dX0_part_114 : decode cX0_part 114 = .ok (.getfield 37, 3) := by decide +kernel
theorem dX0_part_117 : decode cX0_part 117 = .ok (.iconst 1, 1) := by decide +kernel
theorem dX0_part_118 : decode cX0_part 118 = .ok (.iadd, 1) := by decide +kernel
theorem dX0_part_119 : decode cX0_part 119 = .ok (.putfield 37, 3) := by decide +kernel
theorem dX0_part_122 : decode cX0_part 122 = .ok (.aload_n 0, 1) := by decide +kernel
theorem dX0_part_123 : decode cX0_part 123 = .ok (.getfield 27, 3) := by decide +kernel
theorem dX0_part_126 : decode cX0_part 126 = .ok (.iload_n 3, 1) := by decide +kernel
theorem dX0_part_127 : decode cX0_part 127 = .ok (.iaload, 1) := by decide +kernel
theorem dX0_part_128 : decode cX0_part 128 = .ok (.iconst 1, 1) := by decide +kernel
theorem dX0_part_129 : decode cX0_part 129 = .ok (.iadd, 1) := by decide +kernel
theorem dX0_part_130 : decode cX0_part 130 = .ok (.istore_n 3, 1) := by decide +kernel
theorem dX0_part_131 : decode cX0_part 131 = .ok (.iinc 4 1, 3) := by decide +kernel
theorem dX0_part_134 : decode cX0_part 134 = .ok (.goto (-110), 3) := by decide +kernel
theorem dX0_part_137 : decode cX0_part 137 = .ok (.return_, 1) := by decide +kernel
theorem dX0_findFewest_0 : decode cX0_findFewest 0 = .ok (.aload_n 0, 1) := by decide +kernel
theorem dX0_findFewest_1 : decode cX0_findFewest 1 = .ok (.getfield 40, 3) := by decide +kernel
theorem dX0_findFewest_4 : decode cX0_findFewest 4 = .ok (.invokevirtual 62, 3) := by decide +kernel
theorem dX0_findFewest_7 : decode cX0_findFewest 7 = .ok (.bipush 24, 2) := by decide +kernel
theorem dX0_findFewest_9 : decode cX0_findFewest 9 = .ok (.invokestatic 72, 3) := by decide +kernel
theorem dX0_findFewest_12 : decode cX0_findFewest 12 = .ok (.istore_n 1, 1) := by decide +kernel
theorem dX0_findFewest_13 : decode cX0_findFewest 13 = .ok (.iload_n 1, 1) := by decide +kernel
theorem dX0_findFewest_14 : decode cX0_findFewest 14 = .ok (.ifCond .lt 16, 3) := by decide +kernel
theorem dX0_findFewest_17 : decode cX0_findFewest 17 = .ok (.iload_n 1, 1) := by decide +kernel
theorem dX0_findFewest_18 : decode cX0_findFewest 18 = .ok (.bipush 24, 2) := by decide +kernel
theorem dX0_findFewest_20 : decode cX0_findFewest 20 = .ok (.if_icmp .gt 10, 3) := by decide +kernel
theorem dX0_findFewest_23 : decode cX0_findFewest 23 = .ok (.aload_n 0, 1) := by decide +kernel
theorem dX0_findFewest_24 : decode cX0_findFewest 24 = .ok (.getfield 24, 3) := by decide +kernel
theorem dX0_findFewest_27 : decode cX0_findFewest 27 = .ok (.iload_n 1, 1) := by decide +kernel
theorem dX0_findFewest_28 : decode cX0_findFewest 28 = .ok (.iconst 0, 1) := by decide +kernel
theorem dX0_findFewest_29 : decode cX0_findFewest 29 = .ok (.iastore, 1) := by decide +kernel
theorem dX0_findFewest_30 : decode cX0_findFewest 30 = .ok (.iload_n 1, 1) := by decide +kernel
theorem dX0_findFewest_31 : decode cX0_findFewest 31 = .ok (.iconst 1, 1) := by decide +kernel
theorem dX0_findFewest_32 : decode cX0_findFewest 32 = .ok (.isub, 1) := by decide +kernel
theorem dX0_findFewest_33 : decode cX0_findFewest 33 = .ok (.istore_n 2, 1) := by decide +kernel
theorem dX0_findFewest_34 : decode cX0_findFewest 34 = .ok (.iload_n 2, 1) := by decide +kernel
theorem dX0_findFewest_35 : decode cX0_findFewest 35 = .ok (.ifCond .lt 99, 3) := by decide +kernel
theorem dX0_findFewest_38 : decode cX0_findFewest 38 = .ok (.aload_n 0, 1) := by decide +kernel
theorem dX0_findFewest_39 : decode cX0_findFewest 39 = .ok (.getfield 24, 3) := by decide +kernel
theorem dX0_findFewest_42 : decode cX0_findFewest 42 = .ok (.iload_n 2, 1) := by decide +kernel
theorem dX0_findFewest_43 : decode cX0_findFewest 43 = .ok (.aload_n 0, 1) := by decide +kernel
theorem dX0_findFewest_44 : decode cX0_findFewest 44 = .ok (.getfield 24, 3) := by decide +kernel
theorem dX0_findFewest_47 : decode cX0_findFewest 47 = .ok (.iload_n 2, 1) := by decide +kernel
theorem dX0_findFewest_48 : decode cX0_findFewest 48 = .ok (.iconst 1, 1) := by decide +kernel
theorem dX0_findFewest_49 : decode cX0_findFewest 49 = .ok (.iadd, 1) := by decide +kernel
theorem dX0_findFewest_50 : decode cX0_findFewest 50 = .ok (.iaload, 1) := by decide +kernel
theorem dX0_findFewest_51 : decode cX0_findFewest 51 = .ok (.iconst 1, 1) := by decide +kernel
theorem dX0_findFewest_52 : decode cX0_findFewest 52 = .ok (.iadd, 1) := by decide +kernel
theorem dX0_findFewest_53 : decode cX0_findFewest 53 = .ok (.iastore, 1) := by decide +kernel
theorem dX0_findFewest_54 : decode cX0_findFewest 54 = .ok (.aload_n 0, 1) := by decide +kernel
theorem dX0_findFewest_55 : decode cX0_findFewest 55 = .ok (.getfield 27, 3) := by decide +kernel
theorem dX0_findFewest_58 : decode cX0_findFewest 58 = .ok (.iload_n 2, 1) := by decide +kernel
theorem dX0_findFewest_59 : decode cX0_findFewest 59 = .ok (.iload_n 2, 1) := by decide +kernel
theorem dX0_findFewest_60 : decode cX0_findFewest 60 = .ok (.iastore, 1) := by decide +kernel
theorem dX0_findFewest_61 : decode cX0_findFewest 61 = .ok (.iload_n 2, 1) := by decide +kernel
theorem dX0_findFewest_62 : decode cX0_findFewest 62 = .ok (.iconst 1, 1) := by decide +kernel
theorem dX0_findFewest_63 : decode cX0_findFewest 63 = .ok (.iadd, 1) := by decide +kernel
theorem dX0_findFewest_64 : decode cX0_findFewest 64 = .ok (.istore_n 3, 1) := by decide +kernel
theorem dX0_findFewest_65 : decode cX0_findFewest 65 = .ok (.iload_n 3, 1) := by decide +kernel
theorem dX0_findFewest_66 : decode cX0_findFewest 66 = .ok (.iload_n 1, 1) := by decide +kernel
theorem dX0_findFewest_67 : decode cX0_findFewest 67 = .ok (.if_icmp .ge 61, 3) := by decide +kernel
theorem dX0_findFewest_70 : decode cX0_findFewest 70 = .ok (.aload_n 0, 1) := by decide +kernel
theorem dX0_findFewest_71 : decode cX0_findFewest 71 = .ok (.getfield 24, 3) := by decide +kernel
theorem dX0_findFewest_74 : decode cX0_findFewest 74 = .ok (.iload_n 3, 1) := by decide +kernel
theorem dX0_findFewest_75 : decode cX0_findFewest 75 = .ok (.iconst 1, 1) := by decide +kernel
theorem dX0_findFewest_76 : decode cX0_findFewest 76 = .ok (.iadd, 1) := by decide +kernel
theorem dX0_findFewest_77 : decode cX0_findFewest 77 = .ok (.iaload, 1) := by decide +kernel
theorem dX0_findFewest_78 : decode cX0_findFewest 78 = .ok (.iconst 1, 1) := by decide +kernel
theorem dX0_findFewest_79 : decode cX0_findFewest 79 = .ok (.iadd, 1) := by decide +kernel
theorem dX0_findFewest_80 : decode cX0_findFewest 80 = .ok (.aload_n 0, 1) := by decide +kernel
theorem dX0_findFewest_81 : decode cX0_findFewest 81 = .ok (.getfield 24, 3) := by decide +kernel
theorem dX0_findFewest_84 : decode cX0_findFewest 84 = .ok (.iload_n 2, 1) := by decide +kernel
theorem dX0_findFewest_85 : decode cX0_findFewest 85 = .ok (.iaload, 1) := by decide +kernel
theorem dX0_findFewest_86 : decode cX0_findFewest 86 = .ok (.if_icmp .gt 36, 3) := by decide +kernel
theorem dX0_findFewest_89 : decode cX0_findFewest 89 = .ok (.aload_n 0, 1) := by decide +kernel
theorem dX0_findFewest_90 : decode cX0_findFewest 90 = .ok (.iload_n 2, 1) := by decide +kernel
theorem dX0_findFewest_91 : decode cX0_findFewest 91 = .ok (.iload_n 3, 1) := by decide +kernel
theorem dX0_findFewest_92 : decode cX0_findFewest 92 = .ok (.invokevirtual 65, 3) := by decide +kernel
theorem dX0_findFewest_95 : decode cX0_findFewest 95 = .ok (.iconst (-1), 1) := by decide +kernel
theorem dX0_findFewest_96 : decode cX0_findFewest 96 = .ok (.if_icmp .eq 26, 3) := by decide +kernel
theorem dX0_findFewest_99 : decode cX0_findFewest 99 = .ok (.aload_n 0, 1) := by decide +kernel
theorem dX0_findFewest_100 : decode cX0_findFewest 100 = .ok (.getfield 24, 3) := by decide +kernel
theorem dX0_findFewest_103 : decode cX0_findFewest 103 = .ok (.iload_n 2, 1) := by decide +kernel
theorem dX0_findFewest_104 : decode cX0_findFewest 104 = .ok (.aload_n 0, 1) := by decide +kernel
theorem dX0_findFewest_105 : decode cX0_findFewest 105 = .ok (.getfield 24, 3) := by decide +kernel
theorem dX0_findFewest_108 : decode cX0_findFewest 108 = .ok (.iload_n 3, 1) := by decide +kernel
theorem dX0_findFewest_109 : decode cX0_findFewest 109 = .ok (.iconst 1, 1) := by decide +kernel
theorem dX0_findFewest_110 : decode cX0_findFewest 110 = .ok (.iadd, 1) := by decide +kernel
theorem dX0_findFewest_111 : decode cX0_findFewest 111 = .ok (.iaload, 1) := by decide +kernel
theorem dX0_findFewest_112 : decode cX0_findFewest 112 = .ok (.iconst 1, 1) := by decide +kernel
theorem dX0_findFewest_113 : decode cX0_findFewest 113 = .ok (.iadd, 1) := by decide +kernel
theorem dX0_findFewest_114 : decode cX0_findFewest 114 = .ok (.iastore, 1) := by decide +kernel
theorem dX0_findFewest_115 : decode cX0_findFewest 115 = .ok (.aload_n 0, 1) := by decide +kernel
theorem dX0_findFewest_116 : decode cX0_findFewest 116 = .ok (.getfield 27, 3) := by decide +kernel
theorem dX0_findFewest_119 : decode cX0_findFewest 119 = .ok (.iload_n 2, 1) := by decide +kernel
theorem dX0_findFewest_120 : decode cX0_findFewest 120 = .ok (.iload_n 3, 1) := by decide +kernel
theorem dX0_findFewest_121 : decode cX0_findFewest 121 = .ok (.iastore, 1) := by decide +kernel
theorem dX0_findFewest_122 : decode cX0_findFewest 122 = .ok (.iinc 3 1, 3) := by decide +kernel
theorem dX0_findFewest_125 : decode cX0_findFewest 125 = .ok (.goto (-60), 3) := by decide +kernel
theorem dX0_findFewest_128 : decode cX0_findFewest 128 = .ok (.iinc 2 (-1), 3) := by decide +kernel
theorem dX0_findFewest_131 : decode cX0_findFewest 131 = .ok (.goto (-97), 3) := by decide +kernel
theorem dX0_findFewest_134 : decode cX0_findFewest 134 = .ok (.return_, 1) := by decide +kernel
theorem dX0_kindOf_0 : decode cX0_kindOf 0 = .ok (.iload_n 1, 1) := by decide +kernel
theorem dX0_kindOf_1 : decode cX0_kindOf 1 = .ok (.iload_n 2, 1) := by decide +kernel
theorem dX0_kindOf_2 : decode cX0_kindOf 2 = .ok (.if_icmp .ne 5, 3) := by decide +kernel
theorem dX0_kindOf_5 : decode cX0_kindOf 5 = .ok (.iconst 0, 1) := by decide +kernel
theorem dX0_kindOf_6 : decode cX0_kindOf 6 = .ok (.ireturn, 1) := by decide +kernel
theorem dX0_kindOf_7 : decode cX0_kindOf 7 = .ok (.aload_n 0, 1) := by decide +kernel
theorem dX0_kindOf_8 : decode cX0_kindOf 8 = .ok (.getfield 40, 3) := by decide +kernel
theorem dX0_kindOf_11 : decode cX0_kindOf 11 = .ok (.iload_n 2, 1) := by decide +kernel
theorem dX0_kindOf_12 : decode cX0_kindOf 12 = .ok (.invokevirtual 56, 3) := by decide +kernel
theorem dX0_kindOf_15 : decode cX0_kindOf 15 = .ok (.i2l, 1) := by decide +kernel
theorem dX0_kindOf_16 : decode cX0_kindOf 16 = .ok (.aload_n 0, 1) := by decide +kernel
theorem dX0_kindOf_17 : decode cX0_kindOf 17 = .ok (.getfield 40, 3) := by decide +kernel
theorem dX0_kindOf_20 : decode cX0_kindOf 20 = .ok (.iload_n 1, 1) := by decide +kernel
theorem dX0_kindOf_21 : decode cX0_kindOf 21 = .ok (.invokevirtual 51, 3) := by decide +kernel
theorem dX0_kindOf_24 : decode cX0_kindOf 24 = .ok (.i2l, 1) := by decide +kernel
theorem dX0_kindOf_25 : decode cX0_kindOf 25 = .ok (.lsub, 1) := by decide +kernel
theorem dX0_kindOf_26 : decode cX0_kindOf 26 = .ok (.lconst 1, 1) := by decide +kernel
theorem dX0_kindOf_27 : decode cX0_kindOf 27 = .ok (.ladd, 1) := by decide +kernel
theorem dX0_kindOf_28 : decode cX0_kindOf 28 = .ok (.lstore_n 3, 1) := by decide +kernel
theorem dX0_kindOf_29 : decode cX0_kindOf 29 = .ok (.lload_n 3, 1) := by decide +kernel
theorem dX0_kindOf_30 : decode cX0_kindOf 30 = .ok (.ldc2_w 77, 3) := by decide +kernel
theorem dX0_kindOf_33 : decode cX0_kindOf 33 = .ok (.lcmp, 1) := by decide +kernel
theorem dX0_kindOf_34 : decode cX0_kindOf 34 = .ok (.ifCond .gt 18, 3) := by decide +kernel
theorem dX0_kindOf_37 : decode cX0_kindOf 37 = .ok (.aload_n 0, 1) := by decide +kernel
theorem dX0_kindOf_38 : decode cX0_kindOf 38 = .ok (.getfield 40, 3) := by decide +kernel
theorem dX0_kindOf_41 : decode cX0_kindOf 41 = .ok (.iload_n 1, 1) := by decide +kernel
theorem dX0_kindOf_42 : decode cX0_kindOf 42 = .ok (.iload_n 2, 1) := by decide +kernel
theorem dX0_kindOf_43 : decode cX0_kindOf 43 = .ok (.invokevirtual 79, 3) := by decide +kernel
theorem dX0_kindOf_46 : decode cX0_kindOf 46 = .ok (.iconst 3, 1) := by decide +kernel
theorem dX0_kindOf_47 : decode cX0_kindOf 47 = .ok (.if_icmp .gt 5, 3) := by decide +kernel
theorem dX0_kindOf_50 : decode cX0_kindOf 50 = .ok (.iconst 1, 1) := by decide +kernel
theorem dX0_kindOf_51 : decode cX0_kindOf 51 = .ok (.ireturn, 1) := by decide +kernel
theorem dX0_kindOf_52 : decode cX0_kindOf 52 = .ok (.lload_n 3, 1) := by decide +kernel
theorem dX0_kindOf_53 : decode cX0_kindOf 53 = .ok (.aload_n 0, 1) := by decide +kernel
theorem dX0_kindOf_54 : decode cX0_kindOf 54 = .ok (.getfield 34, 3) := by decide +kernel
theorem dX0_kindOf_57 : decode cX0_kindOf 57 = .ok (.i2l, 1) := by decide +kernel
theorem dX0_kindOf_58 : decode cX0_kindOf 58 = .ok (.lcmp, 1) := by decide +kernel
theorem dX0_kindOf_59 : decode cX0_kindOf 59 = .ok (.ifCond .gt 29, 3) := by decide +kernel
theorem dX0_kindOf_62 : decode cX0_kindOf 62 = .ok (.aload_n 0, 1) := by decide +kernel
theorem dX0_kindOf_63 : decode cX0_kindOf 63 = .ok (.getfield 40, 3) := by decide +kernel
theorem dX0_kindOf_66 : decode cX0_kindOf 66 = .ok (.iload_n 1, 1) := by decide +kernel
theorem dX0_kindOf_67 : decode cX0_kindOf 67 = .ok (.iload_n 2, 1) := by decide +kernel
theorem dX0_kindOf_68 : decode cX0_kindOf 68 = .ok (.invokevirtual 82, 3) := by decide +kernel
theorem dX0_kindOf_71 : decode cX0_kindOf 71 = .ok (.ldc2_w 86, 3) := by decide +kernel
theorem dX0_kindOf_74 : decode cX0_kindOf 74 = .ok (.lmul, 1) := by decide +kernel
theorem dX0_kindOf_75 : decode cX0_kindOf 75 = .ok (.aload_n 0, 1) := by decide +kernel
theorem dX0_kindOf_76 : decode cX0_kindOf 76 = .ok (.getfield 30, 3) := by decide +kernel
theorem dX0_kindOf_79 : decode cX0_kindOf 79 = .ok (.i2l, 1) := by decide +kernel
theorem dX0_kindOf_80 : decode cX0_kindOf 80 = .ok (.lload_n 3, 1) := by decide +kernel
theorem dX0_kindOf_81 : decode cX0_kindOf 81 = .ok (.lmul, 1) := by decide +kernel
theorem dX0_kindOf_82 : decode cX0_kindOf 82 = .ok (.lcmp, 1) := by decide +kernel
theorem dX0_kindOf_83 : decode cX0_kindOf 83 = .ok (.ifCond .lt 5, 3) := by decide +kernel
theorem dX0_kindOf_86 : decode cX0_kindOf 86 = .ok (.iconst 2, 1) := by decide +kernel
theorem dX0_kindOf_87 : decode cX0_kindOf 87 = .ok (.ireturn, 1) := by decide +kernel
theorem dX0_kindOf_88 : decode cX0_kindOf 88 = .ok (.iconst (-1), 1) := by decide +kernel
theorem dX0_kindOf_89 : decode cX0_kindOf 89 = .ok (.ireturn, 1) := by decide +kernel
theorem dX1_init_0 : decode cX1_init 0 = .ok (.aload_n 0, 1) := by decide +kernel
theorem dX1_init_1 : decode cX1_init 1 = .ok (.invokespecial 3, 3) := by decide +kernel
theorem dX1_init_4 : decode cX1_init 4 = .ok (.aload_n 0, 1) := by decide +kernel
theorem dX1_init_5 : decode cX1_init 5 = .ok (.sipush 400, 3) := by decide +kernel
theorem dX1_init_8 : decode cX1_init 8 = .ok (.newarray .int, 2) := by decide +kernel
theorem dX1_init_10 : decode cX1_init 10 = .ok (.putfield 9, 3) := by decide +kernel
theorem dX1_init_13 : decode cX1_init 13 = .ok (.aload_n 0, 1) := by decide +kernel
theorem dX1_init_14 : decode cX1_init 14 = .ok (.sipush 400, 3) := by decide +kernel
theorem dX1_init_17 : decode cX1_init 17 = .ok (.newarray .int, 2) := by decide +kernel
theorem dX1_init_19 : decode cX1_init 19 = .ok (.putfield 15, 3) := by decide +kernel
theorem dX1_init_22 : decode cX1_init 22 = .ok (.aload_n 0, 1) := by decide +kernel
theorem dX1_init_23 : decode cX1_init 23 = .ok (.sipush 400, 3) := by decide +kernel
theorem dX1_init_26 : decode cX1_init 26 = .ok (.newarray .int, 2) := by decide +kernel
theorem dX1_init_28 : decode cX1_init 28 = .ok (.putfield 18, 3) := by decide +kernel
theorem dX1_init_31 : decode cX1_init 31 = .ok (.aload_n 0, 1) := by decide +kernel
theorem dX1_init_32 : decode cX1_init 32 = .ok (.sipush 400, 3) := by decide +kernel
theorem dX1_init_35 : decode cX1_init 35 = .ok (.newarray .long, 2) := by decide +kernel
theorem dX1_init_37 : decode cX1_init 37 = .ok (.putfield 21, 3) := by decide +kernel
theorem dX1_init_40 : decode cX1_init 40 = .ok (.aload_n 0, 1) := by decide +kernel
theorem dX1_init_41 : decode cX1_init 41 = .ok (.sipush 400, 3) := by decide +kernel
theorem dX1_init_44 : decode cX1_init 44 = .ok (.newarray .int, 2) := by decide +kernel
theorem dX1_init_46 : decode cX1_init 46 = .ok (.putfield 25, 3) := by decide +kernel
theorem dX1_init_49 : decode cX1_init 49 = .ok (.aload_n 0, 1) := by decide +kernel
theorem dX1_init_50 : decode cX1_init 50 = .ok (.sipush 3072, 3) := by decide +kernel
theorem dX1_init_53 : decode cX1_init 53 = .ok (.newarray .int, 2) := by decide +kernel
theorem dX1_init_55 : decode cX1_init 55 = .ok (.putfield 28, 3) := by decide +kernel
theorem dX1_init_58 : decode cX1_init 58 = .ok (.aload_n 0, 1) := by decide +kernel
theorem dX1_init_59 : decode cX1_init 59 = .ok (.iconst 0, 1) := by decide +kernel
theorem dX1_init_60 : decode cX1_init 60 = .ok (.putfield 31, 3) := by decide +kernel
theorem dX1_init_63 : decode cX1_init 63 = .ok (.aload_n 0, 1) := by decide +kernel
theorem dX1_init_64 : decode cX1_init 64 = .ok (.iconst 0, 1) := by decide +kernel
theorem dX1_init_65 : decode cX1_init 65 = .ok (.putfield 35, 3) := by decide +kernel
theorem dX1_init_68 : decode cX1_init 68 = .ok (.aload_n 0, 1) := by decide +kernel
theorem dX1_init_69 : decode cX1_init 69 = .ok (.iconst 0, 1) := by decide +kernel
theorem dX1_init_70 : decode cX1_init 70 = .ok (.putfield 38, 3) := by decide +kernel
theorem dX1_init_73 : decode cX1_init 73 = .ok (.aload_n 0, 1) := by decide +kernel
theorem dX1_init_74 : decode cX1_init 74 = .ok (.iconst 0, 1) := by decide +kernel
theorem dX1_init_75 : decode cX1_init 75 = .ok (.putfield 41, 3) := by decide +kernel
theorem dX1_init_78 : decode cX1_init 78 = .ok (.aload_n 0, 1) := by decide +kernel
theorem dX1_init_79 : decode cX1_init 79 = .ok (.iconst 0, 1) := by decide +kernel
theorem dX1_init_80 : decode cX1_init 80 = .ok (.putfield 44, 3) := by decide +kernel
theorem dX1_init_83 : decode cX1_init 83 = .ok (.aload_n 0, 1) := by decide +kernel
theorem dX1_init_84 : decode cX1_init 84 = .ok (.aload_n 1, 1) := by decide +kernel
theorem dX1_init_85 : decode cX1_init 85 = .ok (.putfield 47, 3) := by decide +kernel
theorem dX1_init_88 : decode cX1_init 88 = .ok (.aload_n 0, 1) := by decide +kernel
theorem dX1_init_89 : decode cX1_init 89 = .ok (.aload_n 2, 1) := by decide +kernel
theorem dX1_init_90 : decode cX1_init 90 = .ok (.putfield 51, 3) := by decide +kernel
theorem dX1_init_93 : decode cX1_init 93 = .ok (.aload_n 0, 1) := by decide +kernel
theorem dX1_init_94 : decode cX1_init 94 = .ok (.aload_n 3, 1) := by decide +kernel
theorem dX1_init_95 : decode cX1_init 95 = .ok (.putfield 55, 3) := by decide +kernel
theorem dX1_init_98 : decode cX1_init 98 = .ok (.return_, 1) := by decide +kernel
theorem dX1_has_0 : decode cX1_has 0 = .ok (.iload_n 1, 1) := by decide +kernel
theorem dX1_has_1 : decode cX1_has 1 = .ok (.ifCond .lt 22, 3) := by decide +kernel
theorem dX1_has_4 : decode cX1_has 4 = .ok (.iload_n 1, 1) := by decide +kernel
theorem dX1_has_5 : decode cX1_has 5 = .ok (.aload_n 0, 1) := by decide +kernel
theorem dX1_has_6 : decode cX1_has 6 = .ok (.getfield 31, 3) := by decide +kernel
theorem dX1_has_9 : decode cX1_has 9 = .ok (.if_icmp .ge 14, 3) := by decide +kernel
theorem dX1_has_12 : decode cX1_has 12 = .ok (.iload_n 1, 1) := by decide +kernel
theorem dX1_has_13 : decode cX1_has 13 = .ok (.sipush 400, 3) := by decide +kernel
theorem dX1_has_16 : decode cX1_has 16 = .ok (.if_icmp .ge 7, 3) := by decide +kernel
theorem dX1_has_19 : decode cX1_has 19 = .ok (.iconst 1, 1) := by decide +kernel
theorem dX1_has_20 : decode cX1_has 20 = .ok (.goto 4, 3) := by decide +kernel
theorem dX1_has_23 : decode cX1_has 23 = .ok (.iconst 0, 1) := by decide +kernel
theorem dX1_has_24 : decode cX1_has 24 = .ok (.ireturn, 1) := by decide +kernel
theorem dX1_length_0 : decode cX1_length 0 = .ok (.aload_n 0, 1) := by decide +kernel
theorem dX1_length_1 : decode cX1_length 1 = .ok (.getfield 31, 3) := by decide +kernel
theorem dX1_length_4 : decode cX1_length 4 = .ok (.ireturn, 1) := by decide +kernel
theorem dX1_numbersInTables_0 : decode cX1_numbersInTables 0 = .ok (.aload_n 0, 1) := by decide +kernel
theorem dX1_numbersInTables_1 : decode cX1_numbersInTables 1 = .ok (.getfield 35, 3) := by decide +kernel
theorem dX1_numbersInTables_4 : decode cX1_numbersInTables 4 = .ok (.ireturn, 1) := by decide +kernel
theorem dX1_target_0 : decode cX1_target 0 = .ok (.aload_n 0, 1) := by decide +kernel
theorem dX1_target_1 : decode cX1_target 1 = .ok (.getfield 41, 3) := by decide +kernel
theorem dX1_target_4 : decode cX1_target 4 = .ok (.ireturn, 1) := by decide +kernel
theorem dX1_linesDone_0 : decode cX1_linesDone 0 = .ok (.aload_n 0, 1) := by decide +kernel
theorem dX1_linesDone_1 : decode cX1_linesDone 1 = .ok (.getfield 44, 3) := by decide +kernel
theorem dX1_linesDone_4 : decode cX1_linesDone 4 = .ok (.ireturn, 1) := by decide +kernel
theorem dX1_kind_0 : decode cX1_kind 0 = .ok (.aload_n 0, 1) := by decide +kernel
theorem dX1_kind_1 : decode cX1_kind 1 = .ok (.iload_n 1, 1) := by decide +kernel
theorem dX1_kind_2 : decode cX1_kind 2 = .ok (.invokevirtual 59, 3) := by decide +kernel
theorem dX1_kind_5 : decode cX1_kind 5 = .ok (.ifCond .eq 12, 3) := by decide +kernel
theorem dX1_kind_8 : decode cX1_kind 8 = .ok (.aload_n 0, 1) := by decide +kernel
theorem dX1_kind_9 : decode cX1_kind 9 = .ok (.getfield 9, 3) := by decide +kernel
theorem dX1_kind_12 : decode cX1_kind 12 = .ok (.iload_n 1, 1) := by decide +kernel
theorem dX1_kind_13 : decode cX1_kind 13 = .ok (.iaload, 1) := by decide +kernel
theorem dX1_kind_14 : decode cX1_kind 14 = .ok (.goto 4, 3) := by decide +kernel
theorem dX1_kind_17 : decode cX1_kind 17 = .ok (.iconst (-1), 1) := by decide +kernel
theorem dX1_kind_18 : decode cX1_kind 18 = .ok (.ireturn, 1) := by decide +kernel
theorem dX1_first_0 : decode cX1_first 0 = .ok (.aload_n 0, 1) := by decide +kernel
theorem dX1_first_1 : decode cX1_first 1 = .ok (.iload_n 1, 1) := by decide +kernel
theorem dX1_first_2 : decode cX1_first 2 = .ok (.invokevirtual 59, 3) := by decide +kernel
theorem dX1_first_5 : decode cX1_first 5 = .ok (.ifCond .eq 12, 3) := by decide +kernel
theorem dX1_first_8 : decode cX1_first 8 = .ok (.aload_n 0, 1) := by decide +kernel
theorem dX1_first_9 : decode cX1_first 9 = .ok (.getfield 15, 3) := by decide +kernel
theorem dX1_first_12 : decode cX1_first 12 = .ok (.iload_n 1, 1) := by decide +kernel
theorem dX1_first_13 : decode cX1_first 13 = .ok (.iaload, 1) := by decide +kernel
theorem dX1_first_14 : decode cX1_first 14 = .ok (.goto 4, 3) := by decide +kernel
theorem dX1_first_17 : decode cX1_first 17 = .ok (.iconst 0, 1) := by decide +kernel
theorem dX1_first_18 : decode cX1_first 18 = .ok (.ireturn, 1) := by decide +kernel
theorem dX1_second_0 : decode cX1_second 0 = .ok (.aload_n 0, 1) := by decide +kernel
theorem dX1_second_1 : decode cX1_second 1 = .ok (.iload_n 1, 1) := by decide +kernel
theorem dX1_second_2 : decode cX1_second 2 = .ok (.invokevirtual 59, 3) := by decide +kernel
theorem dX1_second_5 : decode cX1_second 5 = .ok (.ifCond .eq 12, 3) := by decide +kernel
theorem dX1_second_8 : decode cX1_second 8 = .ok (.aload_n 0, 1) := by decide +kernel
theorem dX1_second_9 : decode cX1_second 9 = .ok (.getfield 18, 3) := by decide +kernel
theorem dX1_second_12 : decode cX1_second 12 = .ok (.iload_n 1, 1) := by decide +kernel
theorem dX1_second_13 : decode cX1_second 13 = .ok (.iaload, 1) := by decide +kernel
theorem dX1_second_14 : decode cX1_second 14 = .ok (.goto 4, 3) := by decide +kernel
theorem dX1_second_17 : decode cX1_second 17 = .ok (.iconst 0, 1) := by decide +kernel
theorem dX1_second_18 : decode cX1_second 18 = .ok (.ireturn, 1) := by decide +kernel
theorem dX1_row_0 : decode cX1_row 0 = .ok (.aload_n 0, 1) := by decide +kernel
theorem dX1_row_1 : decode cX1_row 1 = .ok (.iload_n 1, 1) := by decide +kernel
theorem dX1_row_2 : decode cX1_row 2 = .ok (.invokevirtual 59, 3) := by decide +kernel
theorem dX1_row_5 : decode cX1_row 5 = .ok (.ifCond .eq 12, 3) := by decide +kernel
theorem dX1_row_8 : decode cX1_row 8 = .ok (.aload_n 0, 1) := by decide +kernel
theorem dX1_row_9 : decode cX1_row 9 = .ok (.getfield 21, 3) := by decide +kernel
theorem dX1_row_12 : decode cX1_row 12 = .ok (.iload_n 1, 1) := by decide +kernel
theorem dX1_row_13 : decode cX1_row 13 = .ok (.laload, 1) := by decide +kernel
theorem dX1_row_14 : decode cX1_row 14 = .ok (.goto 4, 3) := by decide +kernel
theorem dX1_row_17 : decode cX1_row 17 = .ok (.lconst 0, 1) := by decide +kernel
theorem dX1_row_18 : decode cX1_row 18 = .ok (.lreturn, 1) := by decide +kernel
theorem dX1_number_0 : decode cX1_number 0 = .ok (.aload_n 0, 1) := by decide +kernel
theorem dX1_number_1 : decode cX1_number 1 = .ok (.iload_n 1, 1) := by decide +kernel
theorem dX1_number_2 : decode cX1_number 2 = .ok (.invokevirtual 59, 3) := by decide +kernel
theorem dX1_number_5 : decode cX1_number 5 = .ok (.ifCond .eq 31, 3) := by decide +kernel
theorem dX1_number_8 : decode cX1_number 8 = .ok (.aload_n 0, 1) := by decide +kernel
theorem dX1_number_9 : decode cX1_number 9 = .ok (.getfield 9, 3) := by decide +kernel
theorem dX1_number_12 : decode cX1_number 12 = .ok (.iload_n 1, 1) := by decide +kernel
theorem dX1_number_13 : decode cX1_number 13 = .ok (.iaload, 1) := by decide +kernel
theorem dX1_number_14 : decode cX1_number 14 = .ok (.iconst 5, 1) := by decide +kernel
theorem dX1_number_15 : decode cX1_number 15 = .ok (.if_icmp .ne 21, 3) := by decide +kernel
theorem dX1_number_18 : decode cX1_number 18 = .ok (.lload_n 2, 1) := by decide +kernel
theorem dX1_number_19 : decode cX1_number 19 = .ok (.lconst 0, 1) := by decide +kernel
theorem dX1_number_20 : decode cX1_number 20 = .ok (.lcmp, 1) := by decide +kernel
theorem dX1_number_21 : decode cX1_number 21 = .ok (.ifCond .lt 15, 3) := by decide +kernel
theorem dX1_number_24 : decode cX1_number 24 = .ok (.lload_n 2, 1) := by decide +kernel
theorem dX1_number_25 : decode cX1_number 25 = .ok (.aload_n 0, 1) := by decide +kernel
theorem dX1_number_26 : decode cX1_number 26 = .ok (.getfield 18, 3) := by decide +kernel
theorem dX1_number_29 : decode cX1_number 29 = .ok (.iload_n 1, 1) := by decide +kernel
theorem dX1_number_30 : decode cX1_number 30 = .ok (.iaload, 1) := by decide +kernel
theorem dX1_number_31 : decode cX1_number 31 = .ok (.i2l, 1) := by decide +kernel
theorem dX1_number_32 : decode cX1_number 32 = .ok (.lcmp, 1) := by decide +kernel
theorem dX1_number_33 : decode cX1_number 33 = .ok (.ifCond .lt 5, 3) := by decide +kernel
theorem dX1_number_36 : decode cX1_number 36 = .ok (.iconst (-1), 1) := by decide +kernel
theorem dX1_number_37 : decode cX1_number 37 = .ok (.ireturn, 1) := by decide +kernel
theorem dX1_number_38 : decode cX1_number 38 = .ok (.aload_n 0, 1) := by decide +kernel
theorem dX1_number_39 : decode cX1_number 39 = .ok (.getfield 25, 3) := by decide +kernel
theorem dX1_number_42 : decode cX1_number 42 = .ok (.iload_n 1, 1) := by decide +kernel
theorem dX1_number_43 : decode cX1_number 43 = .ok (.iaload, 1) := by decide +kernel
theorem dX1_number_44 : decode cX1_number 44 = .ok (.i2l, 1) := by decide +kernel
theorem dX1_number_45 : decode cX1_number 45 = .ok (.lload_n 2, 1) := by decide +kernel
theorem dX1_number_46 : decode cX1_number 46 = .ok (.ladd, 1) := by decide +kernel
theorem dX1_number_47 : decode cX1_number 47 = .ok (.lstore 4, 2) := by decide +kernel
theorem dX1_number_49 : decode cX1_number 49 = .ok (.lload 4, 2) := by decide +kernel
theorem dX1_number_51 : decode cX1_number 51 = .ok (.lconst 0, 1) := by decide +kernel
theorem dX1_number_52 : decode cX1_number 52 = .ok (.lcmp, 1) := by decide +kernel
theorem dX1_number_53 : decode cX1_number 53 = .ok (.ifCond .lt 23, 3) := by decide +kernel
theorem dX1_number_56 : decode cX1_number 56 = .ok (.lload 4, 2) := by decide +kernel
theorem dX1_number_58 : decode cX1_number 58 = .ok (.ldc2_w 63, 3) := by decide +kernel
theorem dX1_number_61 : decode cX1_number 61 = .ok (.lcmp, 1) := by decide +kernel
theorem dX1_number_62 : decode cX1_number 62 = .ok (.ifCond .ge 14, 3) := by decide +kernel
theorem dX1_number_65 : decode cX1_number 65 = .ok (.aload_n 0, 1) := by decide +kernel
theorem dX1_number_66 : decode cX1_number 66 = .ok (.getfield 28, 3) := by decide +kernel
theorem dX1_number_69 : decode cX1_number 69 = .ok (.lload 4, 2) := by decide +kernel
theorem dX1_number_71 : decode cX1_number 71 = .ok (.l2i, 1) := by decide +kernel
theorem dX1_number_72 : decode cX1_number 72 = .ok (.iaload, 1) := by decide +kernel
theorem dX1_number_73 : decode cX1_number 73 = .ok (.goto 4, 3) := by decide +kernel
theorem dX1_number_76 : decode cX1_number 76 = .ok (.iconst (-1), 1) := by decide +kernel
theorem dX1_number_77 : decode cX1_number 77 = .ok (.ireturn, 1) := by decide +kernel
theorem dX1_layOut_0 : decode cX1_layOut 0 = .ok (.aload_n 0, 1) := by decide +kernel
theorem dX1_layOut_1 : decode cX1_layOut 1 = .ok (.iload_n 1, 1) := by decide +kernel
theorem dX1_layOut_2 : decode cX1_layOut 2 = .ok (.putfield 38, 3) := by decide +kernel
theorem dX1_layOut_5 : decode cX1_layOut 5 = .ok (.aload_n 0, 1) := by decide +kernel
theorem dX1_layOut_6 : decode cX1_layOut 6 = .ok (.iconst 0, 1) := by decide +kernel
theorem dX1_layOut_7 : decode cX1_layOut 7 = .ok (.putfield 31, 3) := by decide +kernel
theorem dX1_layOut_10 : decode cX1_layOut 10 = .ok (.aload_n 0, 1) := by decide +kernel
theorem dX1_layOut_11 : decode cX1_layOut 11 = .ok (.iconst 0, 1) := by decide +kernel
theorem dX1_layOut_12 : decode cX1_layOut 12 = .ok (.putfield 35, 3) := by decide +kernel
theorem dX1_layOut_15 : decode cX1_layOut 15 = .ok (.aload_n 0, 1) := by decide +kernel
theorem dX1_layOut_16 : decode cX1_layOut 16 = .ok (.getfield 51, 3) := by decide +kernel
theorem dX1_layOut_19 : decode cX1_layOut 19 = .ok (.invokevirtual 65, 3) := by decide +kernel
theorem dX1_layOut_22 : decode cX1_layOut 22 = .ok (.ifCond .ne 15, 3) := by decide +kernel
theorem dX1_layOut_25 : decode cX1_layOut 25 = .ok (.aload_n 0, 1) := by decide +kernel
theorem dX1_layOut_26 : decode cX1_layOut 26 = .ok (.iconst 3, 1) := by decide +kernel
theorem dX1_layOut_27 : decode cX1_layOut 27 = .ok (.iload_n 1, 1) := by decide +kernel
theorem dX1_layOut_28 : decode cX1_layOut 28 = .ok (.iconst 0, 1) := by decide +kernel
theorem dX1_layOut_29 : decode cX1_layOut 29 = .ok (.lconst 0, 1) := by decide +kernel
theorem dX1_layOut_30 : decode cX1_layOut 30 = .ok (.invokevirtual 71, 3) := by decide +kernel
theorem dX1_layOut_33 : decode cX1_layOut 33 = .ok (.pop, 1) := by decide +kernel
theorem dX1_layOut_34 : decode cX1_layOut 34 = .ok (.goto 22, 3) := by decide +kernel
theorem dX1_layOut_37 : decode cX1_layOut 37 = .ok (.aload_n 0, 1) := by decide +kernel
theorem dX1_layOut_38 : decode cX1_layOut 38 = .ok (.iconst 0, 1) := by decide +kernel
theorem dX1_layOut_39 : decode cX1_layOut 39 = .ok (.aload_n 0, 1) := by decide +kernel
theorem dX1_layOut_40 : decode cX1_layOut 40 = .ok (.getfield 51, 3) := by decide +kernel
theorem dX1_layOut_43 : decode cX1_layOut 43 = .ok (.invokevirtual 65, 3) := by decide +kernel
theorem dX1_layOut_46 : decode cX1_layOut 46 = .ok (.iconst 1, 1) := by decide +kernel
theorem dX1_layOut_47 : decode cX1_layOut 47 = .ok (.isub, 1) := by decide +kernel
theorem dX1_layOut_48 : decode cX1_layOut 48 = .ok (.ldc 77, 2) := by decide +kernel
theorem dX1_layOut_50 : decode cX1_layOut 50 = .ok (.ldc 78, 2) := by decide +kernel
theorem dX1_layOut_52 : decode cX1_layOut 52 = .ok (.iconst 0, 1) := by decide +kernel
theorem dX1_layOut_53 : decode cX1_layOut 53 = .ok (.invokevirtual 79, 3) := by decide +kernel
theorem dX1_layOut_56 : decode cX1_layOut 56 = .ok (.return_, 1) := by decide +kernel
theorem dX1_layPart_0 : decode cX1_layPart 0 = .ok (.iload 5, 2) := by decide +kernel
theorem dX1_layPart_2 : decode cX1_layPart 2 = .ok (.bipush 24, 2) := by decide +kernel
theorem dX1_layPart_4 : decode cX1_layPart 4 = .ok (.if_icmp .lt 4, 3) := by decide +kernel
theorem dX1_layPart_7 : decode cX1_layPart 7 = .ok (.return_, 1) := by decide +kernel
theorem dX1_layPart_8 : decode cX1_layPart 8 = .ok (.iload_n 1, 1) := by decide +kernel
theorem dX1_layPart_9 : decode cX1_layPart 9 = .ok (.iload_n 2, 1) := by decide +kernel
theorem dX1_layPart_10 : decode cX1_layPart 10 = .ok (.if_icmp .lt 12, 3) := by decide +kernel
theorem dX1_layPart_13 : decode cX1_layPart 13 = .ok (.aload_n 0, 1) := by decide +kernel
theorem dX1_layPart_14 : decode cX1_layPart 14 = .ok (.iload_n 1, 1) := by decide +kernel
theorem dX1_layPart_15 : decode cX1_layPart 15 = .ok (.iload_n 3, 1) := by decide +kernel
theorem dX1_layPart_16 : decode cX1_layPart 16 = .ok (.iload 4, 2) := by decide +kernel
theorem dX1_layPart_18 : decode cX1_layPart 18 = .ok (.invokevirtual 83, 3) := by decide +kernel
theorem dX1_layPart_21 : decode cX1_layPart 21 = .ok (.return_, 1) := by decide +kernel
theorem dX1_layPart_22 : decode cX1_layPart 22 = .ok (.aload_n 0, 1) := by decide +kernel
theorem dX1_layPart_23 : decode cX1_layPart 23 = .ok (.getfield 55, 3) := by decide +kernel
theorem dX1_layPart_26 : decode cX1_layPart 26 = .ok (.iload_n 1, 1) := by decide +kernel
theorem dX1_layPart_27 : decode cX1_layPart 27 = .ok (.iload_n 2, 1) := by decide +kernel
theorem dX1_layPart_28 : decode cX1_layPart 28 = .ok (.invokevirtual 87, 3) := by decide +kernel
theorem dX1_layPart_31 : decode cX1_layPart 31 = .ok (.istore 6, 2) := by decide +kernel
theorem dX1_layPart_33 : decode cX1_layPart 33 = .ok (.aload_n 0, 1) := by decide +kernel
theorem dX1_layPart_34 : decode cX1_layPart 34 = .ok (.getfield 51, 3) := by decide +kernel
theorem dX1_layPart_37 : decode cX1_layPart 37 = .ok (.iload 6, 2) := by decide +kernel
theorem dX1_layPart_39 : decode cX1_layPart 39 = .ok (.invokevirtual 93, 3) := by decide +kernel
theorem dX1_layPart_42 : decode cX1_layPart 42 = .ok (.istore 7, 2) := by decide +kernel
theorem dX1_layPart_44 : decode cX1_layPart 44 = .ok (.aload_n 0, 1) := by decide +kernel
theorem dX1_layPart_45 : decode cX1_layPart 45 = .ok (.iconst 0, 1) := by decide +kernel
theorem dX1_layPart_46 : decode cX1_layPart 46 = .ok (.iload 7, 2) := by decide +kernel
theorem dX1_layPart_48 : decode cX1_layPart 48 = .ok (.iconst 0, 1) := by decide +kernel
theorem dX1_layPart_49 : decode cX1_layPart 49 = .ok (.lconst 0, 1) := by decide +kernel
theorem dX1_layPart_50 : decode cX1_layPart 50 = .ok (.invokevirtual 71, 3) := by decide +kernel
theorem dX1_layPart_53 : decode cX1_layPart 53 = .ok (.istore 8, 2) := by decide +kernel
theorem dX1_layPart_55 : decode cX1_layPart 55 = .ok (.aload_n 0, 1) := by decide +kernel
theorem dX1_layPart_56 : decode cX1_layPart 56 = .ok (.iload 6, 2) := by decide +kernel
theorem dX1_layPart_58 : decode cX1_layPart 58 = .ok (.iload_n 2, 1) := by decide +kernel
theorem dX1_layPart_59 : decode cX1_layPart 59 = .ok (.iload 7, 2) := by decide +kernel
theorem dX1_layPart_61 : decode cX1_layPart 61 = .ok (.iload 4, 2) := by decide +kernel
theorem dX1_layPart_63 : decode cX1_layPart 63 = .ok (.iload 5, 2) := by decide +kernel
theorem dX1_layPart_65 : decode cX1_layPart 65 = .ok (.iconst 1, 1) := by decide +kernel
theorem dX1_layPart_66 : decode cX1_layPart 66 = .ok (.iadd, 1) := by decide +kernel
theorem dX1_layPart_67 : decode cX1_layPart 67 = .ok (.invokevirtual 79, 3) := by decide +kernel
theorem dX1_layPart_70 : decode cX1_layPart 70 = .ok (.aload_n 0, 1) := by decide +kernel
theorem dX1_layPart_71 : decode cX1_layPart 71 = .ok (.iload 8, 2) := by decide +kernel
theorem dX1_layPart_73 : decode cX1_layPart 73 = .ok (.aload_n 0, 1) := by decide +kernel
theorem dX1_layPart_74 : decode cX1_layPart 74 = .ok (.getfield 31, 3) := by decide +kernel
theorem dX1_layPart_77 : decode cX1_layPart 77 = .ok (.invokevirtual 97, 3) := by decide +kernel
theorem dX1_layPart_80 : decode cX1_layPart 80 = .ok (.aload_n 0, 1) := by decide +kernel
theorem dX1_layPart_81 : decode cX1_layPart 81 = .ok (.iload_n 1, 1) := by decide +kernel
theorem dX1_layPart_82 : decode cX1_layPart 82 = .ok (.iload 6, 2) := by decide +kernel
theorem dX1_layPart_84 : decode cX1_layPart 84 = .ok (.iconst 1, 1) := by decide +kernel
theorem dX1_layPart_85 : decode cX1_layPart 85 = .ok (.isub, 1) := by decide +kernel
theorem dX1_layPart_86 : decode cX1_layPart 86 = .ok (.iload_n 3, 1) := by decide +kernel
theorem dX1_layPart_87 : decode cX1_layPart 87 = .ok (.iload 7, 2) := by decide +kernel
theorem dX1_layPart_89 : decode cX1_layPart 89 = .ok (.iconst 1, 1) := by decide +kernel
theorem dX1_layPart_90 : decode cX1_layPart 90 = .ok (.isub, 1) := by decide +kernel
theorem dX1_layPart_91 : decode cX1_layPart 91 = .ok (.iload 5, 2) := by decide +kernel
theorem dX1_layPart_93 : decode cX1_layPart 93 = .ok (.iconst 1, 1) := by decide +kernel
theorem dX1_layPart_94 : decode cX1_layPart 94 = .ok (.iadd, 1) := by decide +kernel
theorem dX1_layPart_95 : decode cX1_layPart 95 = .ok (.invokevirtual 79, 3) := by decide +kernel
theorem dX1_layPart_98 : decode cX1_layPart 98 = .ok (.return_, 1) := by decide +kernel
theorem dX1_layLeaf_0 : decode cX1_layLeaf 0 = .ok (.aload_n 0, 1) := by decide +kernel
theorem dX1_layLeaf_1 : decode cX1_layLeaf 1 = .ok (.getfield 51, 3) := by decide +kernel
theorem dX1_layLeaf_4 : decode cX1_layLeaf 4 = .ok (.iload_n 1, 1) := by decide +kernel
theorem dX1_layLeaf_5 : decode cX1_layLeaf 5 = .ok (.invokevirtual 101, 3) := by decide +kernel
theorem dX1_layLeaf_8 : decode cX1_layLeaf 8 = .ok (.istore 4, 2) := by decide +kernel
theorem dX1_layLeaf_10 : decode cX1_layLeaf 10 = .ok (.aload_n 0, 1) := by decide +kernel
theorem dX1_layLeaf_11 : decode cX1_layLeaf 11 = .ok (.getfield 51, 3) := by decide +kernel
theorem dX1_layLeaf_14 : decode cX1_layLeaf 14 = .ok (.iload_n 1, 1) := by decide +kernel
theorem dX1_layLeaf_15 : decode cX1_layLeaf 15 = .ok (.invokevirtual 93, 3) := by decide +kernel
theorem dX1_layLeaf_18 : decode cX1_layLeaf 18 = .ok (.istore 5, 2) := by decide +kernel
theorem dX1_layLeaf_20 : decode cX1_layLeaf 20 = .ok (.aload_n 0, 1) := by decide +kernel
theorem dX1_layLeaf_21 : decode cX1_layLeaf 21 = .ok (.getfield 51, 3) := by decide +kernel
theorem dX1_layLeaf_24 : decode cX1_layLeaf 24 = .ok (.iload_n 1, 1) := by decide +kernel
theorem dX1_layLeaf_25 : decode cX1_layLeaf 25 = .ok (.invokevirtual 104, 3) := by decide +kernel
theorem dX1_layLeaf_28 : decode cX1_layLeaf 28 = .ok (.istore 6, 2) := by decide +kernel
theorem dX1_layLeaf_30 : decode cX1_layLeaf 30 = .ok (.iload 4, 2) := by decide +kernel
theorem dX1_layLeaf_32 : decode cX1_layLeaf 32 = .ok (.ifCond .ne 47, 3) := by decide +kernel
theorem dX1_layLeaf_35 : decode cX1_layLeaf 35 = .ok (.iload 5, 2) := by decide +kernel
theorem dX1_layLeaf_37 : decode cX1_layLeaf 37 = .ok (.iload 6, 2) := by decide +kernel
theorem dX1_layLeaf_39 : decode cX1_layLeaf 39 = .ok (.if_icmp .ne 40, 3) := by decide +kernel
theorem dX1_layLeaf_42 : decode cX1_layLeaf 42 = .ok (.aload_n 0, 1) := by decide +kernel
theorem dX1_layLeaf_43 : decode cX1_layLeaf 43 = .ok (.iconst 2, 1) := by decide +kernel
theorem dX1_layLeaf_44 : decode cX1_layLeaf 44 = .ok (.iload 5, 2) := by decide +kernel
theorem dX1_layLeaf_46 : decode cX1_layLeaf 46 = .ok (.aload_n 0, 1) := by decide +kernel
theorem dX1_layLeaf_47 : decode cX1_layLeaf 47 = .ok (.getfield 47, 3) := by decide +kernel
theorem dX1_layLeaf_50 : decode cX1_layLeaf 50 = .ok (.aload_n 0, 1) := by decide +kernel
theorem dX1_layLeaf_51 : decode cX1_layLeaf 51 = .ok (.getfield 51, 3) := by decide +kernel
theorem dX1_layLeaf_54 : decode cX1_layLeaf 54 = .ok (.iload_n 1, 1) := by decide +kernel
theorem dX1_layLeaf_55 : decode cX1_layLeaf 55 = .ok (.invokevirtual 107, 3) := by decide +kernel
theorem dX1_layLeaf_58 : decode cX1_layLeaf 58 = .ok (.invokevirtual 110, 3) := by decide +kernel
theorem dX1_layLeaf_61 : decode cX1_layLeaf 61 = .ok (.lconst 0, 1) := by decide +kernel
theorem dX1_layLeaf_62 : decode cX1_layLeaf 62 = .ok (.invokevirtual 71, 3) := by decide +kernel
theorem dX1_layLeaf_65 : decode cX1_layLeaf 65 = .ok (.pop, 1) := by decide +kernel
theorem dX1_layLeaf_66 : decode cX1_layLeaf 66 = .ok (.aload_n 0, 1) := by decide +kernel
theorem dX1_layLeaf_67 : decode cX1_layLeaf 67 = .ok (.iconst 3, 1) := by decide +kernel
theorem dX1_layLeaf_68 : decode cX1_layLeaf 68 = .ok (.aload_n 0, 1) := by decide +kernel
theorem dX1_layLeaf_69 : decode cX1_layLeaf 69 = .ok (.getfield 38, 3) := by decide +kernel
theorem dX1_layLeaf_72 : decode cX1_layLeaf 72 = .ok (.iconst 0, 1) := by decide +kernel
theorem dX1_layLeaf_73 : decode cX1_layLeaf 73 = .ok (.lconst 0, 1) := by decide +kernel
theorem dX1_layLeaf_74 : decode cX1_layLeaf 74 = .ok (.invokevirtual 71, 3) := by decide +kernel
theorem dX1_layLeaf_77 : decode cX1_layLeaf 77 = .ok (.pop, 1) := by decide +kernel
theorem dX1_layLeaf_78 : decode cX1_layLeaf 78 = .ok (.return_, 1) := by decide +kernel
theorem dX1_layLeaf_79 : decode cX1_layLeaf 79 = .ok (.iload_n 2, 1) := by decide +kernel
theorem dX1_layLeaf_80 : decode cX1_layLeaf 80 = .ok (.iload 5, 2) := by decide +kernel
theorem dX1_layLeaf_82 : decode cX1_layLeaf 82 = .ok (.if_icmp .ge 15, 3) := by decide +kernel
theorem dX1_layLeaf_85 : decode cX1_layLeaf 85 = .ok (.aload_n 0, 1) := by decide +kernel
theorem dX1_layLeaf_86 : decode cX1_layLeaf 86 = .ok (.iconst 0, 1) := by decide +kernel
theorem dX1_layLeaf_87 : decode cX1_layLeaf 87 = .ok (.iload 5, 2) := by decide +kernel
theorem dX1_layLeaf_89 : decode cX1_layLeaf 89 = .ok (.iconst 0, 1) := by decide +kernel
theorem dX1_layLeaf_90 : decode cX1_layLeaf 90 = .ok (.lconst 0, 1) := by decide +kernel
theorem dX1_layLeaf_91 : decode cX1_layLeaf 91 = .ok (.invokevirtual 71, 3) := by decide +kernel
theorem dX1_layLeaf_94 : decode cX1_layLeaf 94 = .ok (.goto 4, 3) := by decide +kernel
theorem dX1_layLeaf_97 : decode cX1_layLeaf 97 = .ok (.iconst (-1), 1) := by decide +kernel
theorem dX1_layLeaf_98 : decode cX1_layLeaf 98 = .ok (.istore 7, 2) := by decide +kernel
theorem dX1_layLeaf_100 : decode cX1_layLeaf 100 = .ok (.iload_n 3, 1) := by decide +kernel
theorem dX1_layLeaf_101 : decode cX1_layLeaf 101 = .ok (.iload 6, 2) := by decide +kernel
theorem dX1_layLeaf_103 : decode cX1_layLeaf 103 = .ok (.if_icmp .le 15, 3) := by decide +kernel
theorem dX1_layLeaf_106 : decode cX1_layLeaf 106 = .ok (.aload_n 0, 1) := by decide +kernel
theorem dX1_layLeaf_107 : decode cX1_layLeaf 107 = .ok (.iconst 1, 1) := by decide +kernel
theorem dX1_layLeaf_108 : decode cX1_layLeaf 108 = .ok (.iload 6, 2) := by decide +kernel
theorem dX1_layLeaf_110 : decode cX1_layLeaf 110 = .ok (.iconst 0, 1) := by decide +kernel
theorem dX1_layLeaf_111 : decode cX1_layLeaf 111 = .ok (.lconst 0, 1) := by decide +kernel
theorem dX1_layLeaf_112 : decode cX1_layLeaf 112 = .ok (.invokevirtual 71, 3) := by decide +kernel
theorem dX1_layLeaf_115 : decode cX1_layLeaf 115 = .ok (.goto 4, 3) := by decide +kernel
theorem dX1_layLeaf_118 : decode cX1_layLeaf 118 = .ok (.iconst (-1), 1) := by decide +kernel
theorem dX1_layLeaf_119 : decode cX1_layLeaf 119 = .ok (.istore 8, 2) := by decide +kernel
theorem dX1_layLeaf_121 : decode cX1_layLeaf 121 = .ok (.iload 4, 2) := by decide +kernel
theorem dX1_layLeaf_123 : decode cX1_layLeaf 123 = .ok (.ifCond .ne 29, 3) := by decide +kernel
theorem dX1_layLeaf_126 : decode cX1_layLeaf 126 = .ok (.aload_n 0, 1) := by decide +kernel
theorem dX1_layLeaf_127 : decode cX1_layLeaf 127 = .ok (.iconst 3, 1) := by decide +kernel
theorem dX1_layLeaf_128 : decode cX1_layLeaf 128 = .ok (.aload_n 0, 1) := by decide +kernel
theorem dX1_layLeaf_129 : decode cX1_layLeaf 129 = .ok (.getfield 47, 3) := by decide +kernel
theorem dX1_layLeaf_132 : decode cX1_layLeaf 132 = .ok (.aload_n 0, 1) := by decide +kernel
theorem dX1_layLeaf_133 : decode cX1_layLeaf 133 = .ok (.getfield 51, 3) := by decide +kernel
theorem dX1_layLeaf_136 : decode cX1_layLeaf 136 = .ok (.iload_n 1, 1) := by decide +kernel
theorem dX1_layLeaf_137 : decode cX1_layLeaf 137 = .ok (.invokevirtual 107, 3) := by decide +kernel
theorem dX1_layLeaf_140 : decode cX1_layLeaf 140 = .ok (.invokevirtual 110, 3) := by decide +kernel
theorem dX1_layLeaf_143 : decode cX1_layLeaf 143 = .ok (.iconst 0, 1) := by decide +kernel
theorem dX1_layLeaf_144 : decode cX1_layLeaf 144 = .ok (.lconst 0, 1) := by decide +kernel
theorem dX1_layLeaf_145 : decode cX1_layLeaf 145 = .ok (.invokevirtual 71, 3) := by decide +kernel
theorem dX1_layLeaf_148 : decode cX1_layLeaf 148 = .ok (.pop, 1) := by decide +kernel
theorem dX1_layLeaf_149 : decode cX1_layLeaf 149 = .ok (.goto 28, 3) := by decide +kernel
theorem dX1_layLeaf_152 : decode cX1_layLeaf 152 = .ok (.iload 4, 2) := by decide +kernel
theorem dX1_layLeaf_154 : decode cX1_layLeaf 154 = .ok (.iconst 1, 1) := by decide +kernel
theorem dX1_layLeaf_155 : decode cX1_layLeaf 155 = .ok (.if_icmp .ne 13, 3) := by decide +kernel
theorem dX1_layLeaf_158 : decode cX1_layLeaf 158 = .ok (.aload_n 0, 1) := by decide +kernel
theorem dX1_layLeaf_159 : decode cX1_layLeaf 159 = .ok (.iload_n 1, 1) := by decide +kernel
theorem dX1_layLeaf_160 : decode cX1_layLeaf 160 = .ok (.iload 5, 2) := by decide +kernel
theorem dX1_layLeaf_162 : decode cX1_layLeaf 162 = .ok (.invokevirtual 114, 3) := by decide +kernel
theorem dX1_layLeaf_165 : decode cX1_layLeaf 165 = .ok (.goto 12, 3) := by decide +kernel
theorem dX1_layLeaf_168 : decode cX1_layLeaf 168 = .ok (.aload_n 0, 1) := by decide +kernel
theorem dX1_layLeaf_169 : decode cX1_layLeaf 169 = .ok (.iload_n 1, 1) := by decide +kernel
theorem dX1_layLeaf_170 : decode cX1_layLeaf 170 = .ok (.iload 5, 2) := by decide +kernel
theorem dX1_layLeaf_172 : decode cX1_layLeaf 172 = .ok (.iload 6, 2) := by decide +kernel
theorem dX1_layLeaf_174 : decode cX1_layLeaf 174 = .ok (.invokevirtual 117, 3) := by decide +kernel
theorem dX1_layLeaf_177 : decode cX1_layLeaf 177 = .ok (.iload 4, 2) := by decide +kernel
theorem dX1_layLeaf_179 : decode cX1_layLeaf 179 = .ok (.iconst 1, 1) := by decide +kernel
theorem dX1_layLeaf_180 : decode cX1_layLeaf 180 = .ok (.if_icmp .eq 15, 3) := by decide +kernel
theorem dX1_layLeaf_183 : decode cX1_layLeaf 183 = .ok (.iload 7, 2) := by decide +kernel
theorem dX1_layLeaf_185 : decode cX1_layLeaf 185 = .ok (.iconst (-1), 1) := by decide +kernel
theorem dX1_layLeaf_186 : decode cX1_layLeaf 186 = .ok (.if_icmp .ne 9, 3) := by decide +kernel
theorem dX1_layLeaf_189 : decode cX1_layLeaf 189 = .ok (.iload 8, 2) := by decide +kernel
theorem dX1_layLeaf_191 : decode cX1_layLeaf 191 = .ok (.iconst (-1), 1) := by decide +kernel
theorem dX1_layLeaf_192 : decode cX1_layLeaf 192 = .ok (.if_icmp .eq 32, 3) := by decide +kernel
theorem dX1_layLeaf_195 : decode cX1_layLeaf 195 = .ok (.aload_n 0, 1) := by decide +kernel
theorem dX1_layLeaf_196 : decode cX1_layLeaf 196 = .ok (.iconst 3, 1) := by decide +kernel
theorem dX1_layLeaf_197 : decode cX1_layLeaf 197 = .ok (.aload_n 0, 1) := by decide +kernel
theorem dX1_layLeaf_198 : decode cX1_layLeaf 198 = .ok (.getfield 38, 3) := by decide +kernel
theorem dX1_layLeaf_201 : decode cX1_layLeaf 201 = .ok (.iconst 0, 1) := by decide +kernel
theorem dX1_layLeaf_202 : decode cX1_layLeaf 202 = .ok (.lconst 0, 1) := by decide +kernel
theorem dX1_layLeaf_203 : decode cX1_layLeaf 203 = .ok (.invokevirtual 71, 3) := by decide +kernel
theorem dX1_layLeaf_206 : decode cX1_layLeaf 206 = .ok (.istore 9, 2) := by decide +kernel
theorem dX1_layLeaf_208 : decode cX1_layLeaf 208 = .ok (.aload_n 0, 1) := by decide +kernel
theorem dX1_layLeaf_209 : decode cX1_layLeaf 209 = .ok (.iload 7, 2) := by decide +kernel
theorem dX1_layLeaf_211 : decode cX1_layLeaf 211 = .ok (.iload 9, 2) := by decide +kernel
theorem dX1_layLeaf_213 : decode cX1_layLeaf 213 = .ok (.invokevirtual 97, 3) := by decide +kernel
theorem dX1_layLeaf_216 : decode cX1_layLeaf 216 = .ok (.aload_n 0, 1) := by decide +kernel
theorem dX1_layLeaf_217 : decode cX1_layLeaf 217 = .ok (.iload 8, 2) := by decide +kernel
theorem dX1_layLeaf_219 : decode cX1_layLeaf 219 = .ok (.iload 9, 2) := by decide +kernel
theorem dX1_layLeaf_221 : decode cX1_layLeaf 221 = .ok (.invokevirtual 97, 3) := by decide +kernel
theorem dX1_layLeaf_224 : decode cX1_layLeaf 224 = .ok (.return_, 1) := by decide +kernel
theorem dX1_layBits_0 : decode cX1_layBits 0 = .ok (.aload_n 0, 1) := by decide +kernel
theorem dX1_layBits_1 : decode cX1_layBits 1 = .ok (.getfield 51, 3) := by decide +kernel
theorem dX1_layBits_4 : decode cX1_layBits 4 = .ok (.iload_n 1, 1) := by decide +kernel
theorem dX1_layBits_5 : decode cX1_layBits 5 = .ok (.invokevirtual 107, 3) := by decide +kernel
theorem dX1_layBits_8 : decode cX1_layBits 8 = .ok (.istore_n 3, 1) := by decide +kernel
theorem dX1_layBits_9 : decode cX1_layBits 9 = .ok (.aload_n 0, 1) := by decide +kernel
theorem dX1_layBits_10 : decode cX1_layBits 10 = .ok (.getfield 51, 3) := by decide +kernel
theorem dX1_layBits_13 : decode cX1_layBits 13 = .ok (.iload_n 1, 1) := by decide +kernel
theorem dX1_layBits_14 : decode cX1_layBits 14 = .ok (.invokevirtual 120, 3) := by decide +kernel
theorem dX1_layBits_17 : decode cX1_layBits 17 = .ok (.istore 4, 2) := by decide +kernel
theorem dX1_layBits_19 : decode cX1_layBits 19 = .ok (.iconst 0, 1) := by decide +kernel
theorem dX1_layBits_20 : decode cX1_layBits 20 = .ok (.istore 5, 2) := by decide +kernel
theorem dX1_layBits_22 : decode cX1_layBits 22 = .ok (.iload_n 3, 1) := by decide +kernel
theorem dX1_layBits_23 : decode cX1_layBits 23 = .ok (.istore 6, 2) := by decide +kernel
theorem dX1_layBits_25 : decode cX1_layBits 25 = .ok (.iload 6, 2) := by decide +kernel
theorem dX1_layBits_27 : decode cX1_layBits 27 = .ok (.iload 4, 2) := by decide +kernel
theorem dX1_layBits_29 : decode cX1_layBits 29 = .ok (.if_icmp .gt 67, 3) := by decide +kernel
theorem dX1_layBits_32 : decode cX1_layBits 32 = .ok (.iload 6, 2) := by decide +kernel
theorem dX1_layBits_34 : decode cX1_layBits 34 = .ok (.bipush 24, 2) := by decide +kernel
theorem dX1_layBits_36 : decode cX1_layBits 36 = .ok (.if_icmp .ge 60, 3) := by decide +kernel
theorem dX1_layBits_39 : decode cX1_layBits 39 = .ok (.aload_n 0, 1) := by decide +kernel
theorem dX1_layBits_40 : decode cX1_layBits 40 = .ok (.getfield 47, 3) := by decide +kernel
theorem dX1_layBits_43 : decode cX1_layBits 43 = .ok (.iload 6, 2) := by decide +kernel
theorem dX1_layBits_45 : decode cX1_layBits 45 = .ok (.invokevirtual 110, 3) := by decide +kernel
theorem dX1_layBits_48 : decode cX1_layBits 48 = .ok (.istore 7, 2) := by decide +kernel
theorem dX1_layBits_50 : decode cX1_layBits 50 = .ok (.iload 5, 2) := by decide +kernel
theorem dX1_layBits_52 : decode cX1_layBits 52 = .ok (.iconst 1, 1) := by decide +kernel
theorem dX1_layBits_53 : decode cX1_layBits 53 = .ok (.iload 7, 2) := by decide +kernel
theorem dX1_layBits_55 : decode cX1_layBits 55 = .ok (.ishl, 1) := by decide +kernel
theorem dX1_layBits_56 : decode cX1_layBits 56 = .ok (.iand, 1) := by decide +kernel
theorem dX1_layBits_57 : decode cX1_layBits 57 = .ok (.ifCond .ne 33, 3) := by decide +kernel
theorem dX1_layBits_60 : decode cX1_layBits 60 = .ok (.iload 5, 2) := by decide +kernel
theorem dX1_layBits_62 : decode cX1_layBits 62 = .ok (.iconst 1, 1) := by decide +kernel
theorem dX1_layBits_63 : decode cX1_layBits 63 = .ok (.iload 7, 2) := by decide +kernel
theorem dX1_layBits_65 : decode cX1_layBits 65 = .ok (.ishl, 1) := by decide +kernel
theorem dX1_layBits_66 : decode cX1_layBits 66 = .ok (.ior, 1) := by decide +kernel
theorem dX1_layBits_67 : decode cX1_layBits 67 = .ok (.istore 5, 2) := by decide +kernel
theorem dX1_layBits_69 : decode cX1_layBits 69 = .ok (.aload_n 0, 1) := by decide +kernel
theorem dX1_layBits_70 : decode cX1_layBits 70 = .ok (.iconst 4, 1) := by decide +kernel
theorem dX1_layBits_71 : decode cX1_layBits 71 = .ok (.iload_n 2, 1) := by decide +kernel
theorem dX1_layBits_72 : decode cX1_layBits 72 = .ok (.iload 7, 2) := by decide +kernel
theorem dX1_layBits_74 : decode cX1_layBits 74 = .ok (.aload_n 0, 1) := by decide +kernel
theorem dX1_layBits_75 : decode cX1_layBits 75 = .ok (.getfield 47, 3) := by decide +kernel
theorem dX1_layBits_78 : decode cX1_layBits 78 = .ok (.iload_n 3, 1) := by decide +kernel
theorem dX1_layBits_79 : decode cX1_layBits 79 = .ok (.iload 4, 2) := by decide +kernel
theorem dX1_layBits_81 : decode cX1_layBits 81 = .ok (.iload 7, 2) := by decide +kernel
theorem dX1_layBits_83 : decode cX1_layBits 83 = .ok (.invokevirtual 123, 3) := by decide +kernel
theorem dX1_layBits_86 : decode cX1_layBits 86 = .ok (.invokevirtual 71, 3) := by decide +kernel
theorem dX1_layBits_89 : decode cX1_layBits 89 = .ok (.pop, 1) := by decide +kernel
theorem dX1_layBits_90 : decode cX1_layBits 90 = .ok (.iinc 6 1, 3) := by decide +kernel
theorem dX1_layBits_93 : decode cX1_layBits 93 = .ok (.goto (-68), 3) := by decide +kernel
theorem dX1_layBits_96 : decode cX1_layBits 96 = .ok (.return_, 1) := by decide +kernel
theorem dX1_layTable_0 : decode cX1_layTable 0 = .ok (.aload_n 0, 1) := by decide +kernel
theorem dX1_layTable_1 : decode cX1_layTable 1 = .ok (.getfield 35, 3) := by decide +kernel
theorem dX1_layTable_4 : decode cX1_layTable 4 = .ok (.istore 4, 2) := by decide +kernel
theorem dX1_layTable_6 : decode cX1_layTable 6 = .ok (.iload_n 3, 1) := by decide +kernel
theorem dX1_layTable_7 : decode cX1_layTable 7 = .ok (.i2l, 1) := by decide +kernel
theorem dX1_layTable_8 : decode cX1_layTable 8 = .ok (.iload_n 2, 1) := by decide +kernel
theorem dX1_layTable_9 : decode cX1_layTable 9 = .ok (.i2l, 1) := by decide +kernel
theorem dX1_layTable_10 : decode cX1_layTable 10 = .ok (.lsub, 1) := by decide +kernel
theorem dX1_layTable_11 : decode cX1_layTable 11 = .ok (.lconst 1, 1) := by decide +kernel
theorem dX1_layTable_12 : decode cX1_layTable 12 = .ok (.ladd, 1) := by decide +kernel
theorem dX1_layTable_13 : decode cX1_layTable 13 = .ok (.sipush 3072, 3) := by decide +kernel
theorem dX1_layTable_16 : decode cX1_layTable 16 = .ok (.iload 4, 2) := by decide +kernel
theorem dX1_layTable_18 : decode cX1_layTable 18 = .ok (.isub, 1) := by decide +kernel
theorem dX1_layTable_19 : decode cX1_layTable 19 = .ok (.i2l, 1) := by decide +kernel
theorem dX1_layTable_20 : decode cX1_layTable 20 = .ok (.invokestatic 127, 3) := by decide +kernel
theorem dX1_layTable_23 : decode cX1_layTable 23 = .ok (.l2i, 1) := by decide +kernel
theorem dX1_layTable_24 : decode cX1_layTable 24 = .ok (.istore 5, 2) := by decide +kernel
theorem dX1_layTable_26 : decode cX1_layTable 26 = .ok (.aload_n 0, 1) := by decide +kernel
theorem dX1_layTable_27 : decode cX1_layTable 27 = .ok (.iconst 5, 1) := by decide +kernel
theorem dX1_layTable_28 : decode cX1_layTable 28 = .ok (.iload_n 2, 1) := by decide +kernel
theorem dX1_layTable_29 : decode cX1_layTable 29 = .ok (.iload 5, 2) := by decide +kernel
theorem dX1_layTable_31 : decode cX1_layTable 31 = .ok (.lconst 0, 1) := by decide +kernel
theorem dX1_layTable_32 : decode cX1_layTable 32 = .ok (.invokevirtual 71, 3) := by decide +kernel
theorem dX1_layTable_35 : decode cX1_layTable 35 = .ok (.istore 6, 2) := by decide +kernel
theorem dX1_layTable_37 : decode cX1_layTable 37 = .ok (.aload_n 0, 1) := by decide +kernel
theorem dX1_layTable_38 : decode cX1_layTable 38 = .ok (.iload 6, 2) := by decide +kernel
theorem dX1_layTable_40 : decode cX1_layTable 40 = .ok (.invokevirtual 59, 3) := by decide +kernel
theorem dX1_layTable_43 : decode cX1_layTable 43 = .ok (.ifCond .eq 12, 3) := by decide +kernel
theorem dX1_layTable_46 : decode cX1_layTable 46 = .ok (.aload_n 0, 1) := by decide +kernel
theorem dX1_layTable_47 : decode cX1_layTable 47 = .ok (.getfield 25, 3) := by decide +kernel
theorem dX1_layTable_50 : decode cX1_layTable 50 = .ok (.iload 6, 2) := by decide +kernel
theorem dX1_layTable_52 : decode cX1_layTable 52 = .ok (.iload 4, 2) := by decide +kernel
theorem dX1_layTable_54 : decode cX1_layTable 54 = .ok (.iastore, 1) := by decide +kernel
theorem dX1_layTable_55 : decode cX1_layTable 55 = .ok (.aload_n 0, 1) := by decide +kernel
theorem dX1_layTable_56 : decode cX1_layTable 56 = .ok (.dup, 1) := by decide +kernel
theorem dX1_layTable_57 : decode cX1_layTable 57 = .ok (.getfield 35, 3) := by decide +kernel
theorem dX1_layTable_60 : decode cX1_layTable 60 = .ok (.iload 5, 2) := by decide +kernel
theorem dX1_layTable_62 : decode cX1_layTable 62 = .ok (.iadd, 1) := by decide +kernel
theorem dX1_layTable_63 : decode cX1_layTable 63 = .ok (.putfield 35, 3) := by decide +kernel
theorem dX1_layTable_66 : decode cX1_layTable 66 = .ok (.aload_n 0, 1) := by decide +kernel
theorem dX1_layTable_67 : decode cX1_layTable 67 = .ok (.iload 4, 2) := by decide +kernel
theorem dX1_layTable_69 : decode cX1_layTable 69 = .ok (.aload_n 0, 1) := by decide +kernel
theorem dX1_layTable_70 : decode cX1_layTable 70 = .ok (.getfield 35, 3) := by decide +kernel
theorem dX1_layTable_73 : decode cX1_layTable 73 = .ok (.iconst 1, 1) := by decide +kernel
theorem dX1_layTable_74 : decode cX1_layTable 74 = .ok (.isub, 1) := by decide +kernel
theorem dX1_layTable_75 : decode cX1_layTable 75 = .ok (.aload_n 0, 1) := by decide +kernel
theorem dX1_layTable_76 : decode cX1_layTable 76 = .ok (.getfield 38, 3) := by decide +kernel
theorem dX1_layTable_79 : decode cX1_layTable 79 = .ok (.invokevirtual 133, 3) := by decide +kernel
theorem dX1_layTable_82 : decode cX1_layTable 82 = .ok (.aload_n 0, 1) := by decide +kernel
theorem dX1_layTable_83 : decode cX1_layTable 83 = .ok (.getfield 51, 3) := by decide +kernel
theorem dX1_layTable_86 : decode cX1_layTable 86 = .ok (.iload_n 1, 1) := by decide +kernel
theorem dX1_layTable_87 : decode cX1_layTable 87 = .ok (.invokevirtual 107, 3) := by decide +kernel
theorem dX1_layTable_90 : decode cX1_layTable 90 = .ok (.istore 7, 2) := by decide +kernel
theorem dX1_layTable_92 : decode cX1_layTable 92 = .ok (.iload 7, 2) := by decide +kernel
theorem dX1_layTable_94 : decode cX1_layTable 94 = .ok (.aload_n 0, 1) := by decide +kernel
theorem dX1_layTable_95 : decode cX1_layTable 95 = .ok (.getfield 51, 3) := by decide +kernel
theorem dX1_layTable_98 : decode cX1_layTable 98 = .ok (.iload_n 1, 1) := by decide +kernel
theorem dX1_layTable_99 : decode cX1_layTable 99 = .ok (.invokevirtual 120, 3) := by decide +kernel
theorem dX1_layTable_102 : decode cX1_layTable 102 = .ok (.if_icmp .gt 57, 3) := by decide +kernel
theorem dX1_layTable_105 : decode cX1_layTable 105 = .ok (.iload 7, 2) := by decide +kernel
theorem dX1_layTable_107 : decode cX1_layTable 107 = .ok (.bipush 24, 2) := by decide +kernel
theorem dX1_layTable_109 : decode cX1_layTable 109 = .ok (.if_icmp .ge 50, 3) := by decide +kernel
theorem dX1_layTable_112 : decode cX1_layTable 112 = .ok (.aload_n 0, 1) := by decide +kernel
theorem dX1_layTable_113 : decode cX1_layTable 113 = .ok (.iload 4, 2) := by decide +kernel
theorem dX1_layTable_115 : decode cX1_layTable 115 = .ok (.aload_n 0, 1) := by decide +kernel
theorem dX1_layTable_116 : decode cX1_layTable 116 = .ok (.getfield 47, 3) := by decide +kernel
theorem dX1_layTable_119 : decode cX1_layTable 119 = .ok (.iload 7, 2) := by decide +kernel
theorem dX1_layTable_121 : decode cX1_layTable 121 = .ok (.invokevirtual 136, 3) := by decide +kernel
theorem dX1_layTable_124 : decode cX1_layTable 124 = .ok (.iload_n 2, 1) := by decide +kernel
theorem dX1_layTable_125 : decode cX1_layTable 125 = .ok (.isub, 1) := by decide +kernel
theorem dX1_layTable_126 : decode cX1_layTable 126 = .ok (.iadd, 1) := by decide +kernel
theorem dX1_layTable_127 : decode cX1_layTable 127 = .ok (.iload 4, 2) := by decide +kernel
theorem dX1_layTable_129 : decode cX1_layTable 129 = .ok (.aload_n 0, 1) := by decide +kernel
theorem dX1_layTable_130 : decode cX1_layTable 130 = .ok (.getfield 47, 3) := by decide +kernel
theorem dX1_layTable_133 : decode cX1_layTable 133 = .ok (.iload 7, 2) := by decide +kernel
theorem dX1_layTable_135 : decode cX1_layTable 135 = .ok (.invokevirtual 139, 3) := by decide +kernel
theorem dX1_layTable_138 : decode cX1_layTable 138 = .ok (.iload_n 2, 1) := by decide +kernel
theorem dX1_layTable_139 : decode cX1_layTable 139 = .ok (.isub, 1) := by decide +kernel
theorem dX1_layTable_140 : decode cX1_layTable 140 = .ok (.iadd, 1) := by decide +kernel
theorem dX1_layTable_141 : decode cX1_layTable 141 = .ok (.aload_n 0, 1) := by decide +kernel
theorem dX1_layTable_142 : decode cX1_layTable 142 = .ok (.getfield 47, 3) := by decide +kernel
theorem dX1_layTable_145 : decode cX1_layTable 145 = .ok (.iload 7, 2) := by decide +kernel
theorem dX1_layTable_147 : decode cX1_layTable 147 = .ok (.invokevirtual 110, 3) := by decide +kernel
theorem dX1_layTable_150 : decode cX1_layTable 150 = .ok (.invokevirtual 133, 3) := by decide +kernel
theorem dX1_layTable_153 : decode cX1_layTable 153 = .ok (.iinc 7 1, 3) := by decide +kernel
theorem dX1_layTable_156 : decode cX1_layTable 156 = .ok (.goto (-64), 3) := by decide +kernel
theorem dX1_layTable_159 : decode cX1_layTable 159 = .ok (.return_, 1) := by decide +kernel
theorem dX1_fill_0 : decode cX1_fill 0 = .ok (.iload_n 1, 1) := by decide +kernel
theorem dX1_fill_1 : decode cX1_fill 1 = .ok (.iconst 0, 1) := by decide +kernel
theorem dX1_fill_2 : decode cX1_fill 2 = .ok (.invokestatic 142, 3) := by decide +kernel
theorem dX1_fill_5 : decode cX1_fill 5 = .ok (.istore 4, 2) := by decide +kernel
theorem dX1_fill_7 : decode cX1_fill 7 = .ok (.iload 4, 2) := by decide +kernel
theorem dX1_fill_9 : decode cX1_fill 9 = .ok (.iload_n 2, 1) := by decide +kernel
theorem dX1_fill_10 : decode cX1_fill 10 = .ok (.if_icmp .gt 25, 3) := by decide +kernel
theorem dX1_fill_13 : decode cX1_fill 13 = .ok (.iload 4, 2) := by decide +kernel
theorem dX1_fill_15 : decode cX1_fill 15 = .ok (.sipush 3072, 3) := by decide +kernel
theorem dX1_fill_18 : decode cX1_fill 18 = .ok (.if_icmp .ge 17, 3) := by decide +kernel
theorem dX1_fill_21 : decode cX1_fill 21 = .ok (.aload_n 0, 1) := by decide +kernel
theorem dX1_fill_22 : decode cX1_fill 22 = .ok (.getfield 28, 3) := by decide +kernel
theorem dX1_fill_25 : decode cX1_fill 25 = .ok (.iload 4, 2) := by decide +kernel
theorem dX1_fill_27 : decode cX1_fill 27 = .ok (.iload_n 3, 1) := by decide +kernel
theorem dX1_fill_28 : decode cX1_fill 28 = .ok (.iastore, 1) := by decide +kernel
theorem dX1_fill_29 : decode cX1_fill 29 = .ok (.iinc 4 1, 3) := by decide +kernel
theorem dX1_fill_32 : decode cX1_fill 32 = .ok (.goto (-25), 3) := by decide +kernel
theorem dX1_fill_35 : decode cX1_fill 35 = .ok (.return_, 1) := by decide +kernel
theorem dX1_write_0 : decode cX1_write 0 = .ok (.aload_n 0, 1) := by decide +kernel
theorem dX1_write_1 : decode cX1_write 1 = .ok (.getfield 31, 3) := by decide +kernel
theorem dX1_write_4 : decode cX1_write 4 = .ok (.ifCond .lt 13, 3) := by decide +kernel
theorem dX1_write_7 : decode cX1_write 7 = .ok (.aload_n 0, 1) := by decide +kernel
theorem dX1_write_8 : decode cX1_write 8 = .ok (.getfield 31, 3) := by decide +kernel
theorem dX1_write_11 : decode cX1_write 11 = .ok (.sipush 400, 3) := by decide +kernel
theorem dX1_write_14 : decode cX1_write 14 = .ok (.if_icmp .lt 5, 3) := by decide +kernel
theorem dX1_write_17 : decode cX1_write 17 = .ok (.iconst (-1), 1) := by decide +kernel
theorem dX1_write_18 : decode cX1_write 18 = .ok (.ireturn, 1) := by decide +kernel
theorem dX1_write_19 : decode cX1_write 19 = .ok (.aload_n 0, 1) := by decide +kernel
theorem dX1_write_20 : decode cX1_write 20 = .ok (.getfield 9, 3) := by decide +kernel
theorem dX1_write_23 : decode cX1_write 23 = .ok (.aload_n 0, 1) := by decide +kernel
theorem dX1_write_24 : decode cX1_write 24 = .ok (.getfield 31, 3) := by decide +kernel
theorem dX1_write_27 : decode cX1_write 27 = .ok (.iload_n 1, 1) := by decide +kernel
theorem dX1_write_28 : decode cX1_write 28 = .ok (.iastore, 1) := by decide +kernel
theorem dX1_write_29 : decode cX1_write 29 = .ok (.aload_n 0, 1) := by decide +kernel
theorem dX1_write_30 : decode cX1_write 30 = .ok (.getfield 15, 3) := by decide +kernel
theorem dX1_write_33 : decode cX1_write 33 = .ok (.aload_n 0, 1) := by decide +kernel
theorem dX1_write_34 : decode cX1_write 34 = .ok (.getfield 31, 3) := by decide +kernel
theorem dX1_write_37 : decode cX1_write 37 = .ok (.iload_n 2, 1) := by decide +kernel
theorem dX1_write_38 : decode cX1_write 38 = .ok (.iastore, 1) := by decide +kernel
theorem dX1_write_39 : decode cX1_write 39 = .ok (.aload_n 0, 1) := by decide +kernel
theorem dX1_write_40 : decode cX1_write 40 = .ok (.getfield 18, 3) := by decide +kernel
theorem dX1_write_43 : decode cX1_write 43 = .ok (.aload_n 0, 1) := by decide +kernel
theorem dX1_write_44 : decode cX1_write 44 = .ok (.getfield 31, 3) := by decide +kernel
theorem dX1_write_47 : decode cX1_write 47 = .ok (.iload_n 3, 1) := by decide +kernel
theorem dX1_write_48 : decode cX1_write 48 = .ok (.iastore, 1) := by decide +kernel
theorem dX1_write_49 : decode cX1_write 49 = .ok (.aload_n 0, 1) := by decide +kernel
theorem dX1_write_50 : decode cX1_write 50 = .ok (.getfield 21, 3) := by decide +kernel
theorem dX1_write_53 : decode cX1_write 53 = .ok (.aload_n 0, 1) := by decide +kernel
theorem dX1_write_54 : decode cX1_write 54 = .ok (.getfield 31, 3) := by decide +kernel
theorem dX1_write_57 : decode cX1_write 57 = .ok (.lload 4, 2) := by decide +kernel
theorem dX1_write_59 : decode cX1_write 59 = .ok (.lastore, 1) := by decide +kernel
theorem dX1_write_60 : decode cX1_write 60 = .ok (.aload_n 0, 1) := by decide +kernel
theorem dX1_write_61 : decode cX1_write 61 = .ok (.dup, 1) := by decide +kernel
theorem dX1_write_62 : decode cX1_write 62 = .ok (.getfield 31, 3) := by decide +kernel
theorem dX1_write_65 : decode cX1_write 65 = .ok (.dup_x1, 1) := by decide +kernel
theorem dX1_write_66 : decode cX1_write 66 = .ok (.iconst 1, 1) := by decide +kernel
theorem dX1_write_67 : decode cX1_write 67 = .ok (.iadd, 1) := by decide +kernel
theorem dX1_write_68 : decode cX1_write 68 = .ok (.putfield 31, 3) := by decide +kernel
theorem dX1_write_71 : decode cX1_write 71 = .ok (.ireturn, 1) := by decide +kernel
theorem dX1_aim_0 : decode cX1_aim 0 = .ok (.aload_n 0, 1) := by decide +kernel
theorem dX1_aim_1 : decode cX1_aim 1 = .ok (.iload_n 1, 1) := by decide +kernel
theorem dX1_aim_2 : decode cX1_aim 2 = .ok (.invokevirtual 59, 3) := by decide +kernel
theorem dX1_aim_5 : decode cX1_aim 5 = .ok (.ifCond .eq 10, 3) := by decide +kernel
theorem dX1_aim_8 : decode cX1_aim 8 = .ok (.aload_n 0, 1) := by decide +kernel
theorem dX1_aim_9 : decode cX1_aim 9 = .ok (.getfield 18, 3) := by decide +kernel
theorem dX1_aim_12 : decode cX1_aim 12 = .ok (.iload_n 1, 1) := by decide +kernel
theorem dX1_aim_13 : decode cX1_aim 13 = .ok (.iload_n 2, 1) := by decide +kernel
theorem dX1_aim_14 : decode cX1_aim 14 = .ok (.iastore, 1) := by decide +kernel
theorem dX1_aim_15 : decode cX1_aim 15 = .ok (.return_, 1) := by decide +kernel
theorem dX1_follow_0 : decode cX1_follow 0 = .ok (.iconst 0, 1) := by decide +kernel
theorem dX1_follow_1 : decode cX1_follow 1 = .ok (.istore_n 2, 1) := by decide +kernel
theorem dX1_follow_2 : decode cX1_follow 2 = .ok (.aload_n 0, 1) := by decide +kernel
theorem dX1_follow_3 : decode cX1_follow 3 = .ok (.iconst 0, 1) := by decide +kernel
theorem dX1_follow_4 : decode cX1_follow 4 = .ok (.putfield 44, 3) := by decide +kernel
theorem dX1_follow_7 : decode cX1_follow 7 = .ok (.aload_n 0, 1) := by decide +kernel
theorem dX1_follow_8 : decode cX1_follow 8 = .ok (.aload_n 0, 1) := by decide +kernel
theorem dX1_follow_9 : decode cX1_follow 9 = .ok (.getfield 38, 3) := by decide +kernel
theorem dX1_follow_12 : decode cX1_follow 12 = .ok (.putfield 41, 3) := by decide +kernel
theorem dX1_follow_15 : decode cX1_follow 15 = .ok (.aload_n 0, 1) := by decide +kernel
theorem dX1_follow_16 : decode cX1_follow 16 = .ok (.getfield 44, 3) := by decide +kernel
theorem dX1_follow_19 : decode cX1_follow 19 = .ok (.sipush 400, 3) := by decide +kernel
theorem dX1_follow_22 : decode cX1_follow 22 = .ok (.if_icmp .ge 31, 3) := by decide +kernel
theorem dX1_follow_25 : decode cX1_follow 25 = .ok (.aload_n 0, 1) := by decide +kernel
theorem dX1_follow_26 : decode cX1_follow 26 = .ok (.iload_n 2, 1) := by decide +kernel
theorem dX1_follow_27 : decode cX1_follow 27 = .ok (.invokevirtual 59, 3) := by decide +kernel
theorem dX1_follow_30 : decode cX1_follow 30 = .ok (.ifCond .eq 23, 3) := by decide +kernel
theorem dX1_follow_33 : decode cX1_follow 33 = .ok (.aload_n 0, 1) := by decide +kernel
theorem dX1_follow_34 : decode cX1_follow 34 = .ok (.iload_n 2, 1) := by decide +kernel
theorem dX1_follow_35 : decode cX1_follow 35 = .ok (.iload_n 1, 1) := by decide +kernel
theorem dX1_follow_36 : decode cX1_follow 36 = .ok (.invokevirtual 145, 3) := by decide +kernel
theorem dX1_follow_39 : decode cX1_follow 39 = .ok (.istore_n 2, 1) := by decide +kernel
theorem dX1_follow_40 : decode cX1_follow 40 = .ok (.aload_n 0, 1) := by decide +kernel
theorem dX1_follow_41 : decode cX1_follow 41 = .ok (.dup, 1) := by decide +kernel
theorem dX1_follow_42 : decode cX1_follow 42 = .ok (.getfield 44, 3) := by decide +kernel
theorem dX1_follow_45 : decode cX1_follow 45 = .ok (.iconst 1, 1) := by decide +kernel
theorem dX1_follow_46 : decode cX1_follow 46 = .ok (.iadd, 1) := by decide +kernel
theorem dX1_follow_47 : decode cX1_follow 47 = .ok (.putfield 44, 3) := by decide +kernel
theorem dX1_follow_50 : decode cX1_follow 50 = .ok (.goto (-35), 3) := by decide +kernel
theorem dX1_follow_53 : decode cX1_follow 53 = .ok (.return_, 1) := by decide +kernel
theorem dX1_doLine_0 : decode cX1_doLine 0 = .ok (.aload_n 0, 1) := by decide +kernel
theorem dX1_doLine_1 : decode cX1_doLine 1 = .ok (.iload_n 1, 1) := by decide +kernel
theorem dX1_doLine_2 : decode cX1_doLine 2 = .ok (.invokevirtual 59, 3) := by decide +kernel
theorem dX1_doLine_5 : decode cX1_doLine 5 = .ok (.ifCond .ne 5, 3) := by decide +kernel
theorem dX1_doLine_8 : decode cX1_doLine 8 = .ok (.iconst (-1), 1) := by decide +kernel
theorem dX1_doLine_9 : decode cX1_doLine 9 = .ok (.ireturn, 1) := by decide +kernel
theorem dX1_doLine_10 : decode cX1_doLine 10 = .ok (.aload_n 0, 1) := by decide +kernel
theorem dX1_doLine_11 : decode cX1_doLine 11 = .ok (.getfield 9, 3) := by decide +kernel
theorem dX1_doLine_14 : decode cX1_doLine 14 = .ok (.iload_n 1, 1) := by decide +kernel
theorem dX1_doLine_15 : decode cX1_doLine 15 = .ok (.iaload, 1) := by decide +kernel
theorem dX1_doLine_16 : decode cX1_doLine 16 = .ok (.tableswitch 168 0 5 #[40, 63, 86, 168, 113, 148], 40) := by decide +kernel
theorem dX1_doLine_56 : decode cX1_doLine 56 = .ok (.iload_n 2, 1) := by decide +kernel
theorem dX1_doLine_57 : decode cX1_doLine 57 = .ok (.aload_n 0, 1) := by decide +kernel
theorem dX1_doLine_58 : decode cX1_doLine 58 = .ok (.getfield 15, 3) := by decide +kernel
theorem dX1_doLine_61 : decode cX1_doLine 61 = .ok (.iload_n 1, 1) := by decide +kernel
theorem dX1_doLine_62 : decode cX1_doLine 62 = .ok (.iaload, 1) := by decide +kernel
theorem dX1_doLine_63 : decode cX1_doLine 63 = .ok (.if_icmp .ge 12, 3) := by decide +kernel
theorem dX1_doLine_66 : decode cX1_doLine 66 = .ok (.aload_n 0, 1) := by decide +kernel
theorem dX1_doLine_67 : decode cX1_doLine 67 = .ok (.getfield 18, 3) := by decide +kernel
theorem dX1_doLine_70 : decode cX1_doLine 70 = .ok (.iload_n 1, 1) := by decide +kernel
theorem dX1_doLine_71 : decode cX1_doLine 71 = .ok (.iaload, 1) := by decide +kernel
theorem dX1_doLine_72 : decode cX1_doLine 72 = .ok (.goto 6, 3) := by decide +kernel
theorem dX1_doLine_75 : decode cX1_doLine 75 = .ok (.iload_n 1, 1) := by decide +kernel
theorem dX1_doLine_76 : decode cX1_doLine 76 = .ok (.iconst 1, 1) := by decide +kernel
theorem dX1_doLine_77 : decode cX1_doLine 77 = .ok (.iadd, 1) := by decide +kernel
theorem dX1_doLine_78 : decode cX1_doLine 78 = .ok (.ireturn, 1) := by decide +kernel
theorem dX1_doLine_79 : decode cX1_doLine 79 = .ok (.iload_n 2, 1) := by decide +kernel
theorem dX1_doLine_80 : decode cX1_doLine 80 = .ok (.aload_n 0, 1) := by decide +kernel
theorem dX1_doLine_81 : decode cX1_doLine 81 = .ok (.getfield 15, 3) := by decide +kernel
theorem dX1_doLine_84 : decode cX1_doLine 84 = .ok (.iload_n 1, 1) := by decide +kernel
theorem dX1_doLine_85 : decode cX1_doLine 85 = .ok (.iaload, 1) := by decide +kernel
theorem dX1_doLine_86 : decode cX1_doLine 86 = .ok (.if_icmp .le 12, 3) := by decide +kernel
theorem dX1_doLine_89 : decode cX1_doLine 89 = .ok (.aload_n 0, 1) := by decide +kernel
theorem dX1_doLine_90 : decode cX1_doLine 90 = .ok (.getfield 18, 3) := by decide +kernel
theorem dX1_doLine_93 : decode cX1_doLine 93 = .ok (.iload_n 1, 1) := by decide +kernel
theorem dX1_doLine_94 : decode cX1_doLine 94 = .ok (.iaload, 1) := by decide +kernel
theorem dX1_doLine_95 : decode cX1_doLine 95 = .ok (.goto 6, 3) := by decide +kernel
theorem dX1_doLine_98 : decode cX1_doLine 98 = .ok (.iload_n 1, 1) := by decide +kernel
theorem dX1_doLine_99 : decode cX1_doLine 99 = .ok (.iconst 1, 1) := by decide +kernel
theorem dX1_doLine_100 : decode cX1_doLine 100 = .ok (.iadd, 1) := by decide +kernel
theorem dX1_doLine_101 : decode cX1_doLine 101 = .ok (.ireturn, 1) := by decide +kernel
theorem dX1_doLine_102 : decode cX1_doLine 102 = .ok (.iload_n 2, 1) := by decide +kernel
theorem dX1_doLine_103 : decode cX1_doLine 103 = .ok (.aload_n 0, 1) := by decide +kernel
theorem dX1_doLine_104 : decode cX1_doLine 104 = .ok (.getfield 15, 3) := by decide +kernel
theorem dX1_doLine_107 : decode cX1_doLine 107 = .ok (.iload_n 1, 1) := by decide +kernel
theorem dX1_doLine_108 : decode cX1_doLine 108 = .ok (.iaload, 1) := by decide +kernel
theorem dX1_doLine_109 : decode cX1_doLine 109 = .ok (.if_icmp .ne 16, 3) := by decide +kernel
theorem dX1_doLine_112 : decode cX1_doLine 112 = .ok (.aload_n 0, 1) := by decide +kernel
theorem dX1_doLine_113 : decode cX1_doLine 113 = .ok (.aload_n 0, 1) := by decide +kernel
theorem dX1_doLine_114 : decode cX1_doLine 114 = .ok (.getfield 18, 3) := by decide +kernel
theorem dX1_doLine_117 : decode cX1_doLine 117 = .ok (.iload_n 1, 1) := by decide +kernel
theorem dX1_doLine_118 : decode cX1_doLine 118 = .ok (.iaload, 1) := by decide +kernel
theorem dX1_doLine_119 : decode cX1_doLine 119 = .ok (.invokevirtual 148, 3) := by decide +kernel
theorem dX1_doLine_122 : decode cX1_doLine 122 = .ok (.goto 6, 3) := by decide +kernel
theorem dX1_doLine_125 : decode cX1_doLine 125 = .ok (.iload_n 1, 1) := by decide +kernel
theorem dX1_doLine_126 : decode cX1_doLine 126 = .ok (.iconst 1, 1) := by decide +kernel
theorem dX1_doLine_127 : decode cX1_doLine 127 = .ok (.iadd, 1) := by decide +kernel
theorem dX1_doLine_128 : decode cX1_doLine 128 = .ok (.ireturn, 1) := by decide +kernel
theorem dX1_doLine_129 : decode cX1_doLine 129 = .ok (.aload_n 0, 1) := by decide +kernel
theorem dX1_doLine_130 : decode cX1_doLine 130 = .ok (.iload_n 1, 1) := by decide +kernel
theorem dX1_doLine_131 : decode cX1_doLine 131 = .ok (.iload_n 2, 1) := by decide +kernel
theorem dX1_doLine_132 : decode cX1_doLine 132 = .ok (.i2l, 1) := by decide +kernel
theorem dX1_doLine_133 : decode cX1_doLine 133 = .ok (.aload_n 0, 1) := by decide +kernel
theorem dX1_doLine_134 : decode cX1_doLine 134 = .ok (.getfield 15, 3) := by decide +kernel
theorem dX1_doLine_137 : decode cX1_doLine 137 = .ok (.iload_n 1, 1) := by decide +kernel
theorem dX1_doLine_138 : decode cX1_doLine 138 = .ok (.iaload, 1) := by decide +kernel
theorem dX1_doLine_139 : decode cX1_doLine 139 = .ok (.i2l, 1) := by decide +kernel
theorem dX1_doLine_140 : decode cX1_doLine 140 = .ok (.lsub, 1) := by decide +kernel
theorem dX1_doLine_141 : decode cX1_doLine 141 = .ok (.invokevirtual 151, 3) := by decide +kernel
theorem dX1_doLine_144 : decode cX1_doLine 144 = .ok (.ifCond .eq 16, 3) := by decide +kernel
theorem dX1_doLine_147 : decode cX1_doLine 147 = .ok (.aload_n 0, 1) := by decide +kernel
theorem dX1_doLine_148 : decode cX1_doLine 148 = .ok (.aload_n 0, 1) := by decide +kernel
theorem dX1_doLine_149 : decode cX1_doLine 149 = .ok (.getfield 18, 3) := by decide +kernel
theorem dX1_doLine_152 : decode cX1_doLine 152 = .ok (.iload_n 1, 1) := by decide +kernel
theorem dX1_doLine_153 : decode cX1_doLine 153 = .ok (.iaload, 1) := by decide +kernel
theorem dX1_doLine_154 : decode cX1_doLine 154 = .ok (.invokevirtual 148, 3) := by decide +kernel
theorem dX1_doLine_157 : decode cX1_doLine 157 = .ok (.goto 6, 3) := by decide +kernel
theorem dX1_doLine_160 : decode cX1_doLine 160 = .ok (.iload_n 1, 1) := by decide +kernel
theorem dX1_doLine_161 : decode cX1_doLine 161 = .ok (.iconst 1, 1) := by decide +kernel
theorem dX1_doLine_162 : decode cX1_doLine 162 = .ok (.iadd, 1) := by decide +kernel
theorem dX1_doLine_163 : decode cX1_doLine 163 = .ok (.ireturn, 1) := by decide +kernel
theorem dX1_doLine_164 : decode cX1_doLine 164 = .ok (.aload_n 0, 1) := by decide +kernel
theorem dX1_doLine_165 : decode cX1_doLine 165 = .ok (.aload_n 0, 1) := by decide +kernel
theorem dX1_doLine_166 : decode cX1_doLine 166 = .ok (.iload_n 1, 1) := by decide +kernel
theorem dX1_doLine_167 : decode cX1_doLine 167 = .ok (.iload_n 2, 1) := by decide +kernel
theorem dX1_doLine_168 : decode cX1_doLine 168 = .ok (.i2l, 1) := by decide +kernel
theorem dX1_doLine_169 : decode cX1_doLine 169 = .ok (.aload_n 0, 1) := by decide +kernel
theorem dX1_doLine_170 : decode cX1_doLine 170 = .ok (.getfield 15, 3) := by decide +kernel
theorem dX1_doLine_173 : decode cX1_doLine 173 = .ok (.iload_n 1, 1) := by decide +kernel
theorem dX1_doLine_174 : decode cX1_doLine 174 = .ok (.iaload, 1) := by decide +kernel
theorem dX1_doLine_175 : decode cX1_doLine 175 = .ok (.i2l, 1) := by decide +kernel
theorem dX1_doLine_176 : decode cX1_doLine 176 = .ok (.lsub, 1) := by decide +kernel
theorem dX1_doLine_177 : decode cX1_doLine 177 = .ok (.invokevirtual 155, 3) := by decide +kernel
theorem dX1_doLine_180 : decode cX1_doLine 180 = .ok (.invokevirtual 148, 3) := by decide +kernel
theorem dX1_doLine_183 : decode cX1_doLine 183 = .ok (.ireturn, 1) := by decide +kernel
theorem dX1_doLine_184 : decode cX1_doLine 184 = .ok (.aload_n 0, 1) := by decide +kernel
theorem dX1_doLine_185 : decode cX1_doLine 185 = .ok (.aload_n 0, 1) := by decide +kernel
theorem dX1_doLine_186 : decode cX1_doLine 186 = .ok (.getfield 15, 3) := by decide +kernel
theorem dX1_doLine_189 : decode cX1_doLine 189 = .ok (.iload_n 1, 1) := by decide +kernel
theorem dX1_doLine_190 : decode cX1_doLine 190 = .ok (.iaload, 1) := by decide +kernel
theorem dX1_doLine_191 : decode cX1_doLine 191 = .ok (.invokevirtual 148, 3) := by decide +kernel
theorem dX1_doLine_194 : decode cX1_doLine 194 = .ok (.ireturn, 1) := by decide +kernel
theorem dX1_hasBit_0 : decode cX1_hasBit 0 = .ok (.lload_n 2, 1) := by decide +kernel
theorem dX1_hasBit_1 : decode cX1_hasBit 1 = .ok (.lconst 0, 1) := by decide +kernel
theorem dX1_hasBit_2 : decode cX1_hasBit 2 = .ok (.lcmp, 1) := by decide +kernel
theorem dX1_hasBit_3 : decode cX1_hasBit 3 = .ok (.ifCond .lt 30, 3) := by decide +kernel
theorem dX1_hasBit_6 : decode cX1_hasBit 6 = .ok (.lload_n 2, 1) := by decide +kernel
theorem dX1_hasBit_7 : decode cX1_hasBit 7 = .ok (.ldc2_w 159, 3) := by decide +kernel
theorem dX1_hasBit_10 : decode cX1_hasBit 10 = .ok (.lcmp, 1) := by decide +kernel
theorem dX1_hasBit_11 : decode cX1_hasBit 11 = .ok (.ifCond .ge 22, 3) := by decide +kernel
theorem dX1_hasBit_14 : decode cX1_hasBit 14 = .ok (.aload_n 0, 1) := by decide +kernel
theorem dX1_hasBit_15 : decode cX1_hasBit 15 = .ok (.iload_n 1, 1) := by decide +kernel
theorem dX1_hasBit_16 : decode cX1_hasBit 16 = .ok (.invokevirtual 161, 3) := by decide +kernel
theorem dX1_hasBit_19 : decode cX1_hasBit 19 = .ok (.lload_n 2, 1) := by decide +kernel
theorem dX1_hasBit_20 : decode cX1_hasBit 20 = .ok (.l2i, 1) := by decide +kernel
theorem dX1_hasBit_21 : decode cX1_hasBit 21 = .ok (.lushr, 1) := by decide +kernel
theorem dX1_hasBit_22 : decode cX1_hasBit 22 = .ok (.lconst 1, 1) := by decide +kernel
theorem dX1_hasBit_23 : decode cX1_hasBit 23 = .ok (.land, 1) := by decide +kernel
theorem dX1_hasBit_24 : decode cX1_hasBit 24 = .ok (.lconst 0, 1) := by decide +kernel
theorem dX1_hasBit_25 : decode cX1_hasBit 25 = .ok (.lcmp, 1) := by decide +kernel
theorem dX1_hasBit_26 : decode cX1_hasBit 26 = .ok (.ifCond .eq 7, 3) := by decide +kernel
theorem dX1_hasBit_29 : decode cX1_hasBit 29 = .ok (.iconst 1, 1) := by decide +kernel
theorem dX1_hasBit_30 : decode cX1_hasBit 30 = .ok (.goto 4, 3) := by decide +kernel
theorem dX1_hasBit_33 : decode cX1_hasBit 33 = .ok (.iconst 0, 1) := by decide +kernel
theorem dX1_hasBit_34 : decode cX1_hasBit 34 = .ok (.ireturn, 1) := by decide +kernel
theorem dX1_endWith_0 : decode cX1_endWith 0 = .ok (.aload_n 0, 1) := by decide +kernel
theorem dX1_endWith_1 : decode cX1_endWith 1 = .ok (.iload_n 1, 1) := by decide +kernel
theorem dX1_endWith_2 : decode cX1_endWith 2 = .ok (.putfield 41, 3) := by decide +kernel
theorem dX1_endWith_5 : decode cX1_endWith 5 = .ok (.iconst (-1), 1) := by decide +kernel
theorem dX1_endWith_6 : decode cX1_endWith 6 = .ok (.ireturn, 1) := by decide +kernel
theorem dX1_printTo_0 : decode cX1_printTo 0 = .ok (.iconst 0, 1) := by decide +kernel
theorem dX1_printTo_1 : decode cX1_printTo 1 = .ok (.istore_n 2, 1) := by decide +kernel
theorem dX1_printTo_2 : decode cX1_printTo 2 = .ok (.iload_n 2, 1) := by decide +kernel
theorem dX1_printTo_3 : decode cX1_printTo 3 = .ok (.aload_n 0, 1) := by decide +kernel
theorem dX1_printTo_4 : decode cX1_printTo 4 = .ok (.getfield 31, 3) := by decide +kernel
theorem dX1_printTo_7 : decode cX1_printTo 7 = .ok (.if_icmp .ge 15, 3) := by decide +kernel
theorem dX1_printTo_10 : decode cX1_printTo 10 = .ok (.aload_n 0, 1) := by decide +kernel
theorem dX1_printTo_11 : decode cX1_printTo 11 = .ok (.iload_n 2, 1) := by decide +kernel
theorem dX1_printTo_12 : decode cX1_printTo 12 = .ok (.aload_n 1, 1) := by decide +kernel
theorem dX1_printTo_13 : decode cX1_printTo 13 = .ok (.invokevirtual 165, 3) := by decide +kernel
theorem dX1_printTo_16 : decode cX1_printTo 16 = .ok (.iinc 2 1, 3) := by decide +kernel
theorem dX1_printTo_19 : decode cX1_printTo 19 = .ok (.goto (-17), 3) := by decide +kernel
theorem dX1_printTo_22 : decode cX1_printTo 22 = .ok (.return_, 1) := by decide +kernel
theorem dX1_printLine_0 : decode cX1_printLine 0 = .ok (.aload_n 0, 1) := by decide +kernel
theorem dX1_printLine_1 : decode cX1_printLine 1 = .ok (.iload_n 1, 1) := by decide +kernel
theorem dX1_printLine_2 : decode cX1_printLine 2 = .ok (.invokevirtual 169, 3) := by decide +kernel
theorem dX1_printLine_5 : decode cX1_printLine 5 = .ok (.istore_n 3, 1) := by decide +kernel
theorem dX1_printLine_6 : decode cX1_printLine 6 = .ok (.aload_n 2, 1) := by decide +kernel
theorem dX1_printLine_7 : decode cX1_printLine 7 = .ok (.iload_n 1, 1) := by decide +kernel
theorem dX1_printLine_8 : decode cX1_printLine 8 = .ok (.invokevirtual 170, 3) := by decide +kernel
theorem dX1_printLine_11 : decode cX1_printLine 11 = .ok (.aload_n 2, 1) := by decide +kernel
theorem dX1_printLine_12 : decode cX1_printLine 12 = .ok (.iload_n 3, 1) := by decide +kernel
theorem dX1_printLine_13 : decode cX1_printLine 13 = .ok (.invokestatic 175, 3) := by decide +kernel
theorem dX1_printLine_16 : decode cX1_printLine 16 = .ok (.invokevirtual 179, 3) := by decide +kernel
theorem dX1_printLine_19 : decode cX1_printLine 19 = .ok (.aload_n 2, 1) := by decide +kernel
theorem dX1_printLine_20 : decode cX1_printLine 20 = .ok (.aload_n 0, 1) := by decide +kernel
theorem dX1_printLine_21 : decode cX1_printLine 21 = .ok (.iload_n 1, 1) := by decide +kernel
theorem dX1_printLine_22 : decode cX1_printLine 22 = .ok (.invokevirtual 183, 3) := by decide +kernel
theorem dX1_printLine_25 : decode cX1_printLine 25 = .ok (.invokevirtual 170, 3) := by decide +kernel
theorem dX1_printLine_28 : decode cX1_printLine 28 = .ok (.iload_n 3, 1) := by decide +kernel
theorem dX1_printLine_29 : decode cX1_printLine 29 = .ok (.iconst 4, 1) := by decide +kernel
theorem dX1_printLine_30 : decode cX1_printLine 30 = .ok (.if_icmp .ne 18, 3) := by decide +kernel
theorem dX1_printLine_33 : decode cX1_printLine 33 = .ok (.aload_n 2, 1) := by decide +kernel
theorem dX1_printLine_34 : decode cX1_printLine 34 = .ok (.ldc 186, 2) := by decide +kernel
theorem dX1_printLine_36 : decode cX1_printLine 36 = .ok (.invokevirtual 179, 3) := by decide +kernel
theorem dX1_printLine_39 : decode cX1_printLine 39 = .ok (.aload_n 2, 1) := by decide +kernel
theorem dX1_printLine_40 : decode cX1_printLine 40 = .ok (.aload_n 0, 1) := by decide +kernel
theorem dX1_printLine_41 : decode cX1_printLine 41 = .ok (.iload_n 1, 1) := by decide +kernel
theorem dX1_printLine_42 : decode cX1_printLine 42 = .ok (.invokevirtual 161, 3) := by decide +kernel
theorem dX1_printLine_45 : decode cX1_printLine 45 = .ok (.invokevirtual 188, 3) := by decide +kernel
theorem dX1_printLine_48 : decode cX1_printLine 48 = .ok (.iload_n 3, 1) := by decide +kernel
theorem dX1_printLine_49 : decode cX1_printLine 49 = .ok (.iconst 3, 1) := by decide +kernel
theorem dX1_printLine_50 : decode cX1_printLine 50 = .ok (.if_icmp .eq 18, 3) := by decide +kernel
theorem dX1_printLine_53 : decode cX1_printLine 53 = .ok (.aload_n 2, 1) := by decide +kernel
theorem dX1_printLine_54 : decode cX1_printLine 54 = .ok (.ldc 186, 2) := by decide +kernel
theorem dX1_printLine_56 : decode cX1_printLine 56 = .ok (.invokevirtual 179, 3) := by decide +kernel
theorem dX1_printLine_59 : decode cX1_printLine 59 = .ok (.aload_n 2, 1) := by decide +kernel
theorem dX1_printLine_60 : decode cX1_printLine 60 = .ok (.aload_n 0, 1) := by decide +kernel
theorem dX1_printLine_61 : decode cX1_printLine 61 = .ok (.iload_n 1, 1) := by decide +kernel
theorem dX1_printLine_62 : decode cX1_printLine 62 = .ok (.invokevirtual 192, 3) := by decide +kernel
theorem dX1_printLine_65 : decode cX1_printLine 65 = .ok (.invokevirtual 170, 3) := by decide +kernel
theorem dX1_printLine_68 : decode cX1_printLine 68 = .ok (.iload_n 3, 1) := by decide +kernel
theorem dX1_printLine_69 : decode cX1_printLine 69 = .ok (.iconst 5, 1) := by decide +kernel
theorem dX1_printLine_70 : decode cX1_printLine 70 = .ok (.if_icmp .ne 11, 3) := by decide +kernel
theorem dX1_printLine_73 : decode cX1_printLine 73 = .ok (.aload_n 0, 1) := by decide +kernel
theorem dX1_printLine_74 : decode cX1_printLine 74 = .ok (.iload_n 1, 1) := by decide +kernel
theorem dX1_printLine_75 : decode cX1_printLine 75 = .ok (.invokevirtual 192, 3) := by decide +kernel
theorem dX1_printLine_78 : decode cX1_printLine 78 = .ok (.goto 4, 3) := by decide +kernel
theorem dX1_printLine_81 : decode cX1_printLine 81 = .ok (.iconst 0, 1) := by decide +kernel
theorem dX1_printLine_82 : decode cX1_printLine 82 = .ok (.istore 4, 2) := by decide +kernel
theorem dX1_printLine_84 : decode cX1_printLine 84 = .ok (.iconst 0, 1) := by decide +kernel
theorem dX1_printLine_85 : decode cX1_printLine 85 = .ok (.istore 5, 2) := by decide +kernel
theorem dX1_printLine_87 : decode cX1_printLine 87 = .ok (.iload 5, 2) := by decide +kernel
theorem dX1_printLine_89 : decode cX1_printLine 89 = .ok (.iload 4, 2) := by decide +kernel
theorem dX1_printLine_91 : decode cX1_printLine 91 = .ok (.if_icmp .ge 27, 3) := by decide +kernel
theorem dX1_printLine_94 : decode cX1_printLine 94 = .ok (.aload_n 2, 1) := by decide +kernel
theorem dX1_printLine_95 : decode cX1_printLine 95 = .ok (.ldc 186, 2) := by decide +kernel
theorem dX1_printLine_97 : decode cX1_printLine 97 = .ok (.invokevirtual 179, 3) := by decide +kernel
theorem dX1_printLine_100 : decode cX1_printLine 100 = .ok (.aload_n 2, 1) := by decide +kernel
theorem dX1_printLine_101 : decode cX1_printLine 101 = .ok (.aload_n 0, 1) := by decide +kernel
theorem dX1_printLine_102 : decode cX1_printLine 102 = .ok (.iload_n 1, 1) := by decide +kernel
theorem dX1_printLine_103 : decode cX1_printLine 103 = .ok (.iload 5, 2) := by decide +kernel
theorem dX1_printLine_105 : decode cX1_printLine 105 = .ok (.i2l, 1) := by decide +kernel
theorem dX1_printLine_106 : decode cX1_printLine 106 = .ok (.invokevirtual 155, 3) := by decide +kernel
theorem dX1_printLine_109 : decode cX1_printLine 109 = .ok (.invokevirtual 170, 3) := by decide +kernel
theorem dX1_printLine_112 : decode cX1_printLine 112 = .ok (.iinc 5 1, 3) := by decide +kernel
theorem dX1_printLine_115 : decode cX1_printLine 115 = .ok (.goto (-28), 3) := by decide +kernel
theorem dX1_printLine_118 : decode cX1_printLine 118 = .ok (.aload_n 2, 1) := by decide +kernel
theorem dX1_printLine_119 : decode cX1_printLine 119 = .ok (.ldc 195, 2) := by decide +kernel
theorem dX1_printLine_121 : decode cX1_printLine 121 = .ok (.invokevirtual 179, 3) := by decide +kernel
theorem dX1_printLine_124 : decode cX1_printLine 124 = .ok (.return_, 1) := by decide +kernel
theorem dX1_wordOf_0 : decode cX1_wordOf 0 = .ok (.iload_n 0, 1) := by decide +kernel
theorem dX1_wordOf_1 : decode cX1_wordOf 1 = .ok (.tableswitch 54 0 5 #[39, 42, 45, 54, 48, 51], 39) := by decide +kernel
theorem dX1_wordOf_40 : decode cX1_wordOf 40 = .ok (.ldc 197, 2) := by decide +kernel
theorem dX1_wordOf_42 : decode cX1_wordOf 42 = .ok (.areturn, 1) := by decide +kernel
theorem dX1_wordOf_43 : decode cX1_wordOf 43 = .ok (.ldc 199, 2) := by decide +kernel
theorem dX1_wordOf_45 : decode cX1_wordOf 45 = .ok (.areturn, 1) := by decide +kernel
theorem dX1_wordOf_46 : decode cX1_wordOf 46 = .ok (.ldc 201, 2) := by decide +kernel
theorem dX1_wordOf_48 : decode cX1_wordOf 48 = .ok (.areturn, 1) := by decide +kernel
theorem dX1_wordOf_49 : decode cX1_wordOf 49 = .ok (.ldc 203, 2) := by decide +kernel
theorem dX1_wordOf_51 : decode cX1_wordOf 51 = .ok (.areturn, 1) := by decide +kernel
theorem dX1_wordOf_52 : decode cX1_wordOf 52 = .ok (.ldc 205, 2) := by decide +kernel
theorem dX1_wordOf_54 : decode cX1_wordOf 54 = .ok (.areturn, 1) := by decide +kernel
theorem dX1_wordOf_55 : decode cX1_wordOf 55 = .ok (.ldc 207, 2) := by decide +kernel
theorem dX1_wordOf_57 : decode cX1_wordOf 57 = .ok (.areturn, 1) := by decide +kernel
theorem dX2_init_0 : decode cX2_init 0 = .ok (.aload_n 0, 1) := by decide +kernel
theorem dX2_init_1 : decode cX2_init 1 = .ok (.invokespecial 3, 3) := by decide +kernel
theorem dX2_init_4 : decode cX2_init 4 = .ok (.aload_n 0, 1) := by decide +kernel
theorem dX2_init_5 : decode cX2_init 5 = .ok (.bipush 24, 2) := by decide +kernel
theorem dX2_init_7 : decode cX2_init 7 = .ok (.newarray .int, 2) := by decide +kernel
theorem dX2_init_9 : decode cX2_init 9 = .ok (.putfield 9, 3) := by decide +kernel
theorem dX2_init_12 : decode cX2_init 12 = .ok (.aload_n 0, 1) := by decide +kernel
theorem dX2_init_13 : decode cX2_init 13 = .ok (.bipush 24, 2) := by decide +kernel
theorem dX2_init_15 : decode cX2_init 15 = .ok (.newarray .int, 2) := by decide +kernel
theorem dX2_init_17 : decode cX2_init 17 = .ok (.putfield 15, 3) := by decide +kernel
theorem dX2_init_20 : decode cX2_init 20 = .ok (.aload_n 0, 1) := by decide +kernel
theorem dX2_init_21 : decode cX2_init 21 = .ok (.bipush 24, 2) := by decide +kernel
theorem dX2_init_23 : decode cX2_init 23 = .ok (.newarray .int, 2) := by decide +kernel
theorem dX2_init_25 : decode cX2_init 25 = .ok (.putfield 18, 3) := by decide +kernel
theorem dX2_init_28 : decode cX2_init 28 = .ok (.aload_n 0, 1) := by decide +kernel
theorem dX2_init_29 : decode cX2_init 29 = .ok (.bipush 24, 2) := by decide +kernel
theorem dX2_init_31 : decode cX2_init 31 = .ok (.newarray .int, 2) := by decide +kernel
theorem dX2_init_33 : decode cX2_init 33 = .ok (.putfield 21, 3) := by decide +kernel
theorem dX2_init_36 : decode cX2_init 36 = .ok (.aload_n 0, 1) := by decide +kernel
theorem dX2_init_37 : decode cX2_init 37 = .ok (.iconst 0, 1) := by decide +kernel
theorem dX2_init_38 : decode cX2_init 38 = .ok (.putfield 24, 3) := by decide +kernel
theorem dX2_init_41 : decode cX2_init 41 = .ok (.aload_n 0, 1) := by decide +kernel
theorem dX2_init_42 : decode cX2_init 42 = .ok (.getfield 18, 3) := by decide +kernel
theorem dX2_init_45 : decode cX2_init 45 = .ok (.iconst (-1), 1) := by decide +kernel
theorem dX2_init_46 : decode cX2_init 46 = .ok (.invokestatic 28, 3) := by decide +kernel
theorem dX2_init_49 : decode cX2_init 49 = .ok (.return_, 1) := by decide +kernel
theorem dX2_has_0 : decode cX2_has 0 = .ok (.iload_n 1, 1) := by decide +kernel
theorem dX2_has_1 : decode cX2_has 1 = .ok (.ifCond .lt 23, 3) := by decide +kernel
theorem dX2_has_4 : decode cX2_has 4 = .ok (.iload_n 1, 1) := by decide +kernel
theorem dX2_has_5 : decode cX2_has 5 = .ok (.bipush 24, 2) := by decide +kernel
theorem dX2_has_7 : decode cX2_has 7 = .ok (.if_icmp .ge 17, 3) := by decide +kernel
theorem dX2_has_10 : decode cX2_has 10 = .ok (.aload_n 0, 1) := by decide +kernel
theorem dX2_has_11 : decode cX2_has 11 = .ok (.getfield 18, 3) := by decide +kernel
theorem dX2_has_14 : decode cX2_has 14 = .ok (.iload_n 1, 1) := by decide +kernel
theorem dX2_has_15 : decode cX2_has 15 = .ok (.iaload, 1) := by decide +kernel
theorem dX2_has_16 : decode cX2_has 16 = .ok (.iconst (-1), 1) := by decide +kernel
theorem dX2_has_17 : decode cX2_has 17 = .ok (.if_icmp .eq 7, 3) := by decide +kernel
theorem dX2_has_20 : decode cX2_has 20 = .ok (.iconst 1, 1) := by decide +kernel
theorem dX2_has_21 : decode cX2_has 21 = .ok (.goto 4, 3) := by decide +kernel
theorem dX2_has_24 : decode cX2_has 24 = .ok (.iconst 0, 1) := by decide +kernel
theorem dX2_has_25 : decode cX2_has 25 = .ok (.ireturn, 1) := by decide +kernel
theorem dX2_held_0 : decode cX2_held 0 = .ok (.aload_n 0, 1) := by decide +kernel
theorem dX2_held_1 : decode cX2_held 1 = .ok (.getfield 24, 3) := by decide +kernel
theorem dX2_held_4 : decode cX2_held 4 = .ok (.ireturn, 1) := by decide +kernel
theorem dX2_low_0 : decode cX2_low 0 = .ok (.iload_n 1, 1) := by decide +kernel
theorem dX2_low_1 : decode cX2_low 1 = .ok (.ifCond .lt 18, 3) := by decide +kernel
theorem dX2_low_4 : decode cX2_low 4 = .ok (.iload_n 1, 1) := by decide +kernel
theorem dX2_low_5 : decode cX2_low 5 = .ok (.bipush 24, 2) := by decide +kernel
theorem dX2_low_7 : decode cX2_low 7 = .ok (.if_icmp .ge 12, 3) := by decide +kernel
theorem dX2_low_10 : decode cX2_low 10 = .ok (.aload_n 0, 1) := by decide +kernel
theorem dX2_low_11 : decode cX2_low 11 = .ok (.getfield 9, 3) := by decide +kernel
theorem dX2_low_14 : decode cX2_low 14 = .ok (.iload_n 1, 1) := by decide +kernel
theorem dX2_low_15 : decode cX2_low 15 = .ok (.iaload, 1) := by decide +kernel
theorem dX2_low_16 : decode cX2_low 16 = .ok (.goto 4, 3) := by decide +kernel
theorem dX2_low_19 : decode cX2_low 19 = .ok (.iconst 0, 1) := by decide +kernel
theorem dX2_low_20 : decode cX2_low 20 = .ok (.ireturn, 1) := by decide +kernel
theorem dX2_high_0 : decode cX2_high 0 = .ok (.iload_n 1, 1) := by decide +kernel
theorem dX2_high_1 : decode cX2_high 1 = .ok (.ifCond .lt 18, 3) := by decide +kernel
theorem dX2_high_4 : decode cX2_high 4 = .ok (.iload_n 1, 1) := by decide +kernel
theorem dX2_high_5 : decode cX2_high 5 = .ok (.bipush 24, 2) := by decide +kernel
theorem dX2_high_7 : decode cX2_high 7 = .ok (.if_icmp .ge 12, 3) := by decide +kernel
theorem dX2_high_10 : decode cX2_high 10 = .ok (.aload_n 0, 1) := by decide +kernel
theorem dX2_high_11 : decode cX2_high 11 = .ok (.getfield 15, 3) := by decide +kernel
theorem dX2_high_14 : decode cX2_high 14 = .ok (.iload_n 1, 1) := by decide +kernel
theorem dX2_high_15 : decode cX2_high 15 = .ok (.iaload, 1) := by decide +kernel
theorem dX2_high_16 : decode cX2_high 16 = .ok (.goto 4, 3) := by decide +kernel
theorem dX2_high_19 : decode cX2_high 19 = .ok (.iconst 0, 1) := by decide +kernel
theorem dX2_high_20 : decode cX2_high 20 = .ok (.ireturn, 1) := by decide +kernel
theorem dX2_target_0 : decode cX2_target 0 = .ok (.iload_n 1, 1) := by decide +kernel
theorem dX2_target_1 : decode cX2_target 1 = .ok (.ifCond .lt 18, 3) := by decide +kernel
theorem dX2_target_4 : decode cX2_target 4 = .ok (.iload_n 1, 1) := by decide +kernel
theorem dX2_target_5 : decode cX2_target 5 = .ok (.bipush 24, 2) := by decide +kernel
theorem dX2_target_7 : decode cX2_target 7 = .ok (.if_icmp .ge 12, 3) := by decide +kernel
theorem dX2_target_10 : decode cX2_target 10 = .ok (.aload_n 0, 1) := by decide +kernel
theorem dX2_target_11 : decode cX2_target 11 = .ok (.getfield 18, 3) := by decide +kernel
theorem dX2_target_14 : decode cX2_target 14 = .ok (.iload_n 1, 1) := by decide +kernel
theorem dX2_target_15 : decode cX2_target 15 = .ok (.iaload, 1) := by decide +kernel
theorem dX2_target_16 : decode cX2_target 16 = .ok (.goto 4, 3) := by decide +kernel
theorem dX2_target_19 : decode cX2_target 19 = .ok (.iconst (-1), 1) := by decide +kernel
theorem dX2_target_20 : decode cX2_target 20 = .ok (.ireturn, 1) := by decide +kernel
theorem dX2_weight_0 : decode cX2_weight 0 = .ok (.iload_n 1, 1) := by decide +kernel
theorem dX2_weight_1 : decode cX2_weight 1 = .ok (.ifCond .lt 18, 3) := by decide +kernel
theorem dX2_weight_4 : decode cX2_weight 4 = .ok (.iload_n 1, 1) := by decide +kernel
theorem dX2_weight_5 : decode cX2_weight 5 = .ok (.bipush 24, 2) := by decide +kernel
theorem dX2_weight_7 : decode cX2_weight 7 = .ok (.if_icmp .ge 12, 3) := by decide +kernel
theorem dX2_weight_10 : decode cX2_weight 10 = .ok (.aload_n 0, 1) := by decide +kernel
theorem dX2_weight_11 : decode cX2_weight 11 = .ok (.getfield 21, 3) := by decide +kernel
theorem dX2_weight_14 : decode cX2_weight 14 = .ok (.iload_n 1, 1) := by decide +kernel
theorem dX2_weight_15 : decode cX2_weight 15 = .ok (.iaload, 1) := by decide +kernel
theorem dX2_weight_16 : decode cX2_weight 16 = .ok (.goto 4, 3) := by decide +kernel
theorem dX2_weight_19 : decode cX2_weight 19 = .ok (.iconst 0, 1) := by decide +kernel
theorem dX2_weight_20 : decode cX2_weight 20 = .ok (.ireturn, 1) := by decide +kernel
theorem dX2_tell_0 : decode cX2_tell 0 = .ok (.aload_n 0, 1) := by decide +kernel
theorem dX2_tell_1 : decode cX2_tell 1 = .ok (.iload_n 1, 1) := by decide +kernel
theorem dX2_tell_2 : decode cX2_tell 2 = .ok (.invokevirtual 34, 3) := by decide +kernel
theorem dX2_tell_5 : decode cX2_tell 5 = .ok (.ifCond .ne 6, 3) := by decide +kernel
theorem dX2_tell_8 : decode cX2_tell 8 = .ok (.bipush (-101), 2) := by decide +kernel
theorem dX2_tell_10 : decode cX2_tell 10 = .ok (.ireturn, 1) := by decide +kernel
theorem dX2_tell_11 : decode cX2_tell 11 = .ok (.iload_n 2, 1) := by decide +kernel
theorem dX2_tell_12 : decode cX2_tell 12 = .ok (.tableswitch 60 0 3 #[32, 39, 46, 53], 32) := by decide +kernel
theorem dX2_tell_44 : decode cX2_tell 44 = .ok (.aload_n 0, 1) := by decide +kernel
theorem dX2_tell_45 : decode cX2_tell 45 = .ok (.getfield 9, 3) := by decide +kernel
theorem dX2_tell_48 : decode cX2_tell 48 = .ok (.iload_n 1, 1) := by decide +kernel
theorem dX2_tell_49 : decode cX2_tell 49 = .ok (.iaload, 1) := by decide +kernel
theorem dX2_tell_50 : decode cX2_tell 50 = .ok (.ireturn, 1) := by decide +kernel
theorem dX2_tell_51 : decode cX2_tell 51 = .ok (.aload_n 0, 1) := by decide +kernel
theorem dX2_tell_52 : decode cX2_tell 52 = .ok (.getfield 15, 3) := by decide +kernel
theorem dX2_tell_55 : decode cX2_tell 55 = .ok (.iload_n 1, 1) := by decide +kernel
theorem dX2_tell_56 : decode cX2_tell 56 = .ok (.iaload, 1) := by decide +kernel
theorem dX2_tell_57 : decode cX2_tell 57 = .ok (.ireturn, 1) := by decide +kernel
theorem dX2_tell_58 : decode cX2_tell 58 = .ok (.aload_n 0, 1) := by decide +kernel
theorem dX2_tell_59 : decode cX2_tell 59 = .ok (.getfield 18, 3) := by decide +kernel
theorem dX2_tell_62 : decode cX2_tell 62 = .ok (.iload_n 1, 1) := by decide +kernel
theorem dX2_tell_63 : decode cX2_tell 63 = .ok (.iaload, 1) := by decide +kernel
theorem dX2_tell_64 : decode cX2_tell 64 = .ok (.ireturn, 1) := by decide +kernel
theorem dX2_tell_65 : decode cX2_tell 65 = .ok (.aload_n 0, 1) := by decide +kernel
theorem dX2_tell_66 : decode cX2_tell 66 = .ok (.getfield 21, 3) := by decide +kernel
theorem dX2_tell_69 : decode cX2_tell 69 = .ok (.iload_n 1, 1) := by decide +kernel
theorem dX2_tell_70 : decode cX2_tell 70 = .ok (.iaload, 1) := by decide +kernel
theorem dX2_tell_71 : decode cX2_tell 71 = .ok (.ireturn, 1) := by decide +kernel
theorem dX2_tell_72 : decode cX2_tell 72 = .ok (.bipush (-102), 2) := by decide +kernel
theorem dX2_tell_74 : decode cX2_tell 74 = .ok (.ireturn, 1) := by decide +kernel
theorem dX2_firstFree_0 : decode cX2_firstFree 0 = .ok (.iconst 0, 1) := by decide +kernel
theorem dX2_firstFree_1 : decode cX2_firstFree 1 = .ok (.istore_n 1, 1) := by decide +kernel
theorem dX2_firstFree_2 : decode cX2_firstFree 2 = .ok (.iload_n 1, 1) := by decide +kernel
theorem dX2_firstFree_3 : decode cX2_firstFree 3 = .ok (.bipush 24, 2) := by decide +kernel
theorem dX2_firstFree_5 : decode cX2_firstFree 5 = .ok (.if_icmp .ge 21, 3) := by decide +kernel
theorem dX2_firstFree_8 : decode cX2_firstFree 8 = .ok (.aload_n 0, 1) := by decide +kernel
theorem dX2_firstFree_9 : decode cX2_firstFree 9 = .ok (.getfield 18, 3) := by decide +kernel
theorem dX2_firstFree_12 : decode cX2_firstFree 12 = .ok (.iload_n 1, 1) := by decide +kernel
theorem dX2_firstFree_13 : decode cX2_firstFree 13 = .ok (.iaload, 1) := by decide +kernel
theorem dX2_firstFree_14 : decode cX2_firstFree 14 = .ok (.iconst (-1), 1) := by decide +kernel
theorem dX2_firstFree_15 : decode cX2_firstFree 15 = .ok (.if_icmp .ne 5, 3) := by decide +kernel
theorem dX2_firstFree_18 : decode cX2_firstFree 18 = .ok (.iload_n 1, 1) := by decide +kernel
theorem dX2_firstFree_19 : decode cX2_firstFree 19 = .ok (.ireturn, 1) := by decide +kernel
theorem dX2_firstFree_20 : decode cX2_firstFree 20 = .ok (.iinc 1 1, 3) := by decide +kernel
theorem dX2_firstFree_23 : decode cX2_firstFree 23 = .ok (.goto (-21), 3) := by decide +kernel
theorem dX2_firstFree_26 : decode cX2_firstFree 26 = .ok (.iconst (-1), 1) := by decide +kernel
theorem dX2_firstFree_27 : decode cX2_firstFree 27 = .ok (.ireturn, 1) := by decide +kernel
theorem dX2_firstMeeting_0 : decode cX2_firstMeeting 0 = .ok (.iconst 0, 1) := by decide +kernel
theorem dX2_firstMeeting_1 : decode cX2_firstMeeting 1 = .ok (.istore_n 3, 1) := by decide +kernel
theorem dX2_firstMeeting_2 : decode cX2_firstMeeting 2 = .ok (.iload_n 3, 1) := by decide +kernel
theorem dX2_firstMeeting_3 : decode cX2_firstMeeting 3 = .ok (.bipush 24, 2) := by decide +kernel
theorem dX2_firstMeeting_5 : decode cX2_firstMeeting 5 = .ok (.if_icmp .ge 41, 3) := by decide +kernel
theorem dX2_firstMeeting_8 : decode cX2_firstMeeting 8 = .ok (.aload_n 0, 1) := by decide +kernel
theorem dX2_firstMeeting_9 : decode cX2_firstMeeting 9 = .ok (.getfield 18, 3) := by decide +kernel
theorem dX2_firstMeeting_12 : decode cX2_firstMeeting 12 = .ok (.iload_n 3, 1) := by decide +kernel
theorem dX2_firstMeeting_13 : decode cX2_firstMeeting 13 = .ok (.iaload, 1) := by decide +kernel
theorem dX2_firstMeeting_14 : decode cX2_firstMeeting 14 = .ok (.iconst (-1), 1) := by decide +kernel
theorem dX2_firstMeeting_15 : decode cX2_firstMeeting 15 = .ok (.if_icmp .eq 25, 3) := by decide +kernel
theorem dX2_firstMeeting_18 : decode cX2_firstMeeting 18 = .ok (.aload_n 0, 1) := by decide +kernel
theorem dX2_firstMeeting_19 : decode cX2_firstMeeting 19 = .ok (.getfield 9, 3) := by decide +kernel
theorem dX2_firstMeeting_22 : decode cX2_firstMeeting 22 = .ok (.iload_n 3, 1) := by decide +kernel
theorem dX2_firstMeeting_23 : decode cX2_firstMeeting 23 = .ok (.iaload, 1) := by decide +kernel
theorem dX2_firstMeeting_24 : decode cX2_firstMeeting 24 = .ok (.iload_n 2, 1) := by decide +kernel
theorem dX2_firstMeeting_25 : decode cX2_firstMeeting 25 = .ok (.if_icmp .gt 15, 3) := by decide +kernel
theorem dX2_firstMeeting_28 : decode cX2_firstMeeting 28 = .ok (.iload_n 1, 1) := by decide +kernel
theorem dX2_firstMeeting_29 : decode cX2_firstMeeting 29 = .ok (.aload_n 0, 1) := by decide +kernel
theorem dX2_firstMeeting_30 : decode cX2_firstMeeting 30 = .ok (.getfield 15, 3) := by decide +kernel
theorem dX2_firstMeeting_33 : decode cX2_firstMeeting 33 = .ok (.iload_n 3, 1) := by decide +kernel
theorem dX2_firstMeeting_34 : decode cX2_firstMeeting 34 = .ok (.iaload, 1) := by decide +kernel
theorem dX2_firstMeeting_35 : decode cX2_firstMeeting 35 = .ok (.if_icmp .gt 5, 3) := by decide +kernel
theorem dX2_firstMeeting_38 : decode cX2_firstMeeting 38 = .ok (.iload_n 3, 1) := by decide +kernel
theorem dX2_firstMeeting_39 : decode cX2_firstMeeting 39 = .ok (.ireturn, 1) := by decide +kernel
theorem dX2_firstMeeting_40 : decode cX2_firstMeeting 40 = .ok (.iinc 3 1, 3) := by decide +kernel
theorem dX2_firstMeeting_43 : decode cX2_firstMeeting 43 = .ok (.goto (-41), 3) := by decide +kernel
theorem dX2_firstMeeting_46 : decode cX2_firstMeeting 46 = .ok (.iconst (-1), 1) := by decide +kernel
theorem dX2_firstMeeting_47 : decode cX2_firstMeeting 47 = .ok (.ireturn, 1) := by decide +kernel
theorem dX2_nextByLow_0 : decode cX2_nextByLow 0 = .ok (.iconst (-1), 1) := by decide +kernel
theorem dX2_nextByLow_1 : decode cX2_nextByLow 1 = .ok (.istore_n 3, 1) := by decide +kernel
theorem dX2_nextByLow_2 : decode cX2_nextByLow 2 = .ok (.ldc2_w 40, 3) := by decide +kernel
theorem dX2_nextByLow_5 : decode cX2_nextByLow 5 = .ok (.lstore 4, 2) := by decide +kernel
theorem dX2_nextByLow_7 : decode cX2_nextByLow 7 = .ok (.iconst 0, 1) := by decide +kernel
theorem dX2_nextByLow_8 : decode cX2_nextByLow 8 = .ok (.istore 6, 2) := by decide +kernel
theorem dX2_nextByLow_10 : decode cX2_nextByLow 10 = .ok (.iload 6, 2) := by decide +kernel
theorem dX2_nextByLow_12 : decode cX2_nextByLow 12 = .ok (.bipush 24, 2) := by decide +kernel
theorem dX2_nextByLow_14 : decode cX2_nextByLow 14 = .ok (.if_icmp .ge 60, 3) := by decide +kernel
theorem dX2_nextByLow_17 : decode cX2_nextByLow 17 = .ok (.aload_n 0, 1) := by decide +kernel
theorem dX2_nextByLow_18 : decode cX2_nextByLow 18 = .ok (.getfield 18, 3) := by decide +kernel
theorem dX2_nextByLow_21 : decode cX2_nextByLow 21 = .ok (.iload 6, 2) := by decide +kernel
theorem dX2_nextByLow_23 : decode cX2_nextByLow 23 = .ok (.iaload, 1) := by decide +kernel
theorem dX2_nextByLow_24 : decode cX2_nextByLow 24 = .ok (.iconst (-1), 1) := by decide +kernel
theorem dX2_nextByLow_25 : decode cX2_nextByLow 25 = .ok (.if_icmp .eq 43, 3) := by decide +kernel
theorem dX2_nextByLow_28 : decode cX2_nextByLow 28 = .ok (.aload_n 0, 1) := by decide +kernel
theorem dX2_nextByLow_29 : decode cX2_nextByLow 29 = .ok (.getfield 9, 3) := by decide +kernel
theorem dX2_nextByLow_32 : decode cX2_nextByLow 32 = .ok (.iload 6, 2) := by decide +kernel
theorem dX2_nextByLow_34 : decode cX2_nextByLow 34 = .ok (.iaload, 1) := by decide +kernel
theorem dX2_nextByLow_35 : decode cX2_nextByLow 35 = .ok (.i2l, 1) := by decide +kernel
theorem dX2_nextByLow_36 : decode cX2_nextByLow 36 = .ok (.lload_n 1, 1) := by decide +kernel
theorem dX2_nextByLow_37 : decode cX2_nextByLow 37 = .ok (.lcmp, 1) := by decide +kernel
theorem dX2_nextByLow_38 : decode cX2_nextByLow 38 = .ok (.ifCond .le 30, 3) := by decide +kernel
theorem dX2_nextByLow_41 : decode cX2_nextByLow 41 = .ok (.aload_n 0, 1) := by decide +kernel
theorem dX2_nextByLow_42 : decode cX2_nextByLow 42 = .ok (.getfield 9, 3) := by decide +kernel
theorem dX2_nextByLow_45 : decode cX2_nextByLow 45 = .ok (.iload 6, 2) := by decide +kernel
theorem dX2_nextByLow_47 : decode cX2_nextByLow 47 = .ok (.iaload, 1) := by decide +kernel
theorem dX2_nextByLow_48 : decode cX2_nextByLow 48 = .ok (.i2l, 1) := by decide +kernel
theorem dX2_nextByLow_49 : decode cX2_nextByLow 49 = .ok (.lload 4, 2) := by decide +kernel
theorem dX2_nextByLow_51 : decode cX2_nextByLow 51 = .ok (.lcmp, 1) := by decide +kernel
theorem dX2_nextByLow_52 : decode cX2_nextByLow 52 = .ok (.ifCond .ge 16, 3) := by decide +kernel
theorem dX2_nextByLow_55 : decode cX2_nextByLow 55 = .ok (.iload 6, 2) := by decide +kernel
theorem dX2_nextByLow_57 : decode cX2_nextByLow 57 = .ok (.istore_n 3, 1) := by decide +kernel
theorem dX2_nextByLow_58 : decode cX2_nextByLow 58 = .ok (.aload_n 0, 1) := by decide +kernel
theorem dX2_nextByLow_59 : decode cX2_nextByLow 59 = .ok (.getfield 9, 3) := by decide +kernel
theorem dX2_nextByLow_62 : decode cX2_nextByLow 62 = .ok (.iload 6, 2) := by decide +kernel
theorem dX2_nextByLow_64 : decode cX2_nextByLow 64 = .ok (.iaload, 1) := by decide +kernel
theorem dX2_nextByLow_65 : decode cX2_nextByLow 65 = .ok (.i2l, 1) := by decide +kernel
theorem dX2_nextByLow_66 : decode cX2_nextByLow 66 = .ok (.lstore 4, 2) := by decide +kernel
theorem dX2_nextByLow_68 : decode cX2_nextByLow 68 = .ok (.iinc 6 1, 3) := by decide +kernel
theorem dX2_nextByLow_71 : decode cX2_nextByLow 71 = .ok (.goto (-61), 3) := by decide +kernel
theorem dX2_nextByLow_74 : decode cX2_nextByLow 74 = .ok (.iload_n 3, 1) := by decide +kernel
theorem dX2_nextByLow_75 : decode cX2_nextByLow 75 = .ok (.ireturn, 1) := by decide +kernel
theorem dX2_set_0 : decode cX2_set 0 = .ok (.iload_n 1, 1) := by decide +kernel
theorem dX2_set_1 : decode cX2_set 1 = .ok (.ifCond .lt 9, 3) := by decide +kernel
theorem dX2_set_4 : decode cX2_set 4 = .ok (.iload_n 1, 1) := by decide +kernel
theorem dX2_set_5 : decode cX2_set 5 = .ok (.bipush 24, 2) := by decide +kernel
theorem dX2_set_7 : decode cX2_set 7 = .ok (.if_icmp .lt 4, 3) := by decide +kernel
theorem dX2_set_10 : decode cX2_set 10 = .ok (.return_, 1) := by decide +kernel
theorem dX2_set_11 : decode cX2_set 11 = .ok (.aload_n 0, 1) := by decide +kernel
theorem dX2_set_12 : decode cX2_set 12 = .ok (.getfield 18, 3) := by decide +kernel
theorem dX2_set_15 : decode cX2_set 15 = .ok (.iload_n 1, 1) := by decide +kernel
theorem dX2_set_16 : decode cX2_set 16 = .ok (.iaload, 1) := by decide +kernel
theorem dX2_set_17 : decode cX2_set 17 = .ok (.iconst (-1), 1) := by decide +kernel
theorem dX2_set_18 : decode cX2_set 18 = .ok (.if_icmp .ne 13, 3) := by decide +kernel
theorem dX2_set_21 : decode cX2_set 21 = .ok (.aload_n 0, 1) := by decide +kernel
theorem dX2_set_22 : decode cX2_set 22 = .ok (.dup, 1) := by decide +kernel
theorem dX2_set_23 : decode cX2_set 23 = .ok (.getfield 24, 3) := by decide +kernel
theorem dX2_set_26 : decode cX2_set 26 = .ok (.iconst 1, 1) := by decide +kernel
theorem dX2_set_27 : decode cX2_set 27 = .ok (.iadd, 1) := by decide +kernel
theorem dX2_set_28 : decode cX2_set 28 = .ok (.putfield 24, 3) := by decide +kernel
theorem dX2_set_31 : decode cX2_set 31 = .ok (.aload_n 0, 1) := by decide +kernel
theorem dX2_set_32 : decode cX2_set 32 = .ok (.getfield 9, 3) := by decide +kernel
theorem dX2_set_35 : decode cX2_set 35 = .ok (.iload_n 1, 1) := by decide +kernel
theorem dX2_set_36 : decode cX2_set 36 = .ok (.iload_n 2, 1) := by decide +kernel
theorem dX2_set_37 : decode cX2_set 37 = .ok (.iastore, 1) := by decide +kernel
theorem dX2_set_38 : decode cX2_set 38 = .ok (.aload_n 0, 1) := by decide +kernel
theorem dX2_set_39 : decode cX2_set 39 = .ok (.getfield 15, 3) := by decide +kernel
theorem dX2_set_42 : decode cX2_set 42 = .ok (.iload_n 1, 1) := by decide +kernel
theorem dX2_set_43 : decode cX2_set 43 = .ok (.iload_n 3, 1) := by decide +kernel
theorem dX2_set_44 : decode cX2_set 44 = .ok (.iastore, 1) := by decide +kernel
theorem dX2_set_45 : decode cX2_set 45 = .ok (.aload_n 0, 1) := by decide +kernel
theorem dX2_set_46 : decode cX2_set 46 = .ok (.getfield 18, 3) := by decide +kernel
theorem dX2_set_49 : decode cX2_set 49 = .ok (.iload_n 1, 1) := by decide +kernel
theorem dX2_set_50 : decode cX2_set 50 = .ok (.iload 4, 2) := by decide +kernel
theorem dX2_set_52 : decode cX2_set 52 = .ok (.iastore, 1) := by decide +kernel
theorem dX2_set_53 : decode cX2_set 53 = .ok (.aload_n 0, 1) := by decide +kernel
theorem dX2_set_54 : decode cX2_set 54 = .ok (.getfield 21, 3) := by decide +kernel
theorem dX2_set_57 : decode cX2_set 57 = .ok (.iload_n 1, 1) := by decide +kernel
theorem dX2_set_58 : decode cX2_set 58 = .ok (.iload 5, 2) := by decide +kernel
theorem dX2_set_60 : decode cX2_set 60 = .ok (.iastore, 1) := by decide +kernel
theorem dX2_set_61 : decode cX2_set 61 = .ok (.return_, 1) := by decide +kernel
theorem dX2_free_0 : decode cX2_free 0 = .ok (.aload_n 0, 1) := by decide +kernel
theorem dX2_free_1 : decode cX2_free 1 = .ok (.iload_n 1, 1) := by decide +kernel
theorem dX2_free_2 : decode cX2_free 2 = .ok (.invokevirtual 34, 3) := by decide +kernel
theorem dX2_free_5 : decode cX2_free 5 = .ok (.ifCond .eq 20, 3) := by decide +kernel
theorem dX2_free_8 : decode cX2_free 8 = .ok (.aload_n 0, 1) := by decide +kernel
theorem dX2_free_9 : decode cX2_free 9 = .ok (.getfield 18, 3) := by decide +kernel
theorem dX2_free_12 : decode cX2_free 12 = .ok (.iload_n 1, 1) := by decide +kernel
theorem dX2_free_13 : decode cX2_free 13 = .ok (.iconst (-1), 1) := by decide +kernel
theorem dX2_free_14 : decode cX2_free 14 = .ok (.iastore, 1) := by decide +kernel
theorem dX2_free_15 : decode cX2_free 15 = .ok (.aload_n 0, 1) := by decide +kernel
theorem dX2_free_16 : decode cX2_free 16 = .ok (.dup, 1) := by decide +kernel
theorem dX2_free_17 : decode cX2_free 17 = .ok (.getfield 24, 3) := by decide +kernel
theorem dX2_free_20 : decode cX2_free 20 = .ok (.iconst 1, 1) := by decide +kernel
theorem dX2_free_21 : decode cX2_free 21 = .ok (.isub, 1) := by decide +kernel
theorem dX2_free_22 : decode cX2_free 22 = .ok (.putfield 24, 3) := by decide +kernel
theorem dX2_free_25 : decode cX2_free 25 = .ok (.return_, 1) := by decide +kernel
theorem dX2_gather_0 : decode cX2_gather 0 = .ok (.aload_n 0, 1) := by decide +kernel
theorem dX2_gather_1 : decode cX2_gather 1 = .ok (.getfield 18, 3) := by decide +kernel
theorem dX2_gather_4 : decode cX2_gather 4 = .ok (.iconst (-1), 1) := by decide +kernel
theorem dX2_gather_5 : decode cX2_gather 5 = .ok (.invokestatic 28, 3) := by decide +kernel
theorem dX2_gather_8 : decode cX2_gather 8 = .ok (.aload_n 0, 1) := by decide +kernel
theorem dX2_gather_9 : decode cX2_gather 9 = .ok (.iconst 0, 1) := by decide +kernel
theorem dX2_gather_10 : decode cX2_gather 10 = .ok (.putfield 24, 3) := by decide +kernel
theorem dX2_gather_13 : decode cX2_gather 13 = .ok (.aload_n 1, 1) := by decide +kernel
theorem dX2_gather_14 : decode cX2_gather 14 = .ok (.ldc2_w 42, 3) := by decide +kernel
theorem dX2_gather_17 : decode cX2_gather 17 = .ok (.invokevirtual 44, 3) := by decide +kernel
theorem dX2_gather_20 : decode cX2_gather 20 = .ok (.istore_n 3, 1) := by decide +kernel
theorem dX2_gather_21 : decode cX2_gather 21 = .ok (.iconst 0, 1) := by decide +kernel
theorem dX2_gather_22 : decode cX2_gather 22 = .ok (.istore 4, 2) := by decide +kernel
theorem dX2_gather_24 : decode cX2_gather 24 = .ok (.iload 4, 2) := by decide +kernel
theorem dX2_gather_26 : decode cX2_gather 26 = .ok (.bipush 24, 2) := by decide +kernel
theorem dX2_gather_28 : decode cX2_gather 28 = .ok (.if_icmp .ge 58, 3) := by decide +kernel
theorem dX2_gather_31 : decode cX2_gather 31 = .ok (.iload_n 3, 1) := by decide +kernel
theorem dX2_gather_32 : decode cX2_gather 32 = .ok (.iconst (-1), 1) := by decide +kernel
theorem dX2_gather_33 : decode cX2_gather 33 = .ok (.if_icmp .eq 53, 3) := by decide +kernel
theorem dX2_gather_36 : decode cX2_gather 36 = .ok (.aload_n 1, 1) := by decide +kernel
theorem dX2_gather_37 : decode cX2_gather 37 = .ok (.iload_n 3, 1) := by decide +kernel
theorem dX2_gather_38 : decode cX2_gather 38 = .ok (.invokevirtual 48, 3) := by decide +kernel
theorem dX2_gather_41 : decode cX2_gather 41 = .ok (.iload_n 2, 1) := by decide +kernel
theorem dX2_gather_42 : decode cX2_gather 42 = .ok (.if_icmp .eq 27, 3) := by decide +kernel
theorem dX2_gather_45 : decode cX2_gather 45 = .ok (.aload_n 0, 1) := by decide +kernel
theorem dX2_gather_46 : decode cX2_gather 46 = .ok (.aload_n 1, 1) := by decide +kernel
theorem dX2_gather_47 : decode cX2_gather 47 = .ok (.iload_n 3, 1) := by decide +kernel
theorem dX2_gather_48 : decode cX2_gather 48 = .ok (.invokevirtual 52, 3) := by decide +kernel
theorem dX2_gather_51 : decode cX2_gather 51 = .ok (.aload_n 1, 1) := by decide +kernel
theorem dX2_gather_52 : decode cX2_gather 52 = .ok (.iload_n 3, 1) := by decide +kernel
theorem dX2_gather_53 : decode cX2_gather 53 = .ok (.invokevirtual 55, 3) := by decide +kernel
theorem dX2_gather_56 : decode cX2_gather 56 = .ok (.aload_n 1, 1) := by decide +kernel
theorem dX2_gather_57 : decode cX2_gather 57 = .ok (.iload_n 3, 1) := by decide +kernel
theorem dX2_gather_58 : decode cX2_gather 58 = .ok (.invokevirtual 48, 3) := by decide +kernel
theorem dX2_gather_61 : decode cX2_gather 61 = .ok (.aload_n 1, 1) := by decide +kernel
theorem dX2_gather_62 : decode cX2_gather 62 = .ok (.iload_n 3, 1) := by decide +kernel
theorem dX2_gather_63 : decode cX2_gather 63 = .ok (.invokevirtual 58, 3) := by decide +kernel
theorem dX2_gather_66 : decode cX2_gather 66 = .ok (.invokevirtual 61, 3) := by decide +kernel
theorem dX2_gather_69 : decode cX2_gather 69 = .ok (.aload_n 1, 1) := by decide +kernel
theorem dX2_gather_70 : decode cX2_gather 70 = .ok (.aload_n 1, 1) := by decide +kernel
theorem dX2_gather_71 : decode cX2_gather 71 = .ok (.iload_n 3, 1) := by decide +kernel
theorem dX2_gather_72 : decode cX2_gather 72 = .ok (.invokevirtual 52, 3) := by decide +kernel
theorem dX2_gather_75 : decode cX2_gather 75 = .ok (.i2l, 1) := by decide +kernel
theorem dX2_gather_76 : decode cX2_gather 76 = .ok (.invokevirtual 44, 3) := by decide +kernel
theorem dX2_gather_79 : decode cX2_gather 79 = .ok (.istore_n 3, 1) := by decide +kernel
theorem dX2_gather_80 : decode cX2_gather 80 = .ok (.iinc 4 1, 3) := by decide +kernel
theorem dX2_gather_83 : decode cX2_gather 83 = .ok (.goto (-59), 3) := by decide +kernel
theorem dX2_gather_86 : decode cX2_gather 86 = .ok (.return_, 1) := by decide +kernel
theorem dX2_join_0 : decode cX2_join 0 = .ok (.aload_n 0, 1) := by decide +kernel
theorem dX2_join_1 : decode cX2_join 1 = .ok (.getfield 24, 3) := by decide +kernel
theorem dX2_join_4 : decode cX2_join 4 = .ok (.iconst 1, 1) := by decide +kernel
theorem dX2_join_5 : decode cX2_join 5 = .ok (.isub, 1) := by decide +kernel
theorem dX2_join_6 : decode cX2_join 6 = .ok (.istore 5, 2) := by decide +kernel
theorem dX2_join_8 : decode cX2_join 8 = .ok (.aload_n 0, 1) := by decide +kernel
theorem dX2_join_9 : decode cX2_join 9 = .ok (.iload 5, 2) := by decide +kernel
theorem dX2_join_11 : decode cX2_join 11 = .ok (.invokevirtual 34, 3) := by decide +kernel
theorem dX2_join_14 : decode cX2_join 14 = .ok (.ifCond .eq 53, 3) := by decide +kernel
theorem dX2_join_17 : decode cX2_join 17 = .ok (.aload_n 0, 1) := by decide +kernel
theorem dX2_join_18 : decode cX2_join 18 = .ok (.getfield 18, 3) := by decide +kernel
theorem dX2_join_21 : decode cX2_join 21 = .ok (.iload 5, 2) := by decide +kernel
theorem dX2_join_23 : decode cX2_join 23 = .ok (.iaload, 1) := by decide +kernel
theorem dX2_join_24 : decode cX2_join 24 = .ok (.iload_n 3, 1) := by decide +kernel
theorem dX2_join_25 : decode cX2_join 25 = .ok (.if_icmp .ne 42, 3) := by decide +kernel
theorem dX2_join_28 : decode cX2_join 28 = .ok (.aload_n 0, 1) := by decide +kernel
theorem dX2_join_29 : decode cX2_join 29 = .ok (.getfield 15, 3) := by decide +kernel
theorem dX2_join_32 : decode cX2_join 32 = .ok (.iload 5, 2) := by decide +kernel
theorem dX2_join_34 : decode cX2_join 34 = .ok (.iaload, 1) := by decide +kernel
theorem dX2_join_35 : decode cX2_join 35 = .ok (.i2l, 1) := by decide +kernel
theorem dX2_join_36 : decode cX2_join 36 = .ok (.lconst 1, 1) := by decide +kernel
theorem dX2_join_37 : decode cX2_join 37 = .ok (.ladd, 1) := by decide +kernel
theorem dX2_join_38 : decode cX2_join 38 = .ok (.iload_n 1, 1) := by decide +kernel
theorem dX2_join_39 : decode cX2_join 39 = .ok (.i2l, 1) := by decide +kernel
theorem dX2_join_40 : decode cX2_join 40 = .ok (.lcmp, 1) := by decide +kernel
theorem dX2_join_41 : decode cX2_join 41 = .ok (.ifCond .ne 26, 3) := by decide +kernel
theorem dX2_join_44 : decode cX2_join 44 = .ok (.aload_n 0, 1) := by decide +kernel
theorem dX2_join_45 : decode cX2_join 45 = .ok (.getfield 15, 3) := by decide +kernel
theorem dX2_join_48 : decode cX2_join 48 = .ok (.iload 5, 2) := by decide +kernel
theorem dX2_join_50 : decode cX2_join 50 = .ok (.iload_n 2, 1) := by decide +kernel
theorem dX2_join_51 : decode cX2_join 51 = .ok (.iastore, 1) := by decide +kernel
theorem dX2_join_52 : decode cX2_join 52 = .ok (.aload_n 0, 1) := by decide +kernel
theorem dX2_join_53 : decode cX2_join 53 = .ok (.getfield 21, 3) := by decide +kernel
theorem dX2_join_56 : decode cX2_join 56 = .ok (.iload 5, 2) := by decide +kernel
theorem dX2_join_58 : decode cX2_join 58 = .ok (.dup2, 1) := by decide +kernel
theorem dX2_join_59 : decode cX2_join 59 = .ok (.iaload, 1) := by decide +kernel
theorem dX2_join_60 : decode cX2_join 60 = .ok (.iload 4, 2) := by decide +kernel
theorem dX2_join_62 : decode cX2_join 62 = .ok (.iadd, 1) := by decide +kernel
theorem dX2_join_63 : decode cX2_join 63 = .ok (.iastore, 1) := by decide +kernel
theorem dX2_join_64 : decode cX2_join 64 = .ok (.goto 16, 3) := by decide +kernel
theorem dX2_join_67 : decode cX2_join 67 = .ok (.aload_n 0, 1) := by decide +kernel
theorem dX2_join_68 : decode cX2_join 68 = .ok (.aload_n 0, 1) := by decide +kernel
theorem dX2_join_69 : decode cX2_join 69 = .ok (.getfield 24, 3) := by decide +kernel
theorem dX2_join_72 : decode cX2_join 72 = .ok (.iload_n 1, 1) := by decide +kernel
theorem dX2_join_73 : decode cX2_join 73 = .ok (.iload_n 2, 1) := by decide +kernel
theorem dX2_join_74 : decode cX2_join 74 = .ok (.iload_n 3, 1) := by decide +kernel
theorem dX2_join_75 : decode cX2_join 75 = .ok (.iload 4, 2) := by decide +kernel
theorem dX2_join_77 : decode cX2_join 77 = .ok (.invokevirtual 65, 3) := by decide +kernel
theorem dX2_join_80 : decode cX2_join 80 = .ok (.return_, 1) := by decide +kernel
theorem dX2_unlikeTargets_0 : decode cX2_unlikeTargets 0 = .ok (.iconst 0, 1) := by decide +kernel
theorem dX2_unlikeTargets_1 : decode cX2_unlikeTargets 1 = .ok (.istore_n 3, 1) := by decide +kernel
theorem dX2_unlikeTargets_2 : decode cX2_unlikeTargets 2 = .ok (.iload_n 1, 1) := by decide +kernel
theorem dX2_unlikeTargets_3 : decode cX2_unlikeTargets 3 = .ok (.istore 4, 2) := by decide +kernel
theorem dX2_unlikeTargets_5 : decode cX2_unlikeTargets 5 = .ok (.iload 4, 2) := by decide +kernel
theorem dX2_unlikeTargets_7 : decode cX2_unlikeTargets 7 = .ok (.iload_n 2, 1) := by decide +kernel
theorem dX2_unlikeTargets_8 : decode cX2_unlikeTargets 8 = .ok (.if_icmp .gt 27, 3) := by decide +kernel
theorem dX2_unlikeTargets_11 : decode cX2_unlikeTargets 11 = .ok (.iload 4, 2) := by decide +kernel
theorem dX2_unlikeTargets_13 : decode cX2_unlikeTargets 13 = .ok (.bipush 24, 2) := by decide +kernel
theorem dX2_unlikeTargets_15 : decode cX2_unlikeTargets 15 = .ok (.if_icmp .ge 20, 3) := by decide +kernel
theorem dX2_unlikeTargets_18 : decode cX2_unlikeTargets 18 = .ok (.iload_n 3, 1) := by decide +kernel
theorem dX2_unlikeTargets_19 : decode cX2_unlikeTargets 19 = .ok (.iconst 1, 1) := by decide +kernel
theorem dX2_unlikeTargets_20 : decode cX2_unlikeTargets 20 = .ok (.aload_n 0, 1) := by decide +kernel
theorem dX2_unlikeTargets_21 : decode cX2_unlikeTargets 21 = .ok (.iload 4, 2) := by decide +kernel
theorem dX2_unlikeTargets_23 : decode cX2_unlikeTargets 23 = .ok (.invokevirtual 48, 3) := by decide +kernel
theorem dX2_unlikeTargets_26 : decode cX2_unlikeTargets 26 = .ok (.ishl, 1) := by decide +kernel
theorem dX2_unlikeTargets_27 : decode cX2_unlikeTargets 27 = .ok (.ior, 1) := by decide +kernel
theorem dX2_unlikeTargets_28 : decode cX2_unlikeTargets 28 = .ok (.istore_n 3, 1) := by decide +kernel
theorem dX2_unlikeTargets_29 : decode cX2_unlikeTargets 29 = .ok (.iinc 4 1, 3) := by decide +kernel
theorem dX2_unlikeTargets_32 : decode cX2_unlikeTargets 32 = .ok (.goto (-27), 3) := by decide +kernel
theorem dX2_unlikeTargets_35 : decode cX2_unlikeTargets 35 = .ok (.iload_n 3, 1) := by decide +kernel
theorem dX2_unlikeTargets_36 : decode cX2_unlikeTargets 36 = .ok (.invokestatic 69, 3) := by decide +kernel
theorem dX2_unlikeTargets_39 : decode cX2_unlikeTargets 39 = .ok (.ireturn, 1) := by decide +kernel
theorem dX2_intsIn_0 : decode cX2_intsIn 0 = .ok (.lconst 0, 1) := by decide +kernel
theorem dX2_intsIn_1 : decode cX2_intsIn 1 = .ok (.lstore_n 3, 1) := by decide +kernel
theorem dX2_intsIn_2 : decode cX2_intsIn 2 = .ok (.iload_n 1, 1) := by decide +kernel
theorem dX2_intsIn_3 : decode cX2_intsIn 3 = .ok (.istore 5, 2) := by decide +kernel
theorem dX2_intsIn_5 : decode cX2_intsIn 5 = .ok (.iload 5, 2) := by decide +kernel
theorem dX2_intsIn_7 : decode cX2_intsIn 7 = .ok (.iload_n 2, 1) := by decide +kernel
theorem dX2_intsIn_8 : decode cX2_intsIn 8 = .ok (.if_icmp .gt 36, 3) := by decide +kernel
theorem dX2_intsIn_11 : decode cX2_intsIn 11 = .ok (.iload 5, 2) := by decide +kernel
theorem dX2_intsIn_13 : decode cX2_intsIn 13 = .ok (.bipush 24, 2) := by decide +kernel
theorem dX2_intsIn_15 : decode cX2_intsIn 15 = .ok (.if_icmp .ge 29, 3) := by decide +kernel
theorem dX2_intsIn_18 : decode cX2_intsIn 18 = .ok (.lload_n 3, 1) := by decide +kernel
theorem dX2_intsIn_19 : decode cX2_intsIn 19 = .ok (.aload_n 0, 1) := by decide +kernel
theorem dX2_intsIn_20 : decode cX2_intsIn 20 = .ok (.iload 5, 2) := by decide +kernel
theorem dX2_intsIn_22 : decode cX2_intsIn 22 = .ok (.invokevirtual 55, 3) := by decide +kernel
theorem dX2_intsIn_25 : decode cX2_intsIn 25 = .ok (.i2l, 1) := by decide +kernel
theorem dX2_intsIn_26 : decode cX2_intsIn 26 = .ok (.aload_n 0, 1) := by decide +kernel
theorem dX2_intsIn_27 : decode cX2_intsIn 27 = .ok (.iload 5, 2) := by decide +kernel
theorem dX2_intsIn_29 : decode cX2_intsIn 29 = .ok (.invokevirtual 52, 3) := by decide +kernel
theorem dX2_intsIn_32 : decode cX2_intsIn 32 = .ok (.i2l, 1) := by decide +kernel
theorem dX2_intsIn_33 : decode cX2_intsIn 33 = .ok (.lsub, 1) := by decide +kernel
theorem dX2_intsIn_34 : decode cX2_intsIn 34 = .ok (.lconst 1, 1) := by decide +kernel
theorem dX2_intsIn_35 : decode cX2_intsIn 35 = .ok (.ladd, 1) := by decide +kernel
theorem dX2_intsIn_36 : decode cX2_intsIn 36 = .ok (.ladd, 1) := by decide +kernel
theorem dX2_intsIn_37 : decode cX2_intsIn 37 = .ok (.lstore_n 3, 1) := by decide +kernel
theorem dX2_intsIn_38 : decode cX2_intsIn 38 = .ok (.iinc 5 1, 3) := by decide +kernel
theorem dX2_intsIn_41 : decode cX2_intsIn 41 = .ok (.goto (-36), 3) := by decide +kernel
theorem dX2_intsIn_44 : decode cX2_intsIn 44 = .ok (.lload_n 3, 1) := by decide +kernel
theorem dX2_intsIn_45 : decode cX2_intsIn 45 = .ok (.lreturn, 1) := by decide +kernel
theorem dX2_weightOf_0 : decode cX2_weightOf 0 = .ok (.iconst 0, 1) := by decide +kernel
theorem dX2_weightOf_1 : decode cX2_weightOf 1 = .ok (.istore_n 3, 1) := by decide +kernel
theorem dX2_weightOf_2 : decode cX2_weightOf 2 = .ok (.iload_n 1, 1) := by decide +kernel
theorem dX2_weightOf_3 : decode cX2_weightOf 3 = .ok (.istore 4, 2) := by decide +kernel
theorem dX2_weightOf_5 : decode cX2_weightOf 5 = .ok (.iload 4, 2) := by decide +kernel
theorem dX2_weightOf_7 : decode cX2_weightOf 7 = .ok (.iload_n 2, 1) := by decide +kernel
theorem dX2_weightOf_8 : decode cX2_weightOf 8 = .ok (.if_icmp .gt 25, 3) := by decide +kernel
theorem dX2_weightOf_11 : decode cX2_weightOf 11 = .ok (.iload 4, 2) := by decide +kernel
theorem dX2_weightOf_13 : decode cX2_weightOf 13 = .ok (.bipush 24, 2) := by decide +kernel
theorem dX2_weightOf_15 : decode cX2_weightOf 15 = .ok (.if_icmp .ge 18, 3) := by decide +kernel
theorem dX2_weightOf_18 : decode cX2_weightOf 18 = .ok (.iload_n 3, 1) := by decide +kernel
theorem dX2_weightOf_19 : decode cX2_weightOf 19 = .ok (.aload_n 0, 1) := by decide +kernel
theorem dX2_weightOf_20 : decode cX2_weightOf 20 = .ok (.iload 4, 2) := by decide +kernel
theorem dX2_weightOf_22 : decode cX2_weightOf 22 = .ok (.invokevirtual 58, 3) := by decide +kernel
theorem dX2_weightOf_25 : decode cX2_weightOf 25 = .ok (.iadd, 1) := by decide +kernel
theorem dX2_weightOf_26 : decode cX2_weightOf 26 = .ok (.istore_n 3, 1) := by decide +kernel
theorem dX2_weightOf_27 : decode cX2_weightOf 27 = .ok (.iinc 4 1, 3) := by decide +kernel
theorem dX2_weightOf_30 : decode cX2_weightOf 30 = .ok (.goto (-25), 3) := by decide +kernel
theorem dX2_weightOf_33 : decode cX2_weightOf 33 = .ok (.iload_n 3, 1) := by decide +kernel
theorem dX2_weightOf_34 : decode cX2_weightOf 34 = .ok (.ireturn, 1) := by decide +kernel
theorem dX2_rowOfBits_0 : decode cX2_rowOfBits 0 = .ok (.iload_n 1, 1) := by decide +kernel
theorem dX2_rowOfBits_1 : decode cX2_rowOfBits 1 = .ok (.ifCond .lt 9, 3) := by decide +kernel
theorem dX2_rowOfBits_4 : decode cX2_rowOfBits 4 = .ok (.iload_n 1, 1) := by decide +kernel
theorem dX2_rowOfBits_5 : decode cX2_rowOfBits 5 = .ok (.bipush 24, 2) := by decide +kernel
theorem dX2_rowOfBits_7 : decode cX2_rowOfBits 7 = .ok (.if_icmp .lt 5, 3) := by decide +kernel
theorem dX2_rowOfBits_10 : decode cX2_rowOfBits 10 = .ok (.lconst 0, 1) := by decide +kernel
theorem dX2_rowOfBits_11 : decode cX2_rowOfBits 11 = .ok (.lreturn, 1) := by decide +kernel
theorem dX2_rowOfBits_12 : decode cX2_rowOfBits 12 = .ok (.lconst 0, 1) := by decide +kernel
theorem dX2_rowOfBits_13 : decode cX2_rowOfBits 13 = .ok (.lstore 4, 2) := by decide +kernel
theorem dX2_rowOfBits_15 : decode cX2_rowOfBits 15 = .ok (.iload_n 1, 1) := by decide +kernel
theorem dX2_rowOfBits_16 : decode cX2_rowOfBits 16 = .ok (.istore 6, 2) := by decide +kernel
theorem dX2_rowOfBits_18 : decode cX2_rowOfBits 18 = .ok (.iload 6, 2) := by decide +kernel
theorem dX2_rowOfBits_20 : decode cX2_rowOfBits 20 = .ok (.iload_n 2, 1) := by decide +kernel
theorem dX2_rowOfBits_21 : decode cX2_rowOfBits 21 = .ok (.if_icmp .gt 100, 3) := by decide +kernel
theorem dX2_rowOfBits_24 : decode cX2_rowOfBits 24 = .ok (.iload 6, 2) := by decide +kernel
theorem dX2_rowOfBits_26 : decode cX2_rowOfBits 26 = .ok (.bipush 24, 2) := by decide +kernel
theorem dX2_rowOfBits_28 : decode cX2_rowOfBits 28 = .ok (.if_icmp .ge 93, 3) := by decide +kernel
theorem dX2_rowOfBits_31 : decode cX2_rowOfBits 31 = .ok (.aload_n 0, 1) := by decide +kernel
theorem dX2_rowOfBits_32 : decode cX2_rowOfBits 32 = .ok (.getfield 18, 3) := by decide +kernel
theorem dX2_rowOfBits_35 : decode cX2_rowOfBits 35 = .ok (.iload 6, 2) := by decide +kernel
theorem dX2_rowOfBits_37 : decode cX2_rowOfBits 37 = .ok (.iaload, 1) := by decide +kernel
theorem dX2_rowOfBits_38 : decode cX2_rowOfBits 38 = .ok (.iload_n 3, 1) := by decide +kernel
theorem dX2_rowOfBits_39 : decode cX2_rowOfBits 39 = .ok (.if_icmp .ne 76, 3) := by decide +kernel
theorem dX2_rowOfBits_42 : decode cX2_rowOfBits 42 = .ok (.aload_n 0, 1) := by decide +kernel
theorem dX2_rowOfBits_43 : decode cX2_rowOfBits 43 = .ok (.getfield 9, 3) := by decide +kernel
theorem dX2_rowOfBits_46 : decode cX2_rowOfBits 46 = .ok (.iload 6, 2) := by decide +kernel
theorem dX2_rowOfBits_48 : decode cX2_rowOfBits 48 = .ok (.iaload, 1) := by decide +kernel
theorem dX2_rowOfBits_49 : decode cX2_rowOfBits 49 = .ok (.i2l, 1) := by decide +kernel
theorem dX2_rowOfBits_50 : decode cX2_rowOfBits 50 = .ok (.aload_n 0, 1) := by decide +kernel
theorem dX2_rowOfBits_51 : decode cX2_rowOfBits 51 = .ok (.getfield 9, 3) := by decide +kernel
theorem dX2_rowOfBits_54 : decode cX2_rowOfBits 54 = .ok (.iload_n 1, 1) := by decide +kernel
theorem dX2_rowOfBits_55 : decode cX2_rowOfBits 55 = .ok (.iaload, 1) := by decide +kernel
theorem dX2_rowOfBits_56 : decode cX2_rowOfBits 56 = .ok (.i2l, 1) := by decide +kernel
theorem dX2_rowOfBits_57 : decode cX2_rowOfBits 57 = .ok (.lsub, 1) := by decide +kernel
theorem dX2_rowOfBits_58 : decode cX2_rowOfBits 58 = .ok (.lstore 7, 2) := by decide +kernel
theorem dX2_rowOfBits_60 : decode cX2_rowOfBits 60 = .ok (.aload_n 0, 1) := by decide +kernel
theorem dX2_rowOfBits_61 : decode cX2_rowOfBits 61 = .ok (.getfield 15, 3) := by decide +kernel
theorem dX2_rowOfBits_64 : decode cX2_rowOfBits 64 = .ok (.iload 6, 2) := by decide +kernel
theorem dX2_rowOfBits_66 : decode cX2_rowOfBits 66 = .ok (.iaload, 1) := by decide +kernel
theorem dX2_rowOfBits_67 : decode cX2_rowOfBits 67 = .ok (.i2l, 1) := by decide +kernel
theorem dX2_rowOfBits_68 : decode cX2_rowOfBits 68 = .ok (.aload_n 0, 1) := by decide +kernel
theorem dX2_rowOfBits_69 : decode cX2_rowOfBits 69 = .ok (.getfield 9, 3) := by decide +kernel
theorem dX2_rowOfBits_72 : decode cX2_rowOfBits 72 = .ok (.iload_n 1, 1) := by decide +kernel
theorem dX2_rowOfBits_73 : decode cX2_rowOfBits 73 = .ok (.iaload, 1) := by decide +kernel
theorem dX2_rowOfBits_74 : decode cX2_rowOfBits 74 = .ok (.i2l, 1) := by decide +kernel
theorem dX2_rowOfBits_75 : decode cX2_rowOfBits 75 = .ok (.lsub, 1) := by decide +kernel
theorem dX2_rowOfBits_76 : decode cX2_rowOfBits 76 = .ok (.ldc2_w 74, 3) := by decide +kernel
theorem dX2_rowOfBits_79 : decode cX2_rowOfBits 79 = .ok (.invokestatic 76, 3) := by decide +kernel
theorem dX2_rowOfBits_82 : decode cX2_rowOfBits 82 = .ok (.lstore 9, 2) := by decide +kernel
theorem dX2_rowOfBits_84 : decode cX2_rowOfBits 84 = .ok (.lload 7, 2) := by decide +kernel
theorem dX2_rowOfBits_86 : decode cX2_rowOfBits 86 = .ok (.lstore 11, 2) := by decide +kernel
theorem dX2_rowOfBits_88 : decode cX2_rowOfBits 88 = .ok (.lload 11, 2) := by decide +kernel
theorem dX2_rowOfBits_90 : decode cX2_rowOfBits 90 = .ok (.lload 9, 2) := by decide +kernel
theorem dX2_rowOfBits_92 : decode cX2_rowOfBits 92 = .ok (.lcmp, 1) := by decide +kernel
theorem dX2_rowOfBits_93 : decode cX2_rowOfBits 93 = .ok (.ifCond .gt 22, 3) := by decide +kernel
theorem dX2_rowOfBits_96 : decode cX2_rowOfBits 96 = .ok (.lload 4, 2) := by decide +kernel
theorem dX2_rowOfBits_98 : decode cX2_rowOfBits 98 = .ok (.lconst 1, 1) := by decide +kernel
theorem dX2_rowOfBits_99 : decode cX2_rowOfBits 99 = .ok (.lload 11, 2) := by decide +kernel
theorem dX2_rowOfBits_101 : decode cX2_rowOfBits 101 = .ok (.l2i, 1) := by decide +kernel
theorem dX2_rowOfBits_102 : decode cX2_rowOfBits 102 = .ok (.lshl, 1) := by decide +kernel
theorem dX2_rowOfBits_103 : decode cX2_rowOfBits 103 = .ok (.lor, 1) := by decide +kernel
theorem dX2_rowOfBits_104 : decode cX2_rowOfBits 104 = .ok (.lstore 4, 2) := by decide +kernel
theorem dX2_rowOfBits_106 : decode cX2_rowOfBits 106 = .ok (.lload 11, 2) := by decide +kernel
theorem dX2_rowOfBits_108 : decode cX2_rowOfBits 108 = .ok (.lconst 1, 1) := by decide +kernel
theorem dX2_rowOfBits_109 : decode cX2_rowOfBits 109 = .ok (.ladd, 1) := by decide +kernel
theorem dX2_rowOfBits_110 : decode cX2_rowOfBits 110 = .ok (.lstore 11, 2) := by decide +kernel
theorem dX2_rowOfBits_112 : decode cX2_rowOfBits 112 = .ok (.goto (-24), 3) := by decide +kernel
theorem dX2_rowOfBits_115 : decode cX2_rowOfBits 115 = .ok (.iinc 6 1, 3) := by decide +kernel
theorem dX2_rowOfBits_118 : decode cX2_rowOfBits 118 = .ok (.goto (-100), 3) := by decide +kernel
theorem dX2_rowOfBits_121 : decode cX2_rowOfBits 121 = .ok (.lload 4, 2) := by decide +kernel
theorem dX2_rowOfBits_123 : decode cX2_rowOfBits 123 = .ok (.lreturn, 1) := by decide +kernel
theorem dX3_init_0 : decode cX3_init 0 = .ok (.aload_n 0, 1) := by decide +kernel
theorem dX3_init_1 : decode cX3_init 1 = .ok (.invokespecial 3, 3) := by decide +kernel
theorem dX3_init_4 : decode cX3_init 4 = .ok (.aload_n 0, 1) := by decide +kernel
theorem dX3_init_5 : decode cX3_init 5 = .ok (.sipush 256, 3) := by decide +kernel
theorem dX3_init_8 : decode cX3_init 8 = .ok (.newarray .byte, 2) := by decide +kernel
theorem dX3_init_10 : decode cX3_init 10 = .ok (.putfield 9, 3) := by decide +kernel
theorem dX3_init_13 : decode cX3_init 13 = .ok (.aload_n 0, 1) := by decide +kernel
theorem dX3_init_14 : decode cX3_init 14 = .ok (.iconst 0, 1) := by decide +kernel
theorem dX3_init_15 : decode cX3_init 15 = .ok (.putfield 15, 3) := by decide +kernel
theorem dX3_init_18 : decode cX3_init 18 = .ok (.return_, 1) := by decide +kernel
theorem dX3_length_0 : decode cX3_length 0 = .ok (.aload_n 0, 1) := by decide +kernel
theorem dX3_length_1 : decode cX3_length 1 = .ok (.getfield 15, 3) := by decide +kernel
theorem dX3_length_4 : decode cX3_length 4 = .ok (.ireturn, 1) := by decide +kernel
theorem dX3_clear_0 : decode cX3_clear 0 = .ok (.aload_n 0, 1) := by decide +kernel
theorem dX3_clear_1 : decode cX3_clear 1 = .ok (.iconst 0, 1) := by decide +kernel
theorem dX3_clear_2 : decode cX3_clear 2 = .ok (.putfield 15, 3) := by decide +kernel
theorem dX3_clear_5 : decode cX3_clear 5 = .ok (.return_, 1) := by decide +kernel
theorem dX3_byteAt_0 : decode cX3_byteAt 0 = .ok (.iload_n 1, 1) := by decide +kernel
theorem dX3_byteAt_1 : decode cX3_byteAt 1 = .ok (.ifCond .lt 29, 3) := by decide +kernel
theorem dX3_byteAt_4 : decode cX3_byteAt 4 = .ok (.iload_n 1, 1) := by decide +kernel
theorem dX3_byteAt_5 : decode cX3_byteAt 5 = .ok (.aload_n 0, 1) := by decide +kernel
theorem dX3_byteAt_6 : decode cX3_byteAt 6 = .ok (.getfield 15, 3) := by decide +kernel
theorem dX3_byteAt_9 : decode cX3_byteAt 9 = .ok (.if_icmp .ge 21, 3) := by decide +kernel
theorem dX3_byteAt_12 : decode cX3_byteAt 12 = .ok (.iload_n 1, 1) := by decide +kernel
theorem dX3_byteAt_13 : decode cX3_byteAt 13 = .ok (.aload_n 0, 1) := by decide +kernel
theorem dX3_byteAt_14 : decode cX3_byteAt 14 = .ok (.getfield 9, 3) := by decide +kernel
theorem dX3_byteAt_17 : decode cX3_byteAt 17 = .ok (.arraylength, 1) := by decide +kernel
theorem dX3_byteAt_18 : decode cX3_byteAt 18 = .ok (.if_icmp .ge 12, 3) := by decide +kernel
theorem dX3_byteAt_21 : decode cX3_byteAt 21 = .ok (.aload_n 0, 1) := by decide +kernel
theorem dX3_byteAt_22 : decode cX3_byteAt 22 = .ok (.getfield 9, 3) := by decide +kernel
theorem dX3_byteAt_25 : decode cX3_byteAt 25 = .ok (.iload_n 1, 1) := by decide +kernel
theorem dX3_byteAt_26 : decode cX3_byteAt 26 = .ok (.baload, 1) := by decide +kernel
theorem dX3_byteAt_27 : decode cX3_byteAt 27 = .ok (.goto 4, 3) := by decide +kernel
theorem dX3_byteAt_30 : decode cX3_byteAt 30 = .ok (.iconst (-1), 1) := by decide +kernel
theorem dX3_byteAt_31 : decode cX3_byteAt 31 = .ok (.ireturn, 1) := by decide +kernel
theorem dX3_word_0 : decode cX3_word 0 = .ok (.iconst 0, 1) := by decide +kernel
theorem dX3_word_1 : decode cX3_word 1 = .ok (.istore_n 2, 1) := by decide +kernel
theorem dX3_word_2 : decode cX3_word 2 = .ok (.iload_n 2, 1) := by decide +kernel
theorem dX3_word_3 : decode cX3_word 3 = .ok (.aload_n 1, 1) := by decide +kernel
theorem dX3_word_4 : decode cX3_word 4 = .ok (.invokevirtual 19, 3) := by decide +kernel
theorem dX3_word_7 : decode cX3_word 7 = .ok (.if_icmp .ge 18, 3) := by decide +kernel
theorem dX3_word_10 : decode cX3_word 10 = .ok (.aload_n 0, 1) := by decide +kernel
theorem dX3_word_11 : decode cX3_word 11 = .ok (.aload_n 1, 1) := by decide +kernel
theorem dX3_word_12 : decode cX3_word 12 = .ok (.iload_n 2, 1) := by decide +kernel
theorem dX3_word_13 : decode cX3_word 13 = .ok (.invokevirtual 24, 3) := by decide +kernel
theorem dX3_word_16 : decode cX3_word 16 = .ok (.invokevirtual 28, 3) := by decide +kernel
theorem dX3_word_19 : decode cX3_word 19 = .ok (.iinc 2 1, 3) := by decide +kernel
theorem dX3_word_22 : decode cX3_word 22 = .ok (.goto (-20), 3) := by decide +kernel
theorem dX3_word_25 : decode cX3_word 25 = .ok (.return_, 1) := by decide +kernel
theorem dX3_number_0 : decode cX3_number 0 = .ok (.iload_n 1, 1) := by decide +kernel
theorem dX3_number_1 : decode cX3_number 1 = .ok (.i2l, 1) := by decide +kernel
theorem dX3_number_2 : decode cX3_number 2 = .ok (.lstore_n 2, 1) := by decide +kernel
theorem dX3_number_3 : decode cX3_number 3 = .ok (.lload_n 2, 1) := by decide +kernel
theorem dX3_number_4 : decode cX3_number 4 = .ok (.lconst 0, 1) := by decide +kernel
theorem dX3_number_5 : decode cX3_number 5 = .ok (.lcmp, 1) := by decide +kernel
theorem dX3_number_6 : decode cX3_number 6 = .ok (.ifCond .ge 12, 3) := by decide +kernel
theorem dX3_number_9 : decode cX3_number 9 = .ok (.aload_n 0, 1) := by decide +kernel
theorem dX3_number_10 : decode cX3_number 10 = .ok (.bipush 45, 2) := by decide +kernel
theorem dX3_number_12 : decode cX3_number 12 = .ok (.invokevirtual 28, 3) := by decide +kernel
theorem dX3_number_15 : decode cX3_number 15 = .ok (.lload_n 2, 1) := by decide +kernel
theorem dX3_number_16 : decode cX3_number 16 = .ok (.lneg, 1) := by decide +kernel
theorem dX3_number_17 : decode cX3_number 17 = .ok (.lstore_n 2, 1) := by decide +kernel
theorem dX3_number_18 : decode cX3_number 18 = .ok (.lconst 1, 1) := by decide +kernel
theorem dX3_number_19 : decode cX3_number 19 = .ok (.lstore 4, 2) := by decide +kernel
theorem dX3_number_21 : decode cX3_number 21 = .ok (.iconst 1, 1) := by decide +kernel
theorem dX3_number_22 : decode cX3_number 22 = .ok (.istore 6, 2) := by decide +kernel
theorem dX3_number_24 : decode cX3_number 24 = .ok (.iload 6, 2) := by decide +kernel
theorem dX3_number_26 : decode cX3_number 26 = .ok (.bipush 10, 2) := by decide +kernel
theorem dX3_number_28 : decode cX3_number 28 = .ok (.if_icmp .ge 28, 3) := by decide +kernel
theorem dX3_number_31 : decode cX3_number 31 = .ok (.lload_n 2, 1) := by decide +kernel
theorem dX3_number_32 : decode cX3_number 32 = .ok (.lload 4, 2) := by decide +kernel
theorem dX3_number_34 : decode cX3_number 34 = .ok (.ldc2_w 32, 3) := by decide +kernel
theorem dX3_number_37 : decode cX3_number 37 = .ok (.lmul, 1) := by decide +kernel
theorem dX3_number_38 : decode cX3_number 38 = .ok (.lcmp, 1) := by decide +kernel
theorem dX3_number_39 : decode cX3_number 39 = .ok (.ifCond .lt 17, 3) := by decide +kernel
theorem dX3_number_42 : decode cX3_number 42 = .ok (.lload 4, 2) := by decide +kernel
theorem dX3_number_44 : decode cX3_number 44 = .ok (.ldc2_w 32, 3) := by decide +kernel
theorem dX3_number_47 : decode cX3_number 47 = .ok (.lmul, 1) := by decide +kernel
theorem dX3_number_48 : decode cX3_number 48 = .ok (.lstore 4, 2) := by decide +kernel
theorem dX3_number_50 : decode cX3_number 50 = .ok (.iinc 6 1, 3) := by decide +kernel
theorem dX3_number_53 : decode cX3_number 53 = .ok (.goto (-29), 3) := by decide +kernel
theorem dX3_number_56 : decode cX3_number 56 = .ok (.iconst 0, 1) := by decide +kernel
theorem dX3_number_57 : decode cX3_number 57 = .ok (.istore 7, 2) := by decide +kernel
theorem dX3_number_59 : decode cX3_number 59 = .ok (.iload 7, 2) := by decide +kernel
theorem dX3_number_61 : decode cX3_number 61 = .ok (.iload 6, 2) := by decide +kernel
theorem dX3_number_63 : decode cX3_number 63 = .ok (.if_icmp .ge 41, 3) := by decide +kernel
theorem dX3_number_66 : decode cX3_number 66 = .ok (.lload 4, 2) := by decide +kernel
theorem dX3_number_68 : decode cX3_number 68 = .ok (.lconst 0, 1) := by decide +kernel
theorem dX3_number_69 : decode cX3_number 69 = .ok (.lcmp, 1) := by decide +kernel
theorem dX3_number_70 : decode cX3_number 70 = .ok (.ifCond .le 34, 3) := by decide +kernel
theorem dX3_number_73 : decode cX3_number 73 = .ok (.aload_n 0, 1) := by decide +kernel
theorem dX3_number_74 : decode cX3_number 74 = .ok (.ldc2_w 34, 3) := by decide +kernel
theorem dX3_number_77 : decode cX3_number 77 = .ok (.lload_n 2, 1) := by decide +kernel
theorem dX3_number_78 : decode cX3_number 78 = .ok (.lload 4, 2) := by decide +kernel
theorem dX3_number_80 : decode cX3_number 80 = .ok (.ldiv, 1) := by decide +kernel
theorem dX3_number_81 : decode cX3_number 81 = .ok (.ldc2_w 32, 3) := by decide +kernel
theorem dX3_number_84 : decode cX3_number 84 = .ok (.lrem, 1) := by decide +kernel
theorem dX3_number_85 : decode cX3_number 85 = .ok (.ladd, 1) := by decide +kernel
theorem dX3_number_86 : decode cX3_number 86 = .ok (.l2i, 1) := by decide +kernel
theorem dX3_number_87 : decode cX3_number 87 = .ok (.invokevirtual 28, 3) := by decide +kernel
theorem dX3_number_90 : decode cX3_number 90 = .ok (.lload 4, 2) := by decide +kernel
theorem dX3_number_92 : decode cX3_number 92 = .ok (.ldc2_w 32, 3) := by decide +kernel
theorem dX3_number_95 : decode cX3_number 95 = .ok (.ldiv, 1) := by decide +kernel
theorem dX3_number_96 : decode cX3_number 96 = .ok (.lstore 4, 2) := by decide +kernel
theorem dX3_number_98 : decode cX3_number 98 = .ok (.iinc 7 1, 3) := by decide +kernel
theorem dX3_number_101 : decode cX3_number 101 = .ok (.goto (-42), 3) := by decide +kernel
theorem dX3_number_104 : decode cX3_number 104 = .ok (.return_, 1) := by decide +kernel
theorem dX3_figures_0 : decode cX3_figures 0 = .ok (.bipush 60, 2) := by decide +kernel
theorem dX3_figures_2 : decode cX3_figures 2 = .ok (.istore_n 3, 1) := by decide +kernel
theorem dX3_figures_3 : decode cX3_figures 3 = .ok (.iload_n 3, 1) := by decide +kernel
theorem dX3_figures_4 : decode cX3_figures 4 = .ok (.ifCond .lt 46, 3) := by decide +kernel
theorem dX3_figures_7 : decode cX3_figures 7 = .ok (.lload_n 1, 1) := by decide +kernel
theorem dX3_figures_8 : decode cX3_figures 8 = .ok (.iload_n 3, 1) := by decide +kernel
theorem dX3_figures_9 : decode cX3_figures 9 = .ok (.lushr, 1) := by decide +kernel
theorem dX3_figures_10 : decode cX3_figures 10 = .ok (.ldc2_w 36, 3) := by decide +kernel
theorem dX3_figures_13 : decode cX3_figures 13 = .ok (.land, 1) := by decide +kernel
theorem dX3_figures_14 : decode cX3_figures 14 = .ok (.l2i, 1) := by decide +kernel
theorem dX3_figures_15 : decode cX3_figures 15 = .ok (.istore 4, 2) := by decide +kernel
theorem dX3_figures_17 : decode cX3_figures 17 = .ok (.aload_n 0, 1) := by decide +kernel
theorem dX3_figures_18 : decode cX3_figures 18 = .ok (.iload 4, 2) := by decide +kernel
theorem dX3_figures_20 : decode cX3_figures 20 = .ok (.bipush 10, 2) := by decide +kernel
theorem dX3_figures_22 : decode cX3_figures 22 = .ok (.if_icmp .ge 11, 3) := by decide +kernel
theorem dX3_figures_25 : decode cX3_figures 25 = .ok (.bipush 48, 2) := by decide +kernel
theorem dX3_figures_27 : decode cX3_figures 27 = .ok (.iload 4, 2) := by decide +kernel
theorem dX3_figures_29 : decode cX3_figures 29 = .ok (.iadd, 1) := by decide +kernel
theorem dX3_figures_30 : decode cX3_figures 30 = .ok (.goto 11, 3) := by decide +kernel
theorem dX3_figures_33 : decode cX3_figures 33 = .ok (.bipush 65, 2) := by decide +kernel
theorem dX3_figures_35 : decode cX3_figures 35 = .ok (.iload 4, 2) := by decide +kernel
theorem dX3_figures_37 : decode cX3_figures 37 = .ok (.iadd, 1) := by decide +kernel
theorem dX3_figures_38 : decode cX3_figures 38 = .ok (.bipush 10, 2) := by decide +kernel
theorem dX3_figures_40 : decode cX3_figures 40 = .ok (.isub, 1) := by decide +kernel
theorem dX3_figures_41 : decode cX3_figures 41 = .ok (.invokevirtual 28, 3) := by decide +kernel
theorem dX3_figures_44 : decode cX3_figures 44 = .ok (.iinc 3 (-4), 3) := by decide +kernel
theorem dX3_figures_47 : decode cX3_figures 47 = .ok (.goto (-44), 3) := by decide +kernel
theorem dX3_figures_50 : decode cX3_figures 50 = .ok (.return_, 1) := by decide +kernel
theorem dX3_put_0 : decode cX3_put 0 = .ok (.aload_n 0, 1) := by decide +kernel
theorem dX3_put_1 : decode cX3_put 1 = .ok (.getfield 15, 3) := by decide +kernel
theorem dX3_put_4 : decode cX3_put 4 = .ok (.aload_n 0, 1) := by decide +kernel
theorem dX3_put_5 : decode cX3_put 5 = .ok (.getfield 9, 3) := by decide +kernel
theorem dX3_put_8 : decode cX3_put 8 = .ok (.arraylength, 1) := by decide +kernel
theorem dX3_put_9 : decode cX3_put 9 = .ok (.if_icmp .lt 31, 3) := by decide +kernel
theorem dX3_put_12 : decode cX3_put 12 = .ok (.aload_n 0, 1) := by decide +kernel
theorem dX3_put_13 : decode cX3_put 13 = .ok (.getfield 9, 3) := by decide +kernel
theorem dX3_put_16 : decode cX3_put 16 = .ok (.arraylength, 1) := by decide +kernel
theorem dX3_put_17 : decode cX3_put 17 = .ok (.ldc 38, 2) := by decide +kernel
theorem dX3_put_19 : decode cX3_put 19 = .ok (.if_icmp .ge 21, 3) := by decide +kernel
theorem dX3_put_22 : decode cX3_put 22 = .ok (.aload_n 0, 1) := by decide +kernel
theorem dX3_put_23 : decode cX3_put 23 = .ok (.aload_n 0, 1) := by decide +kernel
theorem dX3_put_24 : decode cX3_put 24 = .ok (.getfield 9, 3) := by decide +kernel
theorem dX3_put_27 : decode cX3_put 27 = .ok (.aload_n 0, 1) := by decide +kernel
theorem dX3_put_28 : decode cX3_put 28 = .ok (.getfield 9, 3) := by decide +kernel
theorem dX3_put_31 : decode cX3_put 31 = .ok (.arraylength, 1) := by decide +kernel
theorem dX3_put_32 : decode cX3_put 32 = .ok (.iconst 2, 1) := by decide +kernel
theorem dX3_put_33 : decode cX3_put 33 = .ok (.imul, 1) := by decide +kernel
theorem dX3_put_34 : decode cX3_put 34 = .ok (.invokestatic 39, 3) := by decide +kernel
theorem dX3_put_37 : decode cX3_put 37 = .ok (.putfield 9, 3) := by decide +kernel
theorem dX3_put_40 : decode cX3_put 40 = .ok (.aload_n 0, 1) := by decide +kernel
theorem dX3_put_41 : decode cX3_put 41 = .ok (.getfield 15, 3) := by decide +kernel
theorem dX3_put_44 : decode cX3_put 44 = .ok (.ifCond .lt 36, 3) := by decide +kernel
theorem dX3_put_47 : decode cX3_put 47 = .ok (.aload_n 0, 1) := by decide +kernel
theorem dX3_put_48 : decode cX3_put 48 = .ok (.getfield 15, 3) := by decide +kernel
theorem dX3_put_51 : decode cX3_put 51 = .ok (.aload_n 0, 1) := by decide +kernel
theorem dX3_put_52 : decode cX3_put 52 = .ok (.getfield 9, 3) := by decide +kernel
theorem dX3_put_55 : decode cX3_put 55 = .ok (.arraylength, 1) := by decide +kernel
theorem dX3_put_56 : decode cX3_put 56 = .ok (.if_icmp .ge 24, 3) := by decide +kernel
theorem dX3_put_59 : decode cX3_put 59 = .ok (.aload_n 0, 1) := by decide +kernel
theorem dX3_put_60 : decode cX3_put 60 = .ok (.getfield 9, 3) := by decide +kernel
theorem dX3_put_63 : decode cX3_put 63 = .ok (.aload_n 0, 1) := by decide +kernel
theorem dX3_put_64 : decode cX3_put 64 = .ok (.getfield 15, 3) := by decide +kernel
theorem dX3_put_67 : decode cX3_put 67 = .ok (.iload_n 1, 1) := by decide +kernel
theorem dX3_put_68 : decode cX3_put 68 = .ok (.i2b, 1) := by decide +kernel
theorem dX3_put_69 : decode cX3_put 69 = .ok (.bastore, 1) := by decide +kernel
theorem dX3_put_70 : decode cX3_put 70 = .ok (.aload_n 0, 1) := by decide +kernel
theorem dX3_put_71 : decode cX3_put 71 = .ok (.dup, 1) := by decide +kernel
theorem dX3_put_72 : decode cX3_put 72 = .ok (.getfield 15, 3) := by decide +kernel
theorem dX3_put_75 : decode cX3_put 75 = .ok (.iconst 1, 1) := by decide +kernel
theorem dX3_put_76 : decode cX3_put 76 = .ok (.iadd, 1) := by decide +kernel
theorem dX3_put_77 : decode cX3_put 77 = .ok (.putfield 15, 3) := by decide +kernel
theorem dX3_put_80 : decode cX3_put 80 = .ok (.return_, 1) := by decide +kernel
theorem dX4_init_0 : decode cX4_init 0 = .ok (.aload_n 0, 1) := by decide +kernel
theorem dX4_init_1 : decode cX4_init 1 = .ok (.invokespecial 3, 3) := by decide +kernel
theorem dX4_init_4 : decode cX4_init 4 = .ok (.aload_n 0, 1) := by decide +kernel
theorem dX4_init_5 : decode cX4_init 5 = .ok (.sipush 576, 3) := by decide +kernel
theorem dX4_init_8 : decode cX4_init 8 = .ok (.newarray .int, 2) := by decide +kernel
theorem dX4_init_10 : decode cX4_init 10 = .ok (.putfield 9, 3) := by decide +kernel
theorem dX4_init_13 : decode cX4_init 13 = .ok (.aload_n 0, 1) := by decide +kernel
theorem dX4_init_14 : decode cX4_init 14 = .ok (.sipush 576, 3) := by decide +kernel
theorem dX4_init_17 : decode cX4_init 17 = .ok (.newarray .int, 2) := by decide +kernel
theorem dX4_init_19 : decode cX4_init 19 = .ok (.putfield 15, 3) := by decide +kernel
theorem dX4_init_22 : decode cX4_init 22 = .ok (.aload_n 0, 1) := by decide +kernel
theorem dX4_init_23 : decode cX4_init 23 = .ok (.iconst 0, 1) := by decide +kernel
theorem dX4_init_24 : decode cX4_init 24 = .ok (.putfield 18, 3) := by decide +kernel
theorem dX4_init_27 : decode cX4_init 27 = .ok (.aload_n 0, 1) := by decide +kernel
theorem dX4_init_28 : decode cX4_init 28 = .ok (.aload_n 1, 1) := by decide +kernel
theorem dX4_init_29 : decode cX4_init 29 = .ok (.putfield 22, 3) := by decide +kernel
theorem dX4_init_32 : decode cX4_init 32 = .ok (.return_, 1) := by decide +kernel
theorem dX4_plan_0 : decode cX4_plan 0 = .ok (.aload_n 0, 1) := by decide +kernel
theorem dX4_plan_1 : decode cX4_plan 1 = .ok (.iload_n 1, 1) := by decide +kernel
theorem dX4_plan_2 : decode cX4_plan 2 = .ok (.putfield 18, 3) := by decide +kernel
theorem dX4_plan_5 : decode cX4_plan 5 = .ok (.iload_n 1, 1) := by decide +kernel
theorem dX4_plan_6 : decode cX4_plan 6 = .ok (.iconst 1, 1) := by decide +kernel
theorem dX4_plan_7 : decode cX4_plan 7 = .ok (.if_icmp .eq 4, 3) := by decide +kernel
theorem dX4_plan_10 : decode cX4_plan 10 = .ok (.return_, 1) := by decide +kernel
theorem dX4_plan_11 : decode cX4_plan 11 = .ok (.aload_n 0, 1) := by decide +kernel
theorem dX4_plan_12 : decode cX4_plan 12 = .ok (.getfield 22, 3) := by decide +kernel
theorem dX4_plan_15 : decode cX4_plan 15 = .ok (.invokevirtual 26, 3) := by decide +kernel
theorem dX4_plan_18 : decode cX4_plan 18 = .ok (.bipush 24, 2) := by decide +kernel
theorem dX4_plan_20 : decode cX4_plan 20 = .ok (.invokestatic 32, 3) := by decide +kernel
theorem dX4_plan_23 : decode cX4_plan 23 = .ok (.istore_n 2, 1) := by decide +kernel
theorem dX4_plan_24 : decode cX4_plan 24 = .ok (.iconst 2, 1) := by decide +kernel
theorem dX4_plan_25 : decode cX4_plan 25 = .ok (.istore_n 3, 1) := by decide +kernel
theorem dX4_plan_26 : decode cX4_plan 26 = .ok (.iload_n 3, 1) := by decide +kernel
theorem dX4_plan_27 : decode cX4_plan 27 = .ok (.iload_n 2, 1) := by decide +kernel
theorem dX4_plan_28 : decode cX4_plan 28 = .ok (.if_icmp .gt 38, 3) := by decide +kernel
theorem dX4_plan_31 : decode cX4_plan 31 = .ok (.iconst 0, 1) := by decide +kernel
theorem dX4_plan_32 : decode cX4_plan 32 = .ok (.istore 4, 2) := by decide +kernel
theorem dX4_plan_34 : decode cX4_plan 34 = .ok (.iload 4, 2) := by decide +kernel
theorem dX4_plan_36 : decode cX4_plan 36 = .ok (.iload_n 3, 1) := by decide +kernel
theorem dX4_plan_37 : decode cX4_plan 37 = .ok (.iadd, 1) := by decide +kernel
theorem dX4_plan_38 : decode cX4_plan 38 = .ok (.iload_n 2, 1) := by decide +kernel
theorem dX4_plan_39 : decode cX4_plan 39 = .ok (.if_icmp .gt 21, 3) := by decide +kernel
theorem dX4_plan_42 : decode cX4_plan 42 = .ok (.aload_n 0, 1) := by decide +kernel
theorem dX4_plan_43 : decode cX4_plan 43 = .ok (.iload 4, 2) := by decide +kernel
theorem dX4_plan_45 : decode cX4_plan 45 = .ok (.iload 4, 2) := by decide +kernel
theorem dX4_plan_47 : decode cX4_plan 47 = .ok (.iload_n 3, 1) := by decide +kernel
theorem dX4_plan_48 : decode cX4_plan 48 = .ok (.iadd, 1) := by decide +kernel
theorem dX4_plan_49 : decode cX4_plan 49 = .ok (.iconst 1, 1) := by decide +kernel
theorem dX4_plan_50 : decode cX4_plan 50 = .ok (.isub, 1) := by decide +kernel
theorem dX4_plan_51 : decode cX4_plan 51 = .ok (.invokevirtual 38, 3) := by decide +kernel
theorem dX4_plan_54 : decode cX4_plan 54 = .ok (.iinc 4 1, 3) := by decide +kernel
theorem dX4_plan_57 : decode cX4_plan 57 = .ok (.goto (-23), 3) := by decide +kernel
theorem dX4_plan_60 : decode cX4_plan 60 = .ok (.iinc 3 1, 3) := by decide +kernel
theorem dX4_plan_63 : decode cX4_plan 63 = .ok (.goto (-37), 3) := by decide +kernel
theorem dX4_plan_66 : decode cX4_plan 66 = .ok (.return_, 1) := by decide +kernel
theorem dX4_split_0 : decode cX4_split 0 = .ok (.iload_n 1, 1) := by decide +kernel
theorem dX4_split_1 : decode cX4_split 1 = .ok (.iload_n 2, 1) := by decide +kernel
theorem dX4_split_2 : decode cX4_split 2 = .ok (.invokestatic 42, 3) := by decide +kernel
theorem dX4_split_5 : decode cX4_split 5 = .ok (.istore_n 3, 1) := by decide +kernel
theorem dX4_split_6 : decode cX4_split 6 = .ok (.aload_n 0, 1) := by decide +kernel
theorem dX4_split_7 : decode cX4_split 7 = .ok (.getfield 18, 3) := by decide +kernel
theorem dX4_split_10 : decode cX4_split 10 = .ok (.iconst 1, 1) := by decide +kernel
theorem dX4_split_11 : decode cX4_split 11 = .ok (.if_icmp .ne 15, 3) := by decide +kernel
theorem dX4_split_14 : decode cX4_split 14 = .ok (.iload_n 3, 1) := by decide +kernel
theorem dX4_split_15 : decode cX4_split 15 = .ok (.iconst (-1), 1) := by decide +kernel
theorem dX4_split_16 : decode cX4_split 16 = .ok (.if_icmp .eq 10, 3) := by decide +kernel
theorem dX4_split_19 : decode cX4_split 19 = .ok (.aload_n 0, 1) := by decide +kernel
theorem dX4_split_20 : decode cX4_split 20 = .ok (.getfield 15, 3) := by decide +kernel
theorem dX4_split_23 : decode cX4_split 23 = .ok (.iload_n 3, 1) := by decide +kernel
theorem dX4_split_24 : decode cX4_split 24 = .ok (.iaload, 1) := by decide +kernel
theorem dX4_split_25 : decode cX4_split 25 = .ok (.ireturn, 1) := by decide +kernel
theorem dX4_split_26 : decode cX4_split 26 = .ok (.iload_n 1, 1) := by decide +kernel
theorem dX4_split_27 : decode cX4_split 27 = .ok (.iload_n 2, 1) := by decide +kernel
theorem dX4_split_28 : decode cX4_split 28 = .ok (.iadd, 1) := by decide +kernel
theorem dX4_split_29 : decode cX4_split 29 = .ok (.iconst 1, 1) := by decide +kernel
theorem dX4_split_30 : decode cX4_split 30 = .ok (.iadd, 1) := by decide +kernel
theorem dX4_split_31 : decode cX4_split 31 = .ok (.iconst 2, 1) := by decide +kernel
theorem dX4_split_32 : decode cX4_split 32 = .ok (.idiv, 1) := by decide +kernel
theorem dX4_split_33 : decode cX4_split 33 = .ok (.ireturn, 1) := by decide +kernel
theorem dX4_questionsAbove_0 : decode cX4_questionsAbove 0 = .ok (.iconst 0, 1) := by decide +kernel
theorem dX4_questionsAbove_1 : decode cX4_questionsAbove 1 = .ok (.istore_n 2, 1) := by decide +kernel
theorem dX4_questionsAbove_2 : decode cX4_questionsAbove 2 = .ok (.aload_n 0, 1) := by decide +kernel
theorem dX4_questionsAbove_3 : decode cX4_questionsAbove 3 = .ok (.getfield 22, 3) := by decide +kernel
theorem dX4_questionsAbove_6 : decode cX4_questionsAbove 6 = .ok (.invokevirtual 26, 3) := by decide +kernel
theorem dX4_questionsAbove_9 : decode cX4_questionsAbove 9 = .ok (.iconst 1, 1) := by decide +kernel
theorem dX4_questionsAbove_10 : decode cX4_questionsAbove 10 = .ok (.isub, 1) := by decide +kernel
theorem dX4_questionsAbove_11 : decode cX4_questionsAbove 11 = .ok (.istore_n 3, 1) := by decide +kernel
theorem dX4_questionsAbove_12 : decode cX4_questionsAbove 12 = .ok (.iconst 0, 1) := by decide +kernel
theorem dX4_questionsAbove_13 : decode cX4_questionsAbove 13 = .ok (.istore 4, 2) := by decide +kernel
theorem dX4_questionsAbove_15 : decode cX4_questionsAbove 15 = .ok (.iload_n 2, 1) := by decide +kernel
theorem dX4_questionsAbove_16 : decode cX4_questionsAbove 16 = .ok (.iload_n 3, 1) := by decide +kernel
theorem dX4_questionsAbove_17 : decode cX4_questionsAbove 17 = .ok (.if_icmp .ge 41, 3) := by decide +kernel
theorem dX4_questionsAbove_20 : decode cX4_questionsAbove 20 = .ok (.iload 4, 2) := by decide +kernel
theorem dX4_questionsAbove_22 : decode cX4_questionsAbove 22 = .ok (.bipush 24, 2) := by decide +kernel
theorem dX4_questionsAbove_24 : decode cX4_questionsAbove 24 = .ok (.if_icmp .ge 34, 3) := by decide +kernel
theorem dX4_questionsAbove_27 : decode cX4_questionsAbove 27 = .ok (.aload_n 0, 1) := by decide +kernel
theorem dX4_questionsAbove_28 : decode cX4_questionsAbove 28 = .ok (.iload_n 2, 1) := by decide +kernel
theorem dX4_questionsAbove_29 : decode cX4_questionsAbove 29 = .ok (.iload_n 3, 1) := by decide +kernel
theorem dX4_questionsAbove_30 : decode cX4_questionsAbove 30 = .ok (.invokevirtual 45, 3) := by decide +kernel
theorem dX4_questionsAbove_33 : decode cX4_questionsAbove 33 = .ok (.istore 5, 2) := by decide +kernel
theorem dX4_questionsAbove_35 : decode cX4_questionsAbove 35 = .ok (.iload_n 1, 1) := by decide +kernel
theorem dX4_questionsAbove_36 : decode cX4_questionsAbove 36 = .ok (.iload 5, 2) := by decide +kernel
theorem dX4_questionsAbove_38 : decode cX4_questionsAbove 38 = .ok (.if_icmp .ge 11, 3) := by decide +kernel
theorem dX4_questionsAbove_41 : decode cX4_questionsAbove 41 = .ok (.iload 5, 2) := by decide +kernel
theorem dX4_questionsAbove_43 : decode cX4_questionsAbove 43 = .ok (.iconst 1, 1) := by decide +kernel
theorem dX4_questionsAbove_44 : decode cX4_questionsAbove 44 = .ok (.isub, 1) := by decide +kernel
theorem dX4_questionsAbove_45 : decode cX4_questionsAbove 45 = .ok (.istore_n 3, 1) := by decide +kernel
theorem dX4_questionsAbove_46 : decode cX4_questionsAbove 46 = .ok (.goto 6, 3) := by decide +kernel
theorem dX4_questionsAbove_49 : decode cX4_questionsAbove 49 = .ok (.iload 5, 2) := by decide +kernel
theorem dX4_questionsAbove_51 : decode cX4_questionsAbove 51 = .ok (.istore_n 2, 1) := by decide +kernel
theorem dX4_questionsAbove_52 : decode cX4_questionsAbove 52 = .ok (.iinc 4 1, 3) := by decide +kernel
theorem dX4_questionsAbove_55 : decode cX4_questionsAbove 55 = .ok (.goto (-40), 3) := by decide +kernel
theorem dX4_questionsAbove_58 : decode cX4_questionsAbove 58 = .ok (.iload 4, 2) := by decide +kernel
theorem dX4_questionsAbove_60 : decode cX4_questionsAbove 60 = .ok (.ireturn, 1) := by decide +kernel
theorem dX4_findCheapest_0 : decode cX4_findCheapest 0 = .ok (.ldc 50, 2) := by decide +kernel
theorem dX4_findCheapest_2 : decode cX4_findCheapest 2 = .ok (.istore_n 3, 1) := by decide +kernel
theorem dX4_findCheapest_3 : decode cX4_findCheapest 3 = .ok (.iload_n 2, 1) := by decide +kernel
theorem dX4_findCheapest_4 : decode cX4_findCheapest 4 = .ok (.istore 4, 2) := by decide +kernel
theorem dX4_findCheapest_6 : decode cX4_findCheapest 6 = .ok (.iconst 0, 1) := by decide +kernel
theorem dX4_findCheapest_7 : decode cX4_findCheapest 7 = .ok (.istore 5, 2) := by decide +kernel
theorem dX4_findCheapest_9 : decode cX4_findCheapest 9 = .ok (.iload_n 1, 1) := by decide +kernel
theorem dX4_findCheapest_10 : decode cX4_findCheapest 10 = .ok (.istore 6, 2) := by decide +kernel
theorem dX4_findCheapest_12 : decode cX4_findCheapest 12 = .ok (.iload 6, 2) := by decide +kernel
theorem dX4_findCheapest_14 : decode cX4_findCheapest 14 = .ok (.iload_n 2, 1) := by decide +kernel
theorem dX4_findCheapest_15 : decode cX4_findCheapest 15 = .ok (.if_icmp .gt 25, 3) := by decide +kernel
theorem dX4_findCheapest_18 : decode cX4_findCheapest 18 = .ok (.iload 5, 2) := by decide +kernel
theorem dX4_findCheapest_20 : decode cX4_findCheapest 20 = .ok (.aload_n 0, 1) := by decide +kernel
theorem dX4_findCheapest_21 : decode cX4_findCheapest 21 = .ok (.getfield 22, 3) := by decide +kernel
theorem dX4_findCheapest_24 : decode cX4_findCheapest 24 = .ok (.iload 6, 2) := by decide +kernel
theorem dX4_findCheapest_26 : decode cX4_findCheapest 26 = .ok (.invokevirtual 51, 3) := by decide +kernel
theorem dX4_findCheapest_29 : decode cX4_findCheapest 29 = .ok (.iconst 1, 1) := by decide +kernel
theorem dX4_findCheapest_30 : decode cX4_findCheapest 30 = .ok (.iadd, 1) := by decide +kernel
theorem dX4_findCheapest_31 : decode cX4_findCheapest 31 = .ok (.iadd, 1) := by decide +kernel
theorem dX4_findCheapest_32 : decode cX4_findCheapest 32 = .ok (.istore 5, 2) := by decide +kernel
theorem dX4_findCheapest_34 : decode cX4_findCheapest 34 = .ok (.iinc 6 1, 3) := by decide +kernel
theorem dX4_findCheapest_37 : decode cX4_findCheapest 37 = .ok (.goto (-25), 3) := by decide +kernel
theorem dX4_findCheapest_40 : decode cX4_findCheapest 40 = .ok (.iload_n 1, 1) := by decide +kernel
theorem dX4_findCheapest_41 : decode cX4_findCheapest 41 = .ok (.iconst 1, 1) := by decide +kernel
theorem dX4_findCheapest_42 : decode cX4_findCheapest 42 = .ok (.iadd, 1) := by decide +kernel
theorem dX4_findCheapest_43 : decode cX4_findCheapest 43 = .ok (.istore 6, 2) := by decide +kernel
theorem dX4_findCheapest_45 : decode cX4_findCheapest 45 = .ok (.iload 6, 2) := by decide +kernel
theorem dX4_findCheapest_47 : decode cX4_findCheapest 47 = .ok (.iload_n 2, 1) := by decide +kernel
theorem dX4_findCheapest_48 : decode cX4_findCheapest 48 = .ok (.if_icmp .gt 41, 3) := by decide +kernel
theorem dX4_findCheapest_51 : decode cX4_findCheapest 51 = .ok (.aload_n 0, 1) := by decide +kernel
theorem dX4_findCheapest_52 : decode cX4_findCheapest 52 = .ok (.iload_n 1, 1) := by decide +kernel
theorem dX4_findCheapest_53 : decode cX4_findCheapest 53 = .ok (.iload 6, 2) := by decide +kernel
theorem dX4_findCheapest_55 : decode cX4_findCheapest 55 = .ok (.iconst 1, 1) := by decide +kernel
theorem dX4_findCheapest_56 : decode cX4_findCheapest 56 = .ok (.isub, 1) := by decide +kernel
theorem dX4_findCheapest_57 : decode cX4_findCheapest 57 = .ok (.invokevirtual 55, 3) := by decide +kernel
theorem dX4_findCheapest_60 : decode cX4_findCheapest 60 = .ok (.aload_n 0, 1) := by decide +kernel
theorem dX4_findCheapest_61 : decode cX4_findCheapest 61 = .ok (.iload 6, 2) := by decide +kernel
theorem dX4_findCheapest_63 : decode cX4_findCheapest 63 = .ok (.iload_n 2, 1) := by decide +kernel
theorem dX4_findCheapest_64 : decode cX4_findCheapest 64 = .ok (.invokevirtual 55, 3) := by decide +kernel
theorem dX4_findCheapest_67 : decode cX4_findCheapest 67 = .ok (.iadd, 1) := by decide +kernel
theorem dX4_findCheapest_68 : decode cX4_findCheapest 68 = .ok (.istore 7, 2) := by decide +kernel
theorem dX4_findCheapest_70 : decode cX4_findCheapest 70 = .ok (.iload 7, 2) := by decide +kernel
theorem dX4_findCheapest_72 : decode cX4_findCheapest 72 = .ok (.iload_n 3, 1) := by decide +kernel
theorem dX4_findCheapest_73 : decode cX4_findCheapest 73 = .ok (.if_icmp .ge 10, 3) := by decide +kernel
theorem dX4_findCheapest_76 : decode cX4_findCheapest 76 = .ok (.iload 7, 2) := by decide +kernel
theorem dX4_findCheapest_78 : decode cX4_findCheapest 78 = .ok (.istore_n 3, 1) := by decide +kernel
theorem dX4_findCheapest_79 : decode cX4_findCheapest 79 = .ok (.iload 6, 2) := by decide +kernel
theorem dX4_findCheapest_81 : decode cX4_findCheapest 81 = .ok (.istore 4, 2) := by decide +kernel
theorem dX4_findCheapest_83 : decode cX4_findCheapest 83 = .ok (.iinc 6 1, 3) := by decide +kernel
theorem dX4_findCheapest_86 : decode cX4_findCheapest 86 = .ok (.goto (-41), 3) := by decide +kernel
theorem dX4_findCheapest_89 : decode cX4_findCheapest 89 = .ok (.iload_n 1, 1) := by decide +kernel
theorem dX4_findCheapest_90 : decode cX4_findCheapest 90 = .ok (.iload_n 2, 1) := by decide +kernel
theorem dX4_findCheapest_91 : decode cX4_findCheapest 91 = .ok (.invokestatic 42, 3) := by decide +kernel
theorem dX4_findCheapest_94 : decode cX4_findCheapest 94 = .ok (.istore 6, 2) := by decide +kernel
theorem dX4_findCheapest_96 : decode cX4_findCheapest 96 = .ok (.iload 6, 2) := by decide +kernel
theorem dX4_findCheapest_98 : decode cX4_findCheapest 98 = .ok (.iconst (-1), 1) := by decide +kernel
theorem dX4_findCheapest_99 : decode cX4_findCheapest 99 = .ok (.if_icmp .eq 23, 3) := by decide +kernel
theorem dX4_findCheapest_102 : decode cX4_findCheapest 102 = .ok (.aload_n 0, 1) := by decide +kernel
theorem dX4_findCheapest_103 : decode cX4_findCheapest 103 = .ok (.getfield 9, 3) := by decide +kernel
theorem dX4_findCheapest_106 : decode cX4_findCheapest 106 = .ok (.iload 6, 2) := by decide +kernel
theorem dX4_findCheapest_108 : decode cX4_findCheapest 108 = .ok (.iload_n 3, 1) := by decide +kernel
theorem dX4_findCheapest_109 : decode cX4_findCheapest 109 = .ok (.iload 5, 2) := by decide +kernel
theorem dX4_findCheapest_111 : decode cX4_findCheapest 111 = .ok (.iadd, 1) := by decide +kernel
theorem dX4_findCheapest_112 : decode cX4_findCheapest 112 = .ok (.iastore, 1) := by decide +kernel
theorem dX4_findCheapest_113 : decode cX4_findCheapest 113 = .ok (.aload_n 0, 1) := by decide +kernel
theorem dX4_findCheapest_114 : decode cX4_findCheapest 114 = .ok (.getfield 15, 3) := by decide +kernel
theorem dX4_findCheapest_117 : decode cX4_findCheapest 117 = .ok (.iload 6, 2) := by decide +kernel
theorem dX4_findCheapest_119 : decode cX4_findCheapest 119 = .ok (.iload 4, 2) := by decide +kernel
theorem dX4_findCheapest_121 : decode cX4_findCheapest 121 = .ok (.iastore, 1) := by decide +kernel
theorem dX4_findCheapest_122 : decode cX4_findCheapest 122 = .ok (.return_, 1) := by decide +kernel
theorem dX4_costOf_0 : decode cX4_costOf 0 = .ok (.iload_n 1, 1) := by decide +kernel
theorem dX4_costOf_1 : decode cX4_costOf 1 = .ok (.iload_n 2, 1) := by decide +kernel
theorem dX4_costOf_2 : decode cX4_costOf 2 = .ok (.invokestatic 42, 3) := by decide +kernel
theorem dX4_costOf_5 : decode cX4_costOf 5 = .ok (.istore_n 3, 1) := by decide +kernel
theorem dX4_costOf_6 : decode cX4_costOf 6 = .ok (.iload_n 3, 1) := by decide +kernel
theorem dX4_costOf_7 : decode cX4_costOf 7 = .ok (.iconst (-1), 1) := by decide +kernel
theorem dX4_costOf_8 : decode cX4_costOf 8 = .ok (.if_icmp .ne 7, 3) := by decide +kernel
theorem dX4_costOf_11 : decode cX4_costOf 11 = .ok (.iconst 0, 1) := by decide +kernel
theorem dX4_costOf_12 : decode cX4_costOf 12 = .ok (.goto 9, 3) := by decide +kernel
theorem dX4_costOf_15 : decode cX4_costOf 15 = .ok (.aload_n 0, 1) := by decide +kernel
theorem dX4_costOf_16 : decode cX4_costOf 16 = .ok (.getfield 9, 3) := by decide +kernel
theorem dX4_costOf_19 : decode cX4_costOf 19 = .ok (.iload_n 3, 1) := by decide +kernel
theorem dX4_costOf_20 : decode cX4_costOf 20 = .ok (.iaload, 1) := by decide +kernel
theorem dX4_costOf_21 : decode cX4_costOf 21 = .ok (.ireturn, 1) := by decide +kernel
theorem dX4_place_0 : decode cX4_place 0 = .ok (.iload_n 0, 1) := by decide +kernel
theorem dX4_place_1 : decode cX4_place 1 = .ok (.ifCond .lt 23, 3) := by decide +kernel
theorem dX4_place_4 : decode cX4_place 4 = .ok (.iload_n 0, 1) := by decide +kernel
theorem dX4_place_5 : decode cX4_place 5 = .ok (.bipush 24, 2) := by decide +kernel
theorem dX4_place_7 : decode cX4_place 7 = .ok (.if_icmp .ge 17, 3) := by decide +kernel
theorem dX4_place_10 : decode cX4_place 10 = .ok (.iload_n 1, 1) := by decide +kernel
theorem dX4_place_11 : decode cX4_place 11 = .ok (.ifCond .lt 13, 3) := by decide +kernel
theorem dX4_place_14 : decode cX4_place 14 = .ok (.iload_n 1, 1) := by decide +kernel
theorem dX4_place_15 : decode cX4_place 15 = .ok (.bipush 24, 2) := by decide +kernel
theorem dX4_place_17 : decode cX4_place 17 = .ok (.if_icmp .ge 7, 3) := by decide +kernel
theorem dX4_place_20 : decode cX4_place 20 = .ok (.iconst 1, 1) := by decide +kernel
theorem dX4_place_21 : decode cX4_place 21 = .ok (.goto 4, 3) := by decide +kernel
theorem dX4_place_24 : decode cX4_place 24 = .ok (.iconst 0, 1) := by decide +kernel
theorem dX4_place_25 : decode cX4_place 25 = .ok (.istore_n 2, 1) := by decide +kernel
theorem dX4_place_26 : decode cX4_place 26 = .ok (.iload_n 2, 1) := by decide +kernel
theorem dX4_place_27 : decode cX4_place 27 = .ok (.ifCond .eq 12, 3) := by decide +kernel
theorem dX4_place_30 : decode cX4_place 30 = .ok (.iload_n 0, 1) := by decide +kernel
theorem dX4_place_31 : decode cX4_place 31 = .ok (.bipush 24, 2) := by decide +kernel
theorem dX4_place_33 : decode cX4_place 33 = .ok (.imul, 1) := by decide +kernel
theorem dX4_place_34 : decode cX4_place 34 = .ok (.iload_n 1, 1) := by decide +kernel
theorem dX4_place_35 : decode cX4_place 35 = .ok (.iadd, 1) := by decide +kernel
theorem dX4_place_36 : decode cX4_place 36 = .ok (.goto 4, 3) := by decide +kernel
theorem dX4_place_39 : decode cX4_place 39 = .ok (.iconst (-1), 1) := by decide +kernel
theorem dX4_place_40 : decode cX4_place 40 = .ok (.ireturn, 1) := by decide +kernel
theorem dX5_init_0 : decode cX5_init 0 = .ok (.aload_n 0, 1) := by decide +kernel
theorem dX5_init_1 : decode cX5_init 1 = .ok (.invokespecial 3, 3) := by decide +kernel
theorem dX5_init_4 : decode cX5_init 4 = .ok (.aload_n 0, 1) := by decide +kernel
theorem dX5_init_5 : decode cX5_init 5 = .ok (.new 9, 3) := by decide +kernel
theorem dX5_init_8 : decode cX5_init 8 = .ok (.dup, 1) := by decide +kernel
theorem dX5_init_9 : decode cX5_init 9 = .ok (.invokespecial 11, 3) := by decide +kernel
theorem dX5_init_12 : decode cX5_init 12 = .ok (.putfield 12, 3) := by decide +kernel
theorem dX5_init_15 : decode cX5_init 15 = .ok (.aload_n 0, 1) := by decide +kernel
theorem dX5_init_16 : decode cX5_init 16 = .ok (.new 9, 3) := by decide +kernel
theorem dX5_init_19 : decode cX5_init 19 = .ok (.dup, 1) := by decide +kernel
theorem dX5_init_20 : decode cX5_init 20 = .ok (.invokespecial 11, 3) := by decide +kernel
theorem dX5_init_23 : decode cX5_init 23 = .ok (.putfield 16, 3) := by decide +kernel
theorem dX5_init_26 : decode cX5_init 26 = .ok (.aload_n 0, 1) := by decide +kernel
theorem dX5_init_27 : decode cX5_init 27 = .ok (.new 19, 3) := by decide +kernel
theorem dX5_init_30 : decode cX5_init 30 = .ok (.dup, 1) := by decide +kernel
theorem dX5_init_31 : decode cX5_init 31 = .ok (.aload_n 0, 1) := by decide +kernel
theorem dX5_init_32 : decode cX5_init 32 = .ok (.getfield 16, 3) := by decide +kernel
theorem dX5_init_35 : decode cX5_init 35 = .ok (.invokespecial 21, 3) := by decide +kernel
theorem dX5_init_38 : decode cX5_init 38 = .ok (.putfield 24, 3) := by decide +kernel
theorem dX5_init_41 : decode cX5_init 41 = .ok (.aload_n 0, 1) := by decide +kernel
theorem dX5_init_42 : decode cX5_init 42 = .ok (.new 28, 3) := by decide +kernel
theorem dX5_init_45 : decode cX5_init 45 = .ok (.dup, 1) := by decide +kernel
theorem dX5_init_46 : decode cX5_init 46 = .ok (.aload_n 0, 1) := by decide +kernel
theorem dX5_init_47 : decode cX5_init 47 = .ok (.getfield 24, 3) := by decide +kernel
theorem dX5_init_50 : decode cX5_init 50 = .ok (.invokespecial 30, 3) := by decide +kernel
theorem dX5_init_53 : decode cX5_init 53 = .ok (.putfield 33, 3) := by decide +kernel
theorem dX5_init_56 : decode cX5_init 56 = .ok (.aload_n 0, 1) := by decide +kernel
theorem dX5_init_57 : decode cX5_init 57 = .ok (.new 37, 3) := by decide +kernel
theorem dX5_init_60 : decode cX5_init 60 = .ok (.dup, 1) := by decide +kernel
theorem dX5_init_61 : decode cX5_init 61 = .ok (.aload_n 0, 1) := by decide +kernel
theorem dX5_init_62 : decode cX5_init 62 = .ok (.getfield 16, 3) := by decide +kernel
theorem dX5_init_65 : decode cX5_init 65 = .ok (.aload_n 0, 1) := by decide +kernel
theorem dX5_init_66 : decode cX5_init 66 = .ok (.getfield 24, 3) := by decide +kernel
theorem dX5_init_69 : decode cX5_init 69 = .ok (.aload_n 0, 1) := by decide +kernel
theorem dX5_init_70 : decode cX5_init 70 = .ok (.getfield 33, 3) := by decide +kernel
theorem dX5_init_73 : decode cX5_init 73 = .ok (.invokespecial 39, 3) := by decide +kernel
theorem dX5_init_76 : decode cX5_init 76 = .ok (.putfield 42, 3) := by decide +kernel
theorem dX5_init_79 : decode cX5_init 79 = .ok (.aload_n 0, 1) := by decide +kernel
theorem dX5_init_80 : decode cX5_init 80 = .ok (.new 46, 3) := by decide +kernel
theorem dX5_init_83 : decode cX5_init 83 = .ok (.dup, 1) := by decide +kernel
theorem dX5_init_84 : decode cX5_init 84 = .ok (.invokespecial 48, 3) := by decide +kernel
theorem dX5_init_87 : decode cX5_init 87 = .ok (.putfield 49, 3) := by decide +kernel
theorem dX5_init_90 : decode cX5_init 90 = .ok (.aload_n 0, 1) := by decide +kernel
theorem dX5_init_91 : decode cX5_init 91 = .ok (.iconst 0, 1) := by decide +kernel
theorem dX5_init_92 : decode cX5_init 92 = .ok (.putfield 53, 3) := by decide +kernel
theorem dX5_init_95 : decode cX5_init 95 = .ok (.aload_n 0, 1) := by decide +kernel
theorem dX5_init_96 : decode cX5_init 96 = .ok (.iconst 0, 1) := by decide +kernel
theorem dX5_init_97 : decode cX5_init 97 = .ok (.putfield 57, 3) := by decide +kernel
theorem dX5_init_100 : decode cX5_init 100 = .ok (.aload_n 0, 1) := by decide +kernel
theorem dX5_init_101 : decode cX5_init 101 = .ok (.bipush 40, 2) := by decide +kernel
theorem dX5_init_103 : decode cX5_init 103 = .ok (.putfield 60, 3) := by decide +kernel
theorem dX5_init_106 : decode cX5_init 106 = .ok (.aload_n 0, 1) := by decide +kernel
theorem dX5_init_107 : decode cX5_init 107 = .ok (.bipush 64, 2) := by decide +kernel
theorem dX5_init_109 : decode cX5_init 109 = .ok (.putfield 63, 3) := by decide +kernel
theorem dX5_init_112 : decode cX5_init 112 = .ok (.aload_n 0, 1) := by decide +kernel
theorem dX5_init_113 : decode cX5_init 113 = .ok (.iconst 0, 1) := by decide +kernel
theorem dX5_init_114 : decode cX5_init 114 = .ok (.putfield 66, 3) := by decide +kernel
theorem dX5_init_117 : decode cX5_init 117 = .ok (.aload_n 0, 1) := by decide +kernel
theorem dX5_init_118 : decode cX5_init 118 = .ok (.iconst (-1), 1) := by decide +kernel
theorem dX5_init_119 : decode cX5_init 119 = .ok (.putfield 69, 3) := by decide +kernel
theorem dX5_init_122 : decode cX5_init 122 = .ok (.aload_n 0, 1) := by decide +kernel
theorem dX5_init_123 : decode cX5_init 123 = .ok (.iconst 1, 1) := by decide +kernel
theorem dX5_init_124 : decode cX5_init 124 = .ok (.putfield 72, 3) := by decide +kernel
theorem dX5_init_127 : decode cX5_init 127 = .ok (.return_, 1) := by decide +kernel
theorem dX5_add_0 : decode cX5_add 0 = .ok (.iload_n 1, 1) := by decide +kernel
theorem dX5_add_1 : decode cX5_add 1 = .ok (.iload_n 2, 1) := by decide +kernel
theorem dX5_add_2 : decode cX5_add 2 = .ok (.if_icmp .gt 18, 3) := by decide +kernel
theorem dX5_add_5 : decode cX5_add 5 = .ok (.iload_n 3, 1) := by decide +kernel
theorem dX5_add_6 : decode cX5_add 6 = .ok (.invokestatic 76, 3) := by decide +kernel
theorem dX5_add_9 : decode cX5_add 9 = .ok (.ifCond .eq 11, 3) := by decide +kernel
theorem dX5_add_12 : decode cX5_add 12 = .ok (.iload 4, 2) := by decide +kernel
theorem dX5_add_14 : decode cX5_add 14 = .ok (.invokestatic 80, 3) := by decide +kernel
theorem dX5_add_17 : decode cX5_add 17 = .ok (.ifCond .ne 6, 3) := by decide +kernel
theorem dX5_add_20 : decode cX5_add 20 = .ok (.bipush (-102), 2) := by decide +kernel
theorem dX5_add_22 : decode cX5_add 22 = .ok (.ireturn, 1) := by decide +kernel
theorem dX5_add_23 : decode cX5_add 23 = .ok (.aload_n 0, 1) := by decide +kernel
theorem dX5_add_24 : decode cX5_add 24 = .ok (.getfield 12, 3) := by decide +kernel
theorem dX5_add_27 : decode cX5_add 27 = .ok (.iload_n 1, 1) := by decide +kernel
theorem dX5_add_28 : decode cX5_add 28 = .ok (.iload_n 2, 1) := by decide +kernel
theorem dX5_add_29 : decode cX5_add 29 = .ok (.invokevirtual 83, 3) := by decide +kernel
theorem dX5_add_32 : decode cX5_add 32 = .ok (.istore 5, 2) := by decide +kernel
theorem dX5_add_34 : decode cX5_add 34 = .ok (.iload 5, 2) := by decide +kernel
theorem dX5_add_36 : decode cX5_add 36 = .ok (.iconst (-1), 1) := by decide +kernel
theorem dX5_add_37 : decode cX5_add 37 = .ok (.if_icmp .eq 12, 3) := by decide +kernel
theorem dX5_add_40 : decode cX5_add 40 = .ok (.aload_n 0, 1) := by decide +kernel
theorem dX5_add_41 : decode cX5_add 41 = .ok (.iload 5, 2) := by decide +kernel
theorem dX5_add_43 : decode cX5_add 43 = .ok (.putfield 69, 3) := by decide +kernel
theorem dX5_add_46 : decode cX5_add 46 = .ok (.bipush (-103), 2) := by decide +kernel
theorem dX5_add_48 : decode cX5_add 48 = .ok (.ireturn, 1) := by decide +kernel
theorem dX5_add_49 : decode cX5_add 49 = .ok (.aload_n 0, 1) := by decide +kernel
theorem dX5_add_50 : decode cX5_add 50 = .ok (.getfield 12, 3) := by decide +kernel
theorem dX5_add_53 : decode cX5_add 53 = .ok (.invokevirtual 87, 3) := by decide +kernel
theorem dX5_add_56 : decode cX5_add 56 = .ok (.istore 6, 2) := by decide +kernel
theorem dX5_add_58 : decode cX5_add 58 = .ok (.iload 6, 2) := by decide +kernel
theorem dX5_add_60 : decode cX5_add 60 = .ok (.iconst (-1), 1) := by decide +kernel
theorem dX5_add_61 : decode cX5_add 61 = .ok (.if_icmp .ne 6, 3) := by decide +kernel
theorem dX5_add_64 : decode cX5_add 64 = .ok (.bipush (-104), 2) := by decide +kernel
theorem dX5_add_66 : decode cX5_add 66 = .ok (.ireturn, 1) := by decide +kernel
theorem dX5_add_67 : decode cX5_add 67 = .ok (.aload_n 0, 1) := by decide +kernel
theorem dX5_add_68 : decode cX5_add 68 = .ok (.getfield 12, 3) := by decide +kernel
theorem dX5_add_71 : decode cX5_add 71 = .ok (.iload 6, 2) := by decide +kernel
theorem dX5_add_73 : decode cX5_add 73 = .ok (.iload_n 1, 1) := by decide +kernel
theorem dX5_add_74 : decode cX5_add 74 = .ok (.iload_n 2, 1) := by decide +kernel
theorem dX5_add_75 : decode cX5_add 75 = .ok (.iload_n 3, 1) := by decide +kernel
theorem dX5_add_76 : decode cX5_add 76 = .ok (.iload 4, 2) := by decide +kernel
theorem dX5_add_78 : decode cX5_add 78 = .ok (.invokevirtual 91, 3) := by decide +kernel
theorem dX5_add_81 : decode cX5_add 81 = .ok (.aload_n 0, 1) := by decide +kernel
theorem dX5_add_82 : decode cX5_add 82 = .ok (.iconst 1, 1) := by decide +kernel
theorem dX5_add_83 : decode cX5_add 83 = .ok (.putfield 72, 3) := by decide +kernel
theorem dX5_add_86 : decode cX5_add 86 = .ok (.iload 6, 2) := by decide +kernel
theorem dX5_add_88 : decode cX5_add 88 = .ok (.ireturn, 1) := by decide +kernel
theorem dX5_clash_0 : decode cX5_clash 0 = .ok (.aload_n 0, 1) := by decide +kernel
theorem dX5_clash_1 : decode cX5_clash 1 = .ok (.getfield 69, 3) := by decide +kernel
theorem dX5_clash_4 : decode cX5_clash 4 = .ok (.ireturn, 1) := by decide +kernel
theorem dX5_drop_0 : decode cX5_drop 0 = .ok (.aload_n 0, 1) := by decide +kernel
theorem dX5_drop_1 : decode cX5_drop 1 = .ok (.getfield 12, 3) := by decide +kernel
theorem dX5_drop_4 : decode cX5_drop 4 = .ok (.iload_n 1, 1) := by decide +kernel
theorem dX5_drop_5 : decode cX5_drop 5 = .ok (.invokevirtual 95, 3) := by decide +kernel
theorem dX5_drop_8 : decode cX5_drop 8 = .ok (.ifCond .ne 6, 3) := by decide +kernel
theorem dX5_drop_11 : decode cX5_drop 11 = .ok (.bipush (-101), 2) := by decide +kernel
theorem dX5_drop_13 : decode cX5_drop 13 = .ok (.ireturn, 1) := by decide +kernel
theorem dX5_drop_14 : decode cX5_drop 14 = .ok (.aload_n 0, 1) := by decide +kernel
theorem dX5_drop_15 : decode cX5_drop 15 = .ok (.getfield 12, 3) := by decide +kernel
theorem dX5_drop_18 : decode cX5_drop 18 = .ok (.iload_n 1, 1) := by decide +kernel
theorem dX5_drop_19 : decode cX5_drop 19 = .ok (.invokevirtual 98, 3) := by decide +kernel
theorem dX5_drop_22 : decode cX5_drop 22 = .ok (.aload_n 0, 1) := by decide +kernel
theorem dX5_drop_23 : decode cX5_drop 23 = .ok (.iconst 1, 1) := by decide +kernel
theorem dX5_drop_24 : decode cX5_drop 24 = .ok (.putfield 72, 3) := by decide +kernel
theorem dX5_drop_27 : decode cX5_drop 27 = .ok (.aload_n 0, 1) := by decide +kernel
theorem dX5_drop_28 : decode cX5_drop 28 = .ok (.getfield 12, 3) := by decide +kernel
theorem dX5_drop_31 : decode cX5_drop 31 = .ok (.invokevirtual 102, 3) := by decide +kernel
theorem dX5_drop_34 : decode cX5_drop 34 = .ok (.ireturn, 1) := by decide +kernel
theorem dX5_rest_0 : decode cX5_rest 0 = .ok (.iload_n 1, 1) := by decide +kernel
theorem dX5_rest_1 : decode cX5_rest 1 = .ok (.invokestatic 76, 3) := by decide +kernel
theorem dX5_rest_4 : decode cX5_rest 4 = .ok (.ifCond .eq 10, 3) := by decide +kernel
theorem dX5_rest_7 : decode cX5_rest 7 = .ok (.iload_n 2, 1) := by decide +kernel
theorem dX5_rest_8 : decode cX5_rest 8 = .ok (.invokestatic 80, 3) := by decide +kernel
theorem dX5_rest_11 : decode cX5_rest 11 = .ok (.ifCond .ne 6, 3) := by decide +kernel
theorem dX5_rest_14 : decode cX5_rest 14 = .ok (.bipush (-102), 2) := by decide +kernel
theorem dX5_rest_16 : decode cX5_rest 16 = .ok (.ireturn, 1) := by decide +kernel
theorem dX5_rest_17 : decode cX5_rest 17 = .ok (.aload_n 0, 1) := by decide +kernel
theorem dX5_rest_18 : decode cX5_rest 18 = .ok (.getfield 53, 3) := by decide +kernel
theorem dX5_rest_21 : decode cX5_rest 21 = .ok (.istore_n 3, 1) := by decide +kernel
theorem dX5_rest_22 : decode cX5_rest 22 = .ok (.aload_n 0, 1) := by decide +kernel
theorem dX5_rest_23 : decode cX5_rest 23 = .ok (.iload_n 1, 1) := by decide +kernel
theorem dX5_rest_24 : decode cX5_rest 24 = .ok (.putfield 53, 3) := by decide +kernel
theorem dX5_rest_27 : decode cX5_rest 27 = .ok (.aload_n 0, 1) := by decide +kernel
theorem dX5_rest_28 : decode cX5_rest 28 = .ok (.iload_n 2, 1) := by decide +kernel
theorem dX5_rest_29 : decode cX5_rest 29 = .ok (.putfield 57, 3) := by decide +kernel
theorem dX5_rest_32 : decode cX5_rest 32 = .ok (.aload_n 0, 1) := by decide +kernel
theorem dX5_rest_33 : decode cX5_rest 33 = .ok (.iconst 1, 1) := by decide +kernel
theorem dX5_rest_34 : decode cX5_rest 34 = .ok (.putfield 72, 3) := by decide +kernel
theorem dX5_rest_37 : decode cX5_rest 37 = .ok (.iload_n 3, 1) := by decide +kernel
theorem dX5_rest_38 : decode cX5_rest 38 = .ok (.ireturn, 1) := by decide +kernel
theorem dX5_tables_0 : decode cX5_tables 0 = .ok (.iload_n 1, 1) := by decide +kernel
theorem dX5_tables_1 : decode cX5_tables 1 = .ok (.iconst 1, 1) := by decide +kernel
theorem dX5_tables_2 : decode cX5_tables 2 = .ok (.bipush 100, 2) := by decide +kernel
theorem dX5_tables_4 : decode cX5_tables 4 = .ok (.invokestatic 105, 3) := by decide +kernel
theorem dX5_tables_7 : decode cX5_tables 7 = .ok (.ifCond .eq 14, 3) := by decide +kernel
theorem dX5_tables_10 : decode cX5_tables 10 = .ok (.iload_n 2, 1) := by decide +kernel
theorem dX5_tables_11 : decode cX5_tables 11 = .ok (.iconst 1, 1) := by decide +kernel
theorem dX5_tables_12 : decode cX5_tables 12 = .ok (.sipush 256, 3) := by decide +kernel
theorem dX5_tables_15 : decode cX5_tables 15 = .ok (.invokestatic 105, 3) := by decide +kernel
theorem dX5_tables_18 : decode cX5_tables 18 = .ok (.ifCond .ne 6, 3) := by decide +kernel
theorem dX5_tables_21 : decode cX5_tables 21 = .ok (.bipush (-102), 2) := by decide +kernel
theorem dX5_tables_23 : decode cX5_tables 23 = .ok (.ireturn, 1) := by decide +kernel
theorem dX5_tables_24 : decode cX5_tables 24 = .ok (.aload_n 0, 1) := by decide +kernel
theorem dX5_tables_25 : decode cX5_tables 25 = .ok (.getfield 60, 3) := by decide +kernel
theorem dX5_tables_28 : decode cX5_tables 28 = .ok (.istore_n 3, 1) := by decide +kernel
theorem dX5_tables_29 : decode cX5_tables 29 = .ok (.aload_n 0, 1) := by decide +kernel
theorem dX5_tables_30 : decode cX5_tables 30 = .ok (.iload_n 1, 1) := by decide +kernel
theorem dX5_tables_31 : decode cX5_tables 31 = .ok (.putfield 60, 3) := by decide +kernel
theorem dX5_tables_34 : decode cX5_tables 34 = .ok (.aload_n 0, 1) := by decide +kernel
theorem dX5_tables_35 : decode cX5_tables 35 = .ok (.iload_n 2, 1) := by decide +kernel
theorem dX5_tables_36 : decode cX5_tables 36 = .ok (.putfield 63, 3) := by decide +kernel
theorem dX5_tables_39 : decode cX5_tables 39 = .ok (.aload_n 0, 1) := by decide +kernel
theorem dX5_tables_40 : decode cX5_tables 40 = .ok (.iconst 1, 1) := by decide +kernel
theorem dX5_tables_41 : decode cX5_tables 41 = .ok (.putfield 72, 3) := by decide +kernel
theorem dX5_tables_44 : decode cX5_tables 44 = .ok (.iload_n 3, 1) := by decide +kernel
theorem dX5_tables_45 : decode cX5_tables 45 = .ok (.ireturn, 1) := by decide +kernel
theorem dX5_way_0 : decode cX5_way 0 = .ok (.iload_n 1, 1) := by decide +kernel
theorem dX5_way_1 : decode cX5_way 1 = .ok (.iconst 0, 1) := by decide +kernel
theorem dX5_way_2 : decode cX5_way 2 = .ok (.iconst 1, 1) := by decide +kernel
theorem dX5_way_3 : decode cX5_way 3 = .ok (.invokestatic 105, 3) := by decide +kernel
theorem dX5_way_6 : decode cX5_way 6 = .ok (.ifCond .ne 6, 3) := by decide +kernel
theorem dX5_way_9 : decode cX5_way 9 = .ok (.bipush (-102), 2) := by decide +kernel
theorem dX5_way_11 : decode cX5_way 11 = .ok (.ireturn, 1) := by decide +kernel
theorem dX5_way_12 : decode cX5_way 12 = .ok (.aload_n 0, 1) := by decide +kernel
theorem dX5_way_13 : decode cX5_way 13 = .ok (.getfield 66, 3) := by decide +kernel
theorem dX5_way_16 : decode cX5_way 16 = .ok (.istore_n 2, 1) := by decide +kernel
theorem dX5_way_17 : decode cX5_way 17 = .ok (.aload_n 0, 1) := by decide +kernel
theorem dX5_way_18 : decode cX5_way 18 = .ok (.iload_n 1, 1) := by decide +kernel
theorem dX5_way_19 : decode cX5_way 19 = .ok (.putfield 66, 3) := by decide +kernel
theorem dX5_way_22 : decode cX5_way 22 = .ok (.aload_n 0, 1) := by decide +kernel
theorem dX5_way_23 : decode cX5_way 23 = .ok (.iconst 1, 1) := by decide +kernel
theorem dX5_way_24 : decode cX5_way 24 = .ok (.putfield 72, 3) := by decide +kernel
theorem dX5_way_27 : decode cX5_way 27 = .ok (.iload_n 2, 1) := by decide +kernel
theorem dX5_way_28 : decode cX5_way 28 = .ok (.ireturn, 1) := by decide +kernel
theorem dX5_told_0 : decode cX5_told 0 = .ok (.aload_n 0, 1) := by decide +kernel
theorem dX5_told_1 : decode cX5_told 1 = .ok (.getfield 12, 3) := by decide +kernel
theorem dX5_told_4 : decode cX5_told 4 = .ok (.iload_n 1, 1) := by decide +kernel
theorem dX5_told_5 : decode cX5_told 5 = .ok (.iload_n 2, 1) := by decide +kernel
theorem dX5_told_6 : decode cX5_told 6 = .ok (.invokevirtual 109, 3) := by decide +kernel
theorem dX5_told_9 : decode cX5_told 9 = .ok (.ireturn, 1) := by decide +kernel
theorem dX5_count_0 : decode cX5_count 0 = .ok (.aload_n 0, 1) := by decide +kernel
theorem dX5_count_1 : decode cX5_count 1 = .ok (.invokevirtual 112, 3) := by decide +kernel
theorem dX5_count_4 : decode cX5_count 4 = .ok (.iload_n 1, 1) := by decide +kernel
theorem dX5_count_5 : decode cX5_count 5 = .ok (.tableswitch 114 0 7 #[47, 55, 63, 71, 85, 93, 101, 109], 47) := by decide +kernel
theorem dX5_count_52 : decode cX5_count 52 = .ok (.aload_n 0, 1) := by decide +kernel
theorem dX5_count_53 : decode cX5_count 53 = .ok (.getfield 12, 3) := by decide +kernel
theorem dX5_count_56 : decode cX5_count 56 = .ok (.invokevirtual 102, 3) := by decide +kernel
theorem dX5_count_59 : decode cX5_count 59 = .ok (.ireturn, 1) := by decide +kernel
theorem dX5_count_60 : decode cX5_count 60 = .ok (.aload_n 0, 1) := by decide +kernel
theorem dX5_count_61 : decode cX5_count 61 = .ok (.getfield 16, 3) := by decide +kernel
theorem dX5_count_64 : decode cX5_count 64 = .ok (.invokevirtual 102, 3) := by decide +kernel
theorem dX5_count_67 : decode cX5_count 67 = .ok (.ireturn, 1) := by decide +kernel
theorem dX5_count_68 : decode cX5_count 68 = .ok (.aload_n 0, 1) := by decide +kernel
theorem dX5_count_69 : decode cX5_count 69 = .ok (.getfield 24, 3) := by decide +kernel
theorem dX5_count_72 : decode cX5_count 72 = .ok (.invokevirtual 115, 3) := by decide +kernel
theorem dX5_count_75 : decode cX5_count 75 = .ok (.ireturn, 1) := by decide +kernel
theorem dX5_count_76 : decode cX5_count 76 = .ok (.iconst 0, 1) := by decide +kernel
theorem dX5_count_77 : decode cX5_count 77 = .ok (.aload_n 0, 1) := by decide +kernel
theorem dX5_count_78 : decode cX5_count 78 = .ok (.getfield 24, 3) := by decide +kernel
theorem dX5_count_81 : decode cX5_count 81 = .ok (.invokevirtual 115, 3) := by decide +kernel
theorem dX5_count_84 : decode cX5_count 84 = .ok (.iconst 1, 1) := by decide +kernel
theorem dX5_count_85 : decode cX5_count 85 = .ok (.isub, 1) := by decide +kernel
theorem dX5_count_86 : decode cX5_count 86 = .ok (.invokestatic 116, 3) := by decide +kernel
theorem dX5_count_89 : decode cX5_count 89 = .ok (.ireturn, 1) := by decide +kernel
theorem dX5_count_90 : decode cX5_count 90 = .ok (.aload_n 0, 1) := by decide +kernel
theorem dX5_count_91 : decode cX5_count 91 = .ok (.getfield 42, 3) := by decide +kernel
theorem dX5_count_94 : decode cX5_count 94 = .ok (.invokevirtual 121, 3) := by decide +kernel
theorem dX5_count_97 : decode cX5_count 97 = .ok (.ireturn, 1) := by decide +kernel
theorem dX5_count_98 : decode cX5_count 98 = .ok (.aload_n 0, 1) := by decide +kernel
theorem dX5_count_99 : decode cX5_count 99 = .ok (.getfield 42, 3) := by decide +kernel
theorem dX5_count_102 : decode cX5_count 102 = .ok (.invokevirtual 124, 3) := by decide +kernel
theorem dX5_count_105 : decode cX5_count 105 = .ok (.ireturn, 1) := by decide +kernel
theorem dX5_count_106 : decode cX5_count 106 = .ok (.aload_n 0, 1) := by decide +kernel
theorem dX5_count_107 : decode cX5_count 107 = .ok (.getfield 49, 3) := by decide +kernel
theorem dX5_count_110 : decode cX5_count 110 = .ok (.invokevirtual 127, 3) := by decide +kernel
theorem dX5_count_113 : decode cX5_count 113 = .ok (.ireturn, 1) := by decide +kernel
theorem dX5_count_114 : decode cX5_count 114 = .ok (.aload_n 0, 1) := by decide +kernel
theorem dX5_count_115 : decode cX5_count 115 = .ok (.invokevirtual 128, 3) := by decide +kernel
theorem dX5_count_118 : decode cX5_count 118 = .ok (.ireturn, 1) := by decide +kernel
theorem dX5_count_119 : decode cX5_count 119 = .ok (.bipush (-102), 2) := by decide +kernel
theorem dX5_count_121 : decode cX5_count 121 = .ok (.ireturn, 1) := by decide +kernel
theorem dX5_run_0 : decode cX5_run 0 = .ok (.aload_n 0, 1) := by decide +kernel
theorem dX5_run_1 : decode cX5_run 1 = .ok (.invokevirtual 112, 3) := by decide +kernel
theorem dX5_run_4 : decode cX5_run 4 = .ok (.aload_n 0, 1) := by decide +kernel
theorem dX5_run_5 : decode cX5_run 5 = .ok (.getfield 16, 3) := by decide +kernel
theorem dX5_run_8 : decode cX5_run 8 = .ok (.iload_n 1, 1) := by decide +kernel
theorem dX5_run_9 : decode cX5_run 9 = .ok (.iload_n 2, 1) := by decide +kernel
theorem dX5_run_10 : decode cX5_run 10 = .ok (.invokevirtual 109, 3) := by decide +kernel
theorem dX5_run_13 : decode cX5_run 13 = .ok (.ireturn, 1) := by decide +kernel
theorem dX5_cluster_0 : decode cX5_cluster 0 = .ok (.aload_n 0, 1) := by decide +kernel
theorem dX5_cluster_1 : decode cX5_cluster 1 = .ok (.invokevirtual 112, 3) := by decide +kernel
theorem dX5_cluster_4 : decode cX5_cluster 4 = .ok (.aload_n 0, 1) := by decide +kernel
theorem dX5_cluster_5 : decode cX5_cluster 5 = .ok (.getfield 24, 3) := by decide +kernel
theorem dX5_cluster_8 : decode cX5_cluster 8 = .ok (.iload_n 1, 1) := by decide +kernel
theorem dX5_cluster_9 : decode cX5_cluster 9 = .ok (.invokevirtual 131, 3) := by decide +kernel
theorem dX5_cluster_12 : decode cX5_cluster 12 = .ok (.ifCond .ne 6, 3) := by decide +kernel
theorem dX5_cluster_15 : decode cX5_cluster 15 = .ok (.bipush (-101), 2) := by decide +kernel
theorem dX5_cluster_17 : decode cX5_cluster 17 = .ok (.ireturn, 1) := by decide +kernel
theorem dX5_cluster_18 : decode cX5_cluster 18 = .ok (.iload_n 2, 1) := by decide +kernel
theorem dX5_cluster_19 : decode cX5_cluster 19 = .ok (.tableswitch 78 0 4 #[33, 42, 51, 60, 69], 33) := by decide +kernel
theorem dX5_cluster_52 : decode cX5_cluster 52 = .ok (.aload_n 0, 1) := by decide +kernel
theorem dX5_cluster_53 : decode cX5_cluster 53 = .ok (.getfield 24, 3) := by decide +kernel
theorem dX5_cluster_56 : decode cX5_cluster 56 = .ok (.iload_n 1, 1) := by decide +kernel
theorem dX5_cluster_57 : decode cX5_cluster 57 = .ok (.invokevirtual 132, 3) := by decide +kernel
theorem dX5_cluster_60 : decode cX5_cluster 60 = .ok (.ireturn, 1) := by decide +kernel
theorem dX5_cluster_61 : decode cX5_cluster 61 = .ok (.aload_n 0, 1) := by decide +kernel
theorem dX5_cluster_62 : decode cX5_cluster 62 = .ok (.getfield 24, 3) := by decide +kernel
theorem dX5_cluster_65 : decode cX5_cluster 65 = .ok (.iload_n 1, 1) := by decide +kernel
theorem dX5_cluster_66 : decode cX5_cluster 66 = .ok (.invokevirtual 136, 3) := by decide +kernel
theorem dX5_cluster_69 : decode cX5_cluster 69 = .ok (.ireturn, 1) := by decide +kernel
theorem dX5_cluster_70 : decode cX5_cluster 70 = .ok (.aload_n 0, 1) := by decide +kernel
theorem dX5_cluster_71 : decode cX5_cluster 71 = .ok (.getfield 24, 3) := by decide +kernel
theorem dX5_cluster_74 : decode cX5_cluster 74 = .ok (.iload_n 1, 1) := by decide +kernel
theorem dX5_cluster_75 : decode cX5_cluster 75 = .ok (.invokevirtual 139, 3) := by decide +kernel
theorem dX5_cluster_78 : decode cX5_cluster 78 = .ok (.ireturn, 1) := by decide +kernel
theorem dX5_cluster_79 : decode cX5_cluster 79 = .ok (.aload_n 0, 1) := by decide +kernel
theorem dX5_cluster_80 : decode cX5_cluster 80 = .ok (.getfield 24, 3) := by decide +kernel
theorem dX5_cluster_83 : decode cX5_cluster 83 = .ok (.iload_n 1, 1) := by decide +kernel
theorem dX5_cluster_84 : decode cX5_cluster 84 = .ok (.invokevirtual 142, 3) := by decide +kernel
theorem dX5_cluster_87 : decode cX5_cluster 87 = .ok (.ireturn, 1) := by decide +kernel
theorem dX5_cluster_88 : decode cX5_cluster 88 = .ok (.aload_n 0, 1) := by decide +kernel
theorem dX5_cluster_89 : decode cX5_cluster 89 = .ok (.getfield 33, 3) := by decide +kernel
theorem dX5_cluster_92 : decode cX5_cluster 92 = .ok (.iload_n 1, 1) := by decide +kernel
theorem dX5_cluster_93 : decode cX5_cluster 93 = .ok (.invokevirtual 145, 3) := by decide +kernel
theorem dX5_cluster_96 : decode cX5_cluster 96 = .ok (.ireturn, 1) := by decide +kernel
theorem dX5_cluster_97 : decode cX5_cluster 97 = .ok (.bipush (-102), 2) := by decide +kernel
theorem dX5_cluster_99 : decode cX5_cluster 99 = .ok (.ireturn, 1) := by decide +kernel
theorem dX5_cost_0 : decode cX5_cost 0 = .ok (.aload_n 0, 1) := by decide +kernel
theorem dX5_cost_1 : decode cX5_cost 1 = .ok (.invokevirtual 112, 3) := by decide +kernel
theorem dX5_cost_4 : decode cX5_cost 4 = .ok (.iconst 0, 1) := by decide +kernel
theorem dX5_cost_5 : decode cX5_cost 5 = .ok (.istore_n 1, 1) := by decide +kernel
theorem dX5_cost_6 : decode cX5_cost 6 = .ok (.iconst 0, 1) := by decide +kernel
theorem dX5_cost_7 : decode cX5_cost 7 = .ok (.istore_n 2, 1) := by decide +kernel
theorem dX5_cost_8 : decode cX5_cost 8 = .ok (.iload_n 2, 1) := by decide +kernel
theorem dX5_cost_9 : decode cX5_cost 9 = .ok (.aload_n 0, 1) := by decide +kernel
theorem dX5_cost_10 : decode cX5_cost 10 = .ok (.getfield 24, 3) := by decide +kernel
theorem dX5_cost_13 : decode cX5_cost 13 = .ok (.invokevirtual 115, 3) := by decide +kernel
theorem dX5_cost_16 : decode cX5_cost 16 = .ok (.if_icmp .ge 31, 3) := by decide +kernel
theorem dX5_cost_19 : decode cX5_cost 19 = .ok (.iload_n 1, 1) := by decide +kernel
theorem dX5_cost_20 : decode cX5_cost 20 = .ok (.aload_n 0, 1) := by decide +kernel
theorem dX5_cost_21 : decode cX5_cost 21 = .ok (.getfield 24, 3) := by decide +kernel
theorem dX5_cost_24 : decode cX5_cost 24 = .ok (.iload_n 2, 1) := by decide +kernel
theorem dX5_cost_25 : decode cX5_cost 25 = .ok (.invokevirtual 142, 3) := by decide +kernel
theorem dX5_cost_28 : decode cX5_cost 28 = .ok (.iconst 1, 1) := by decide +kernel
theorem dX5_cost_29 : decode cX5_cost 29 = .ok (.iadd, 1) := by decide +kernel
theorem dX5_cost_30 : decode cX5_cost 30 = .ok (.aload_n 0, 1) := by decide +kernel
theorem dX5_cost_31 : decode cX5_cost 31 = .ok (.getfield 33, 3) := by decide +kernel
theorem dX5_cost_34 : decode cX5_cost 34 = .ok (.iload_n 2, 1) := by decide +kernel
theorem dX5_cost_35 : decode cX5_cost 35 = .ok (.invokevirtual 145, 3) := by decide +kernel
theorem dX5_cost_38 : decode cX5_cost 38 = .ok (.imul, 1) := by decide +kernel
theorem dX5_cost_39 : decode cX5_cost 39 = .ok (.iadd, 1) := by decide +kernel
theorem dX5_cost_40 : decode cX5_cost 40 = .ok (.istore_n 1, 1) := by decide +kernel
theorem dX5_cost_41 : decode cX5_cost 41 = .ok (.iinc 2 1, 3) := by decide +kernel
theorem dX5_cost_44 : decode cX5_cost 44 = .ok (.goto (-36), 3) := by decide +kernel
theorem dX5_cost_47 : decode cX5_cost 47 = .ok (.iload_n 1, 1) := by decide +kernel
theorem dX5_cost_48 : decode cX5_cost 48 = .ok (.ireturn, 1) := by decide +kernel
theorem dX5_line_0 : decode cX5_line 0 = .ok (.aload_n 0, 1) := by decide +kernel
theorem dX5_line_1 : decode cX5_line 1 = .ok (.invokevirtual 112, 3) := by decide +kernel
theorem dX5_line_4 : decode cX5_line 4 = .ok (.aload_n 0, 1) := by decide +kernel
theorem dX5_line_5 : decode cX5_line 5 = .ok (.getfield 42, 3) := by decide +kernel
theorem dX5_line_8 : decode cX5_line 8 = .ok (.iload_n 1, 1) := by decide +kernel
theorem dX5_line_9 : decode cX5_line 9 = .ok (.invokevirtual 148, 3) := by decide +kernel
theorem dX5_line_12 : decode cX5_line 12 = .ok (.ifCond .ne 6, 3) := by decide +kernel
theorem dX5_line_15 : decode cX5_line 15 = .ok (.bipush (-101), 2) := by decide +kernel
theorem dX5_line_17 : decode cX5_line 17 = .ok (.ireturn, 1) := by decide +kernel
theorem dX5_line_18 : decode cX5_line 18 = .ok (.iload_n 2, 1) := by decide +kernel
theorem dX5_line_19 : decode cX5_line 19 = .ok (.tableswitch 52 0 2 #[25, 34, 43], 25) := by decide +kernel
theorem dX5_line_44 : decode cX5_line 44 = .ok (.aload_n 0, 1) := by decide +kernel
theorem dX5_line_45 : decode cX5_line 45 = .ok (.getfield 42, 3) := by decide +kernel
theorem dX5_line_48 : decode cX5_line 48 = .ok (.iload_n 1, 1) := by decide +kernel
theorem dX5_line_49 : decode cX5_line 49 = .ok (.invokevirtual 149, 3) := by decide +kernel
theorem dX5_line_52 : decode cX5_line 52 = .ok (.ireturn, 1) := by decide +kernel
theorem dX5_line_53 : decode cX5_line 53 = .ok (.aload_n 0, 1) := by decide +kernel
theorem dX5_line_54 : decode cX5_line 54 = .ok (.getfield 42, 3) := by decide +kernel
theorem dX5_line_57 : decode cX5_line 57 = .ok (.iload_n 1, 1) := by decide +kernel
theorem dX5_line_58 : decode cX5_line 58 = .ok (.invokevirtual 150, 3) := by decide +kernel
theorem dX5_line_61 : decode cX5_line 61 = .ok (.ireturn, 1) := by decide +kernel
theorem dX5_line_62 : decode cX5_line 62 = .ok (.aload_n 0, 1) := by decide +kernel
theorem dX5_line_63 : decode cX5_line 63 = .ok (.getfield 42, 3) := by decide +kernel
theorem dX5_line_66 : decode cX5_line 66 = .ok (.iload_n 1, 1) := by decide +kernel
theorem dX5_line_67 : decode cX5_line 67 = .ok (.invokevirtual 153, 3) := by decide +kernel
theorem dX5_line_70 : decode cX5_line 70 = .ok (.ireturn, 1) := by decide +kernel
theorem dX5_line_71 : decode cX5_line 71 = .ok (.bipush (-102), 2) := by decide +kernel
theorem dX5_line_73 : decode cX5_line 73 = .ok (.ireturn, 1) := by decide +kernel
theorem dX5_bits_0 : decode cX5_bits 0 = .ok (.aload_n 0, 1) := by decide +kernel
theorem dX5_bits_1 : decode cX5_bits 1 = .ok (.invokevirtual 112, 3) := by decide +kernel
theorem dX5_bits_4 : decode cX5_bits 4 = .ok (.aload_n 0, 1) := by decide +kernel
theorem dX5_bits_5 : decode cX5_bits 5 = .ok (.getfield 42, 3) := by decide +kernel
theorem dX5_bits_8 : decode cX5_bits 8 = .ok (.iload_n 1, 1) := by decide +kernel
theorem dX5_bits_9 : decode cX5_bits 9 = .ok (.invokevirtual 148, 3) := by decide +kernel
theorem dX5_bits_12 : decode cX5_bits 12 = .ok (.ifCond .eq 14, 3) := by decide +kernel
theorem dX5_bits_15 : decode cX5_bits 15 = .ok (.aload_n 0, 1) := by decide +kernel
theorem dX5_bits_16 : decode cX5_bits 16 = .ok (.getfield 42, 3) := by decide +kernel
theorem dX5_bits_19 : decode cX5_bits 19 = .ok (.iload_n 1, 1) := by decide +kernel
theorem dX5_bits_20 : decode cX5_bits 20 = .ok (.invokevirtual 156, 3) := by decide +kernel
theorem dX5_bits_23 : decode cX5_bits 23 = .ok (.goto 6, 3) := by decide +kernel
theorem dX5_bits_26 : decode cX5_bits 26 = .ok (.ldc2_w 160, 3) := by decide +kernel
theorem dX5_bits_29 : decode cX5_bits 29 = .ok (.lreturn, 1) := by decide +kernel
theorem dX5_entry_0 : decode cX5_entry 0 = .ok (.aload_n 0, 1) := by decide +kernel
theorem dX5_entry_1 : decode cX5_entry 1 = .ok (.invokevirtual 112, 3) := by decide +kernel
theorem dX5_entry_4 : decode cX5_entry 4 = .ok (.aload_n 0, 1) := by decide +kernel
theorem dX5_entry_5 : decode cX5_entry 5 = .ok (.getfield 42, 3) := by decide +kernel
theorem dX5_entry_8 : decode cX5_entry 8 = .ok (.iload_n 1, 1) := by decide +kernel
theorem dX5_entry_9 : decode cX5_entry 9 = .ok (.invokevirtual 148, 3) := by decide +kernel
theorem dX5_entry_12 : decode cX5_entry 12 = .ok (.ifCond .eq 16, 3) := by decide +kernel
theorem dX5_entry_15 : decode cX5_entry 15 = .ok (.aload_n 0, 1) := by decide +kernel
theorem dX5_entry_16 : decode cX5_entry 16 = .ok (.getfield 42, 3) := by decide +kernel
theorem dX5_entry_19 : decode cX5_entry 19 = .ok (.iload_n 1, 1) := by decide +kernel
theorem dX5_entry_20 : decode cX5_entry 20 = .ok (.iload_n 2, 1) := by decide +kernel
theorem dX5_entry_21 : decode cX5_entry 21 = .ok (.i2l, 1) := by decide +kernel
theorem dX5_entry_22 : decode cX5_entry 22 = .ok (.invokevirtual 162, 3) := by decide +kernel
theorem dX5_entry_25 : decode cX5_entry 25 = .ok (.goto 5, 3) := by decide +kernel
theorem dX5_entry_28 : decode cX5_entry 28 = .ok (.bipush (-101), 2) := by decide +kernel
theorem dX5_entry_30 : decode cX5_entry 30 = .ok (.ireturn, 1) := by decide +kernel
theorem dX5_go_0 : decode cX5_go 0 = .ok (.aload_n 0, 1) := by decide +kernel
theorem dX5_go_1 : decode cX5_go 1 = .ok (.invokevirtual 112, 3) := by decide +kernel
theorem dX5_go_4 : decode cX5_go 4 = .ok (.aload_n 0, 1) := by decide +kernel
theorem dX5_go_5 : decode cX5_go 5 = .ok (.getfield 42, 3) := by decide +kernel
theorem dX5_go_8 : decode cX5_go 8 = .ok (.iload_n 1, 1) := by decide +kernel
theorem dX5_go_9 : decode cX5_go 9 = .ok (.invokevirtual 166, 3) := by decide +kernel
theorem dX5_go_12 : decode cX5_go 12 = .ok (.aload_n 0, 1) := by decide +kernel
theorem dX5_go_13 : decode cX5_go 13 = .ok (.getfield 42, 3) := by decide +kernel
theorem dX5_go_16 : decode cX5_go 16 = .ok (.invokevirtual 169, 3) := by decide +kernel
theorem dX5_go_19 : decode cX5_go 19 = .ok (.ireturn, 1) := by decide +kernel
theorem dX5_steps_0 : decode cX5_steps 0 = .ok (.aload_n 0, 1) := by decide +kernel
theorem dX5_steps_1 : decode cX5_steps 1 = .ok (.invokevirtual 112, 3) := by decide +kernel
theorem dX5_steps_4 : decode cX5_steps 4 = .ok (.aload_n 0, 1) := by decide +kernel
theorem dX5_steps_5 : decode cX5_steps 5 = .ok (.iload_n 1, 1) := by decide +kernel
theorem dX5_steps_6 : decode cX5_steps 6 = .ok (.invokevirtual 172, 3) := by decide +kernel
theorem dX5_steps_9 : decode cX5_steps 9 = .ok (.ireturn, 1) := by decide +kernel
theorem dX5_by_0 : decode cX5_by 0 = .ok (.aload_n 0, 1) := by decide +kernel
theorem dX5_by_1 : decode cX5_by 1 = .ok (.getfield 12, 3) := by decide +kernel
theorem dX5_by_4 : decode cX5_by 4 = .ok (.iload_n 1, 1) := by decide +kernel
theorem dX5_by_5 : decode cX5_by 5 = .ok (.iload_n 1, 1) := by decide +kernel
theorem dX5_by_6 : decode cX5_by 6 = .ok (.invokevirtual 83, 3) := by decide +kernel
theorem dX5_by_9 : decode cX5_by 9 = .ok (.istore_n 2, 1) := by decide +kernel
theorem dX5_by_10 : decode cX5_by 10 = .ok (.iload_n 2, 1) := by decide +kernel
theorem dX5_by_11 : decode cX5_by 11 = .ok (.iconst (-1), 1) := by decide +kernel
theorem dX5_by_12 : decode cX5_by 12 = .ok (.if_icmp .ne 10, 3) := by decide +kernel
theorem dX5_by_15 : decode cX5_by 15 = .ok (.aload_n 0, 1) := by decide +kernel
theorem dX5_by_16 : decode cX5_by 16 = .ok (.getfield 53, 3) := by decide +kernel
theorem dX5_by_19 : decode cX5_by 19 = .ok (.goto 11, 3) := by decide +kernel
theorem dX5_by_22 : decode cX5_by 22 = .ok (.aload_n 0, 1) := by decide +kernel
theorem dX5_by_23 : decode cX5_by 23 = .ok (.getfield 12, 3) := by decide +kernel
theorem dX5_by_26 : decode cX5_by 26 = .ok (.iload_n 2, 1) := by decide +kernel
theorem dX5_by_27 : decode cX5_by 27 = .ok (.invokevirtual 175, 3) := by decide +kernel
theorem dX5_by_30 : decode cX5_by 30 = .ok (.ireturn, 1) := by decide +kernel
theorem dX5_spent_0 : decode cX5_spent 0 = .ok (.aload_n 0, 1) := by decide +kernel
theorem dX5_spent_1 : decode cX5_spent 1 = .ok (.invokevirtual 112, 3) := by decide +kernel
theorem dX5_spent_4 : decode cX5_spent 4 = .ok (.lconst 0, 1) := by decide +kernel
theorem dX5_spent_5 : decode cX5_spent 5 = .ok (.lstore_n 1, 1) := by decide +kernel
theorem dX5_spent_6 : decode cX5_spent 6 = .ok (.iconst 0, 1) := by decide +kernel
theorem dX5_spent_7 : decode cX5_spent 7 = .ok (.istore_n 3, 1) := by decide +kernel
theorem dX5_spent_8 : decode cX5_spent 8 = .ok (.iload_n 3, 1) := by decide +kernel
theorem dX5_spent_9 : decode cX5_spent 9 = .ok (.bipush 24, 2) := by decide +kernel
theorem dX5_spent_11 : decode cX5_spent 11 = .ok (.if_icmp .ge 46, 3) := by decide +kernel
theorem dX5_spent_14 : decode cX5_spent 14 = .ok (.aload_n 0, 1) := by decide +kernel
theorem dX5_spent_15 : decode cX5_spent 15 = .ok (.getfield 12, 3) := by decide +kernel
theorem dX5_spent_18 : decode cX5_spent 18 = .ok (.iload_n 3, 1) := by decide +kernel
theorem dX5_spent_19 : decode cX5_spent 19 = .ok (.invokevirtual 95, 3) := by decide +kernel
theorem dX5_spent_22 : decode cX5_spent 22 = .ok (.ifCond .eq 29, 3) := by decide +kernel
theorem dX5_spent_25 : decode cX5_spent 25 = .ok (.lload_n 1, 1) := by decide +kernel
theorem dX5_spent_26 : decode cX5_spent 26 = .ok (.aload_n 0, 1) := by decide +kernel
theorem dX5_spent_27 : decode cX5_spent 27 = .ok (.getfield 12, 3) := by decide +kernel
theorem dX5_spent_30 : decode cX5_spent 30 = .ok (.iload_n 3, 1) := by decide +kernel
theorem dX5_spent_31 : decode cX5_spent 31 = .ok (.invokevirtual 177, 3) := by decide +kernel
theorem dX5_spent_34 : decode cX5_spent 34 = .ok (.i2l, 1) := by decide +kernel
theorem dX5_spent_35 : decode cX5_spent 35 = .ok (.aload_n 0, 1) := by decide +kernel
theorem dX5_spent_36 : decode cX5_spent 36 = .ok (.aload_n 0, 1) := by decide +kernel
theorem dX5_spent_37 : decode cX5_spent 37 = .ok (.getfield 12, 3) := by decide +kernel
theorem dX5_spent_40 : decode cX5_spent 40 = .ok (.iload_n 3, 1) := by decide +kernel
theorem dX5_spent_41 : decode cX5_spent 41 = .ok (.invokevirtual 178, 3) := by decide +kernel
theorem dX5_spent_44 : decode cX5_spent 44 = .ok (.invokevirtual 172, 3) := by decide +kernel
theorem dX5_spent_47 : decode cX5_spent 47 = .ok (.i2l, 1) := by decide +kernel
theorem dX5_spent_48 : decode cX5_spent 48 = .ok (.lmul, 1) := by decide +kernel
theorem dX5_spent_49 : decode cX5_spent 49 = .ok (.ladd, 1) := by decide +kernel
theorem dX5_spent_50 : decode cX5_spent 50 = .ok (.lstore_n 1, 1) := by decide +kernel
theorem dX5_spent_51 : decode cX5_spent 51 = .ok (.iinc 3 1, 3) := by decide +kernel
theorem dX5_spent_54 : decode cX5_spent 54 = .ok (.goto (-46), 3) := by decide +kernel
theorem dX5_spent_57 : decode cX5_spent 57 = .ok (.aload_n 0, 1) := by decide +kernel
theorem dX5_spent_58 : decode cX5_spent 58 = .ok (.invokevirtual 181, 3) := by decide +kernel
theorem dX5_spent_61 : decode cX5_spent 61 = .ok (.lstore_n 3, 1) := by decide +kernel
theorem dX5_spent_62 : decode cX5_spent 62 = .ok (.lload_n 3, 1) := by decide +kernel
theorem dX5_spent_63 : decode cX5_spent 63 = .ok (.ldc2_w 187, 3) := by decide +kernel
theorem dX5_spent_66 : decode cX5_spent 66 = .ok (.lcmp, 1) := by decide +kernel
theorem dX5_spent_67 : decode cX5_spent 67 = .ok (.ifCond .gt 19, 3) := by decide +kernel
theorem dX5_spent_70 : decode cX5_spent 70 = .ok (.lload_n 1, 1) := by decide +kernel
theorem dX5_spent_71 : decode cX5_spent 71 = .ok (.aload_n 0, 1) := by decide +kernel
theorem dX5_spent_72 : decode cX5_spent 72 = .ok (.getfield 57, 3) := by decide +kernel
theorem dX5_spent_75 : decode cX5_spent 75 = .ok (.i2l, 1) := by decide +kernel
theorem dX5_spent_76 : decode cX5_spent 76 = .ok (.aload_n 0, 1) := by decide +kernel
theorem dX5_spent_77 : decode cX5_spent 77 = .ok (.lload_n 3, 1) := by decide +kernel
theorem dX5_spent_78 : decode cX5_spent 78 = .ok (.l2i, 1) := by decide +kernel
theorem dX5_spent_79 : decode cX5_spent 79 = .ok (.invokevirtual 172, 3) := by decide +kernel
theorem dX5_spent_82 : decode cX5_spent 82 = .ok (.i2l, 1) := by decide +kernel
theorem dX5_spent_83 : decode cX5_spent 83 = .ok (.lmul, 1) := by decide +kernel
theorem dX5_spent_84 : decode cX5_spent 84 = .ok (.ladd, 1) := by decide +kernel
theorem dX5_spent_85 : decode cX5_spent 85 = .ok (.lstore_n 1, 1) := by decide +kernel
theorem dX5_spent_86 : decode cX5_spent 86 = .ok (.lload_n 1, 1) := by decide +kernel
theorem dX5_spent_87 : decode cX5_spent 87 = .ok (.lreturn, 1) := by decide +kernel
theorem dX5_print_0 : decode cX5_print 0 = .ok (.aload_n 0, 1) := by decide +kernel
theorem dX5_print_1 : decode cX5_print 1 = .ok (.invokevirtual 112, 3) := by decide +kernel
theorem dX5_print_4 : decode cX5_print 4 = .ok (.aload_n 0, 1) := by decide +kernel
theorem dX5_print_5 : decode cX5_print 5 = .ok (.getfield 49, 3) := by decide +kernel
theorem dX5_print_8 : decode cX5_print 8 = .ok (.invokevirtual 189, 3) := by decide +kernel
theorem dX5_print_11 : decode cX5_print 11 = .ok (.aload_n 0, 1) := by decide +kernel
theorem dX5_print_12 : decode cX5_print 12 = .ok (.getfield 42, 3) := by decide +kernel
theorem dX5_print_15 : decode cX5_print 15 = .ok (.aload_n 0, 1) := by decide +kernel
theorem dX5_print_16 : decode cX5_print 16 = .ok (.getfield 49, 3) := by decide +kernel
theorem dX5_print_19 : decode cX5_print 19 = .ok (.invokevirtual 192, 3) := by decide +kernel
theorem dX5_print_22 : decode cX5_print 22 = .ok (.aload_n 0, 1) := by decide +kernel
theorem dX5_print_23 : decode cX5_print 23 = .ok (.getfield 49, 3) := by decide +kernel
theorem dX5_print_26 : decode cX5_print 26 = .ok (.invokevirtual 127, 3) := by decide +kernel
theorem dX5_print_29 : decode cX5_print 29 = .ok (.ireturn, 1) := by decide +kernel
theorem dX5_out_0 : decode cX5_out 0 = .ok (.aload_n 0, 1) := by decide +kernel
theorem dX5_out_1 : decode cX5_out 1 = .ok (.getfield 49, 3) := by decide +kernel
theorem dX5_out_4 : decode cX5_out 4 = .ok (.iload_n 1, 1) := by decide +kernel
theorem dX5_out_5 : decode cX5_out 5 = .ok (.invokevirtual 196, 3) := by decide +kernel
theorem dX5_out_8 : decode cX5_out 8 = .ok (.ireturn, 1) := by decide +kernel
theorem dX5_within_0 : decode cX5_within 0 = .ok (.iload_n 0, 1) := by decide +kernel
theorem dX5_within_1 : decode cX5_within 1 = .ok (.iload_n 1, 1) := by decide +kernel
theorem dX5_within_2 : decode cX5_within 2 = .ok (.if_icmp .lt 12, 3) := by decide +kernel
theorem dX5_within_5 : decode cX5_within 5 = .ok (.iload_n 0, 1) := by decide +kernel
theorem dX5_within_6 : decode cX5_within 6 = .ok (.iload_n 2, 1) := by decide +kernel
theorem dX5_within_7 : decode cX5_within 7 = .ok (.if_icmp .gt 7, 3) := by decide +kernel
theorem dX5_within_10 : decode cX5_within 10 = .ok (.iconst 1, 1) := by decide +kernel
theorem dX5_within_11 : decode cX5_within 11 = .ok (.goto 4, 3) := by decide +kernel
theorem dX5_within_14 : decode cX5_within 14 = .ok (.iconst 0, 1) := by decide +kernel
theorem dX5_within_15 : decode cX5_within 15 = .ok (.ireturn, 1) := by decide +kernel
theorem dX5_isTarget_0 : decode cX5_isTarget 0 = .ok (.iload_n 0, 1) := by decide +kernel
theorem dX5_isTarget_1 : decode cX5_isTarget 1 = .ok (.iconst 0, 1) := by decide +kernel
theorem dX5_isTarget_2 : decode cX5_isTarget 2 = .ok (.bipush 15, 2) := by decide +kernel
theorem dX5_isTarget_4 : decode cX5_isTarget 4 = .ok (.invokestatic 105, 3) := by decide +kernel
theorem dX5_isTarget_7 : decode cX5_isTarget 7 = .ok (.ireturn, 1) := by decide +kernel
theorem dX5_isWeight_0 : decode cX5_isWeight 0 = .ok (.iload_n 0, 1) := by decide +kernel
theorem dX5_isWeight_1 : decode cX5_isWeight 1 = .ok (.iconst 0, 1) := by decide +kernel
theorem dX5_isWeight_2 : decode cX5_isWeight 2 = .ok (.sipush 1000, 3) := by decide +kernel
theorem dX5_isWeight_5 : decode cX5_isWeight 5 = .ok (.invokestatic 105, 3) := by decide +kernel
theorem dX5_isWeight_8 : decode cX5_isWeight 8 = .ok (.ireturn, 1) := by decide +kernel
theorem dX5_workOut_0 : decode cX5_workOut 0 = .ok (.aload_n 0, 1) := by decide +kernel
theorem dX5_workOut_1 : decode cX5_workOut 1 = .ok (.getfield 72, 3) := by decide +kernel
theorem dX5_workOut_4 : decode cX5_workOut 4 = .ok (.ifCond .ne 4, 3) := by decide +kernel
theorem dX5_workOut_7 : decode cX5_workOut 7 = .ok (.return_, 1) := by decide +kernel
theorem dX5_workOut_8 : decode cX5_workOut 8 = .ok (.aload_n 0, 1) := by decide +kernel
theorem dX5_workOut_9 : decode cX5_workOut 9 = .ok (.getfield 16, 3) := by decide +kernel
theorem dX5_workOut_12 : decode cX5_workOut 12 = .ok (.aload_n 0, 1) := by decide +kernel
theorem dX5_workOut_13 : decode cX5_workOut 13 = .ok (.getfield 12, 3) := by decide +kernel
theorem dX5_workOut_16 : decode cX5_workOut 16 = .ok (.aload_n 0, 1) := by decide +kernel
theorem dX5_workOut_17 : decode cX5_workOut 17 = .ok (.getfield 53, 3) := by decide +kernel
theorem dX5_workOut_20 : decode cX5_workOut 20 = .ok (.invokevirtual 199, 3) := by decide +kernel
theorem dX5_workOut_23 : decode cX5_workOut 23 = .ok (.aload_n 0, 1) := by decide +kernel
theorem dX5_workOut_24 : decode cX5_workOut 24 = .ok (.getfield 24, 3) := by decide +kernel
theorem dX5_workOut_27 : decode cX5_workOut 27 = .ok (.aload_n 0, 1) := by decide +kernel
theorem dX5_workOut_28 : decode cX5_workOut 28 = .ok (.getfield 60, 3) := by decide +kernel
theorem dX5_workOut_31 : decode cX5_workOut 31 = .ok (.aload_n 0, 1) := by decide +kernel
theorem dX5_workOut_32 : decode cX5_workOut 32 = .ok (.getfield 63, 3) := by decide +kernel
theorem dX5_workOut_35 : decode cX5_workOut 35 = .ok (.invokevirtual 203, 3) := by decide +kernel
theorem dX5_workOut_38 : decode cX5_workOut 38 = .ok (.aload_n 0, 1) := by decide +kernel
theorem dX5_workOut_39 : decode cX5_workOut 39 = .ok (.getfield 33, 3) := by decide +kernel
theorem dX5_workOut_42 : decode cX5_workOut 42 = .ok (.aload_n 0, 1) := by decide +kernel
theorem dX5_workOut_43 : decode cX5_workOut 43 = .ok (.getfield 66, 3) := by decide +kernel
theorem dX5_workOut_46 : decode cX5_workOut 46 = .ok (.invokevirtual 207, 3) := by decide +kernel
theorem dX5_workOut_49 : decode cX5_workOut 49 = .ok (.aload_n 0, 1) := by decide +kernel
theorem dX5_workOut_50 : decode cX5_workOut 50 = .ok (.getfield 42, 3) := by decide +kernel
theorem dX5_workOut_53 : decode cX5_workOut 53 = .ok (.aload_n 0, 1) := by decide +kernel
theorem dX5_workOut_54 : decode cX5_workOut 54 = .ok (.getfield 53, 3) := by decide +kernel
theorem dX5_workOut_57 : decode cX5_workOut 57 = .ok (.invokevirtual 210, 3) := by decide +kernel
theorem dX5_workOut_60 : decode cX5_workOut 60 = .ok (.aload_n 0, 1) := by decide +kernel
theorem dX5_workOut_61 : decode cX5_workOut 61 = .ok (.iconst 0, 1) := by decide +kernel
theorem dX5_workOut_62 : decode cX5_workOut 62 = .ok (.putfield 72, 3) := by decide +kernel
theorem dX5_workOut_65 : decode cX5_workOut 65 = .ok (.return_, 1) := by decide +kernel
theorem dX5_stepsOf_0 : decode cX5_stepsOf 0 = .ok (.aload_n 0, 1) := by decide +kernel
theorem dX5_stepsOf_1 : decode cX5_stepsOf 1 = .ok (.getfield 42, 3) := by decide +kernel
theorem dX5_stepsOf_4 : decode cX5_stepsOf 4 = .ok (.iload_n 1, 1) := by decide +kernel
theorem dX5_stepsOf_5 : decode cX5_stepsOf 5 = .ok (.invokevirtual 166, 3) := by decide +kernel
theorem dX5_stepsOf_8 : decode cX5_stepsOf 8 = .ok (.aload_n 0, 1) := by decide +kernel
theorem dX5_stepsOf_9 : decode cX5_stepsOf 9 = .ok (.getfield 42, 3) := by decide +kernel
theorem dX5_stepsOf_12 : decode cX5_stepsOf 12 = .ok (.invokevirtual 213, 3) := by decide +kernel
theorem dX5_stepsOf_15 : decode cX5_stepsOf 15 = .ok (.ireturn, 1) := by decide +kernel
theorem dX5_mostSteps_0 : decode cX5_mostSteps 0 = .ok (.aload_n 0, 1) := by decide +kernel
theorem dX5_mostSteps_1 : decode cX5_mostSteps 1 = .ok (.ldc 216, 2) := by decide +kernel
theorem dX5_mostSteps_3 : decode cX5_mostSteps 3 = .ok (.invokevirtual 172, 3) := by decide +kernel
theorem dX5_mostSteps_6 : decode cX5_mostSteps 6 = .ok (.istore_n 1, 1) := by decide +kernel
theorem dX5_mostSteps_7 : decode cX5_mostSteps 7 = .ok (.iconst 0, 1) := by decide +kernel
theorem dX5_mostSteps_8 : decode cX5_mostSteps 8 = .ok (.istore_n 2, 1) := by decide +kernel
theorem dX5_mostSteps_9 : decode cX5_mostSteps 9 = .ok (.iload_n 2, 1) := by decide +kernel
theorem dX5_mostSteps_10 : decode cX5_mostSteps 10 = .ok (.aload_n 0, 1) := by decide +kernel
theorem dX5_mostSteps_11 : decode cX5_mostSteps 11 = .ok (.getfield 16, 3) := by decide +kernel
theorem dX5_mostSteps_14 : decode cX5_mostSteps 14 = .ok (.invokevirtual 102, 3) := by decide +kernel
theorem dX5_mostSteps_17 : decode cX5_mostSteps 17 = .ok (.if_icmp .ge 58, 3) := by decide +kernel
theorem dX5_mostSteps_20 : decode cX5_mostSteps 20 = .ok (.iload_n 1, 1) := by decide +kernel
theorem dX5_mostSteps_21 : decode cX5_mostSteps 21 = .ok (.aload_n 0, 1) := by decide +kernel
theorem dX5_mostSteps_22 : decode cX5_mostSteps 22 = .ok (.aload_n 0, 1) := by decide +kernel
theorem dX5_mostSteps_23 : decode cX5_mostSteps 23 = .ok (.getfield 16, 3) := by decide +kernel
theorem dX5_mostSteps_26 : decode cX5_mostSteps 26 = .ok (.iload_n 2, 1) := by decide +kernel
theorem dX5_mostSteps_27 : decode cX5_mostSteps 27 = .ok (.invokevirtual 178, 3) := by decide +kernel
theorem dX5_mostSteps_30 : decode cX5_mostSteps 30 = .ok (.invokevirtual 172, 3) := by decide +kernel
theorem dX5_mostSteps_33 : decode cX5_mostSteps 33 = .ok (.invokestatic 116, 3) := by decide +kernel
theorem dX5_mostSteps_36 : decode cX5_mostSteps 36 = .ok (.istore_n 1, 1) := by decide +kernel
theorem dX5_mostSteps_37 : decode cX5_mostSteps 37 = .ok (.aload_n 0, 1) := by decide +kernel
theorem dX5_mostSteps_38 : decode cX5_mostSteps 38 = .ok (.getfield 16, 3) := by decide +kernel
theorem dX5_mostSteps_41 : decode cX5_mostSteps 41 = .ok (.iload_n 2, 1) := by decide +kernel
theorem dX5_mostSteps_42 : decode cX5_mostSteps 42 = .ok (.invokevirtual 217, 3) := by decide +kernel
theorem dX5_mostSteps_45 : decode cX5_mostSteps 45 = .ok (.ldc 220, 2) := by decide +kernel
theorem dX5_mostSteps_47 : decode cX5_mostSteps 47 = .ok (.if_icmp .ge 22, 3) := by decide +kernel
theorem dX5_mostSteps_50 : decode cX5_mostSteps 50 = .ok (.iload_n 1, 1) := by decide +kernel
theorem dX5_mostSteps_51 : decode cX5_mostSteps 51 = .ok (.aload_n 0, 1) := by decide +kernel
theorem dX5_mostSteps_52 : decode cX5_mostSteps 52 = .ok (.aload_n 0, 1) := by decide +kernel
theorem dX5_mostSteps_53 : decode cX5_mostSteps 53 = .ok (.getfield 16, 3) := by decide +kernel
theorem dX5_mostSteps_56 : decode cX5_mostSteps 56 = .ok (.iload_n 2, 1) := by decide +kernel
theorem dX5_mostSteps_57 : decode cX5_mostSteps 57 = .ok (.invokevirtual 217, 3) := by decide +kernel
theorem dX5_mostSteps_60 : decode cX5_mostSteps 60 = .ok (.iconst 1, 1) := by decide +kernel
theorem dX5_mostSteps_61 : decode cX5_mostSteps 61 = .ok (.iadd, 1) := by decide +kernel
theorem dX5_mostSteps_62 : decode cX5_mostSteps 62 = .ok (.invokevirtual 172, 3) := by decide +kernel
theorem dX5_mostSteps_65 : decode cX5_mostSteps 65 = .ok (.invokestatic 116, 3) := by decide +kernel
theorem dX5_mostSteps_68 : decode cX5_mostSteps 68 = .ok (.istore_n 1, 1) := by decide +kernel
theorem dX5_mostSteps_69 : decode cX5_mostSteps 69 = .ok (.iinc 2 1, 3) := by decide +kernel
theorem dX5_mostSteps_72 : decode cX5_mostSteps 72 = .ok (.goto (-63), 3) := by decide +kernel
theorem dX5_mostSteps_75 : decode cX5_mostSteps 75 = .ok (.iload_n 1, 1) := by decide +kernel
theorem dX5_mostSteps_76 : decode cX5_mostSteps 76 = .ok (.ireturn, 1) := by decide +kernel
theorem dX5_leastInNoCase_0 : decode cX5_leastInNoCase 0 = .ok (.ldc2_w 221, 3) := by decide +kernel
theorem dX5_leastInNoCase_3 : decode cX5_leastInNoCase 3 = .ok (.lstore_n 1, 1) := by decide +kernel
theorem dX5_leastInNoCase_4 : decode cX5_leastInNoCase 4 = .ok (.iconst 0, 1) := by decide +kernel
theorem dX5_leastInNoCase_5 : decode cX5_leastInNoCase 5 = .ok (.istore_n 3, 1) := by decide +kernel
theorem dX5_leastInNoCase_6 : decode cX5_leastInNoCase 6 = .ok (.iload_n 3, 1) := by decide +kernel
theorem dX5_leastInNoCase_7 : decode cX5_leastInNoCase 7 = .ok (.bipush 24, 2) := by decide +kernel
theorem dX5_leastInNoCase_9 : decode cX5_leastInNoCase 9 = .ok (.if_icmp .ge 51, 3) := by decide +kernel
theorem dX5_leastInNoCase_12 : decode cX5_leastInNoCase 12 = .ok (.lload_n 1, 1) := by decide +kernel
theorem dX5_leastInNoCase_13 : decode cX5_leastInNoCase 13 = .ok (.ldc2_w 187, 3) := by decide +kernel
theorem dX5_leastInNoCase_16 : decode cX5_leastInNoCase 16 = .ok (.lcmp, 1) := by decide +kernel
theorem dX5_leastInNoCase_17 : decode cX5_leastInNoCase 17 = .ok (.ifCond .gt 43, 3) := by decide +kernel
theorem dX5_leastInNoCase_20 : decode cX5_leastInNoCase 20 = .ok (.aload_n 0, 1) := by decide +kernel
theorem dX5_leastInNoCase_21 : decode cX5_leastInNoCase 21 = .ok (.getfield 12, 3) := by decide +kernel
theorem dX5_leastInNoCase_24 : decode cX5_leastInNoCase 24 = .ok (.lload_n 1, 1) := by decide +kernel
theorem dX5_leastInNoCase_25 : decode cX5_leastInNoCase 25 = .ok (.l2i, 1) := by decide +kernel
theorem dX5_leastInNoCase_26 : decode cX5_leastInNoCase 26 = .ok (.lload_n 1, 1) := by decide +kernel
theorem dX5_leastInNoCase_27 : decode cX5_leastInNoCase 27 = .ok (.l2i, 1) := by decide +kernel
theorem dX5_leastInNoCase_28 : decode cX5_leastInNoCase 28 = .ok (.invokevirtual 83, 3) := by decide +kernel
theorem dX5_leastInNoCase_31 : decode cX5_leastInNoCase 31 = .ok (.istore 4, 2) := by decide +kernel
theorem dX5_leastInNoCase_33 : decode cX5_leastInNoCase 33 = .ok (.iload 4, 2) := by decide +kernel
theorem dX5_leastInNoCase_35 : decode cX5_leastInNoCase 35 = .ok (.iconst (-1), 1) := by decide +kernel
theorem dX5_leastInNoCase_36 : decode cX5_leastInNoCase 36 = .ok (.if_icmp .ne 5, 3) := by decide +kernel
theorem dX5_leastInNoCase_39 : decode cX5_leastInNoCase 39 = .ok (.lload_n 1, 1) := by decide +kernel
theorem dX5_leastInNoCase_40 : decode cX5_leastInNoCase 40 = .ok (.lreturn, 1) := by decide +kernel
theorem dX5_leastInNoCase_41 : decode cX5_leastInNoCase 41 = .ok (.aload_n 0, 1) := by decide +kernel
theorem dX5_leastInNoCase_42 : decode cX5_leastInNoCase 42 = .ok (.getfield 12, 3) := by decide +kernel
theorem dX5_leastInNoCase_45 : decode cX5_leastInNoCase 45 = .ok (.iload 4, 2) := by decide +kernel
theorem dX5_leastInNoCase_47 : decode cX5_leastInNoCase 47 = .ok (.invokevirtual 217, 3) := by decide +kernel
theorem dX5_leastInNoCase_50 : decode cX5_leastInNoCase 50 = .ok (.i2l, 1) := by decide +kernel
theorem dX5_leastInNoCase_51 : decode cX5_leastInNoCase 51 = .ok (.lconst 1, 1) := by decide +kernel
theorem dX5_leastInNoCase_52 : decode cX5_leastInNoCase 52 = .ok (.ladd, 1) := by decide +kernel
theorem dX5_leastInNoCase_53 : decode cX5_leastInNoCase 53 = .ok (.lstore_n 1, 1) := by decide +kernel
theorem dX5_leastInNoCase_54 : decode cX5_leastInNoCase 54 = .ok (.iinc 3 1, 3) := by decide +kernel
theorem dX5_leastInNoCase_57 : decode cX5_leastInNoCase 57 = .ok (.goto (-51), 3) := by decide +kernel
theorem dX5_leastInNoCase_60 : decode cX5_leastInNoCase 60 = .ok (.lload_n 1, 1) := by decide +kernel
theorem dX5_leastInNoCase_61 : decode cX5_leastInNoCase 61 = .ok (.lreturn, 1) := by decide +kernel
theorem dX6_init_0 : decode cX6_init 0 = .ok (.aload_n 0, 1) := by decide +kernel
theorem dX6_init_1 : decode cX6_init 1 = .ok (.invokespecial 1, 3) := by decide +kernel
theorem dX6_init_4 : decode cX6_init 4 = .ok (.aload_n 0, 1) := by decide +kernel
theorem dX6_init_5 : decode cX6_init 5 = .ok (.bipush 24, 2) := by decide +kernel
theorem dX6_init_7 : decode cX6_init 7 = .ok (.newarray .boolean, 2) := by decide +kernel
theorem dX6_init_9 : decode cX6_init 9 = .ok (.putfield 7, 3) := by decide +kernel
theorem dX6_init_12 : decode cX6_init 12 = .ok (.aload_n 0, 1) := by decide +kernel
theorem dX6_init_13 : decode cX6_init 13 = .ok (.bipush 24, 2) := by decide +kernel
theorem dX6_init_15 : decode cX6_init 15 = .ok (.newarray .int, 2) := by decide +kernel
theorem dX6_init_17 : decode cX6_init 17 = .ok (.putfield 13, 3) := by decide +kernel
theorem dX6_init_20 : decode cX6_init 20 = .ok (.aload_n 0, 1) := by decide +kernel
theorem dX6_init_21 : decode cX6_init 21 = .ok (.bipush 24, 2) := by decide +kernel
theorem dX6_init_23 : decode cX6_init 23 = .ok (.newarray .int, 2) := by decide +kernel
theorem dX6_init_25 : decode cX6_init 25 = .ok (.putfield 17, 3) := by decide +kernel
theorem dX6_init_28 : decode cX6_init 28 = .ok (.aload_n 0, 1) := by decide +kernel
theorem dX6_init_29 : decode cX6_init 29 = .ok (.bipush 24, 2) := by decide +kernel
theorem dX6_init_31 : decode cX6_init 31 = .ok (.newarray .int, 2) := by decide +kernel
theorem dX6_init_33 : decode cX6_init 33 = .ok (.putfield 20, 3) := by decide +kernel
theorem dX6_init_36 : decode cX6_init 36 = .ok (.aload_n 0, 1) := by decide +kernel
theorem dX6_init_37 : decode cX6_init 37 = .ok (.bipush 24, 2) := by decide +kernel
theorem dX6_init_39 : decode cX6_init 39 = .ok (.newarray .int, 2) := by decide +kernel
theorem dX6_init_41 : decode cX6_init 41 = .ok (.putfield 23, 3) := by decide +kernel
theorem dX6_init_44 : decode cX6_init 44 = .ok (.aload_n 0, 1) := by decide +kernel
theorem dX6_init_45 : decode cX6_init 45 = .ok (.iconst (-1), 1) := by decide +kernel
theorem dX6_init_46 : decode cX6_init 46 = .ok (.putfield 26, 3) := by decide +kernel
theorem dX6_init_49 : decode cX6_init 49 = .ok (.aload_n 0, 1) := by decide +kernel
theorem dX6_init_50 : decode cX6_init 50 = .ok (.bipush 40, 2) := by decide +kernel
theorem dX6_init_52 : decode cX6_init 52 = .ok (.putfield 30, 3) := by decide +kernel
theorem dX6_init_55 : decode cX6_init 55 = .ok (.aload_n 0, 1) := by decide +kernel
theorem dX6_init_56 : decode cX6_init 56 = .ok (.bipush 64, 2) := by decide +kernel
theorem dX6_init_58 : decode cX6_init 58 = .ok (.putfield 33, 3) := by decide +kernel
theorem dX6_init_61 : decode cX6_init 61 = .ok (.aload_n 0, 1) := by decide +kernel
theorem dX6_init_62 : decode cX6_init 62 = .ok (.bipush 24, 2) := by decide +kernel
theorem dX6_init_64 : decode cX6_init 64 = .ok (.newarray .int, 2) := by decide +kernel
theorem dX6_init_66 : decode cX6_init 66 = .ok (.putfield 36, 3) := by decide +kernel
theorem dX6_init_69 : decode cX6_init 69 = .ok (.aload_n 0, 1) := by decide +kernel
theorem dX6_init_70 : decode cX6_init 70 = .ok (.bipush 24, 2) := by decide +kernel
theorem dX6_init_72 : decode cX6_init 72 = .ok (.newarray .int, 2) := by decide +kernel
theorem dX6_init_74 : decode cX6_init 74 = .ok (.putfield 39, 3) := by decide +kernel
theorem dX6_init_77 : decode cX6_init 77 = .ok (.aload_n 0, 1) := by decide +kernel
theorem dX6_init_78 : decode cX6_init 78 = .ok (.bipush 24, 2) := by decide +kernel
theorem dX6_init_80 : decode cX6_init 80 = .ok (.newarray .int, 2) := by decide +kernel
theorem dX6_init_82 : decode cX6_init 82 = .ok (.putfield 42, 3) := by decide +kernel
theorem dX6_init_85 : decode cX6_init 85 = .ok (.aload_n 0, 1) := by decide +kernel
theorem dX6_init_86 : decode cX6_init 86 = .ok (.bipush 24, 2) := by decide +kernel
theorem dX6_init_88 : decode cX6_init 88 = .ok (.newarray .int, 2) := by decide +kernel
theorem dX6_init_90 : decode cX6_init 90 = .ok (.putfield 45, 3) := by decide +kernel
theorem dX6_init_93 : decode cX6_init 93 = .ok (.aload_n 0, 1) := by decide +kernel
theorem dX6_init_94 : decode cX6_init 94 = .ok (.bipush 24, 2) := by decide +kernel
theorem dX6_init_96 : decode cX6_init 96 = .ok (.newarray .int, 2) := by decide +kernel
theorem dX6_init_98 : decode cX6_init 98 = .ok (.putfield 48, 3) := by decide +kernel
theorem dX6_init_101 : decode cX6_init 101 = .ok (.aload_n 0, 1) := by decide +kernel
theorem dX6_init_102 : decode cX6_init 102 = .ok (.bipush 24, 2) := by decide +kernel
theorem dX6_init_104 : decode cX6_init 104 = .ok (.newarray .int, 2) := by decide +kernel
theorem dX6_init_106 : decode cX6_init 106 = .ok (.putfield 51, 3) := by decide +kernel
theorem dX6_init_109 : decode cX6_init 109 = .ok (.aload_n 0, 1) := by decide +kernel
theorem dX6_init_110 : decode cX6_init 110 = .ok (.bipush 24, 2) := by decide +kernel
theorem dX6_init_112 : decode cX6_init 112 = .ok (.newarray .int, 2) := by decide +kernel
theorem dX6_init_114 : decode cX6_init 114 = .ok (.putfield 54, 3) := by decide +kernel
theorem dX6_init_117 : decode cX6_init 117 = .ok (.aload_n 0, 1) := by decide +kernel
theorem dX6_init_118 : decode cX6_init 118 = .ok (.bipush 25, 2) := by decide +kernel
theorem dX6_init_120 : decode cX6_init 120 = .ok (.newarray .int, 2) := by decide +kernel
theorem dX6_init_122 : decode cX6_init 122 = .ok (.putfield 57, 3) := by decide +kernel
theorem dX6_init_125 : decode cX6_init 125 = .ok (.aload_n 0, 1) := by decide +kernel
theorem dX6_init_126 : decode cX6_init 126 = .ok (.sipush 576, 3) := by decide +kernel
theorem dX6_init_129 : decode cX6_init 129 = .ok (.newarray .long, 2) := by decide +kernel
theorem dX6_init_131 : decode cX6_init 131 = .ok (.putfield 60, 3) := by decide +kernel
theorem dX6_init_134 : decode cX6_init 134 = .ok (.aload_n 0, 1) := by decide +kernel
theorem dX6_init_135 : decode cX6_init 135 = .ok (.sipush 576, 3) := by decide +kernel
theorem dX6_init_138 : decode cX6_init 138 = .ok (.newarray .int, 2) := by decide +kernel
theorem dX6_init_140 : decode cX6_init 140 = .ok (.putfield 64, 3) := by decide +kernel
theorem dX6_init_143 : decode cX6_init 143 = .ok (.aload_n 0, 1) := by decide +kernel
theorem dX6_init_144 : decode cX6_init 144 = .ok (.bipush 24, 2) := by decide +kernel
theorem dX6_init_146 : decode cX6_init 146 = .ok (.newarray .int, 2) := by decide +kernel
theorem dX6_init_148 : decode cX6_init 148 = .ok (.putfield 67, 3) := by decide +kernel
theorem dX6_init_151 : decode cX6_init 151 = .ok (.aload_n 0, 1) := by decide +kernel
theorem dX6_init_152 : decode cX6_init 152 = .ok (.sipush 400, 3) := by decide +kernel
theorem dX6_init_155 : decode cX6_init 155 = .ok (.newarray .int, 2) := by decide +kernel
theorem dX6_init_157 : decode cX6_init 157 = .ok (.putfield 70, 3) := by decide +kernel
theorem dX6_init_160 : decode cX6_init 160 = .ok (.aload_n 0, 1) := by decide +kernel
theorem dX6_init_161 : decode cX6_init 161 = .ok (.sipush 400, 3) := by decide +kernel
theorem dX6_init_164 : decode cX6_init 164 = .ok (.newarray .int, 2) := by decide +kernel
theorem dX6_init_166 : decode cX6_init 166 = .ok (.putfield 73, 3) := by decide +kernel
theorem dX6_init_169 : decode cX6_init 169 = .ok (.aload_n 0, 1) := by decide +kernel
theorem dX6_init_170 : decode cX6_init 170 = .ok (.sipush 400, 3) := by decide +kernel
theorem dX6_init_173 : decode cX6_init 173 = .ok (.newarray .int, 2) := by decide +kernel
theorem dX6_init_175 : decode cX6_init 175 = .ok (.putfield 76, 3) := by decide +kernel
theorem dX6_init_178 : decode cX6_init 178 = .ok (.aload_n 0, 1) := by decide +kernel
theorem dX6_init_179 : decode cX6_init 179 = .ok (.sipush 400, 3) := by decide +kernel
theorem dX6_init_182 : decode cX6_init 182 = .ok (.newarray .long, 2) := by decide +kernel
theorem dX6_init_184 : decode cX6_init 184 = .ok (.putfield 79, 3) := by decide +kernel
theorem dX6_init_187 : decode cX6_init 187 = .ok (.aload_n 0, 1) := by decide +kernel
theorem dX6_init_188 : decode cX6_init 188 = .ok (.sipush 400, 3) := by decide +kernel
theorem dX6_init_191 : decode cX6_init 191 = .ok (.newarray .int, 2) := by decide +kernel
theorem dX6_init_193 : decode cX6_init 193 = .ok (.putfield 82, 3) := by decide +kernel
theorem dX6_init_196 : decode cX6_init 196 = .ok (.aload_n 0, 1) := by decide +kernel
theorem dX6_init_197 : decode cX6_init 197 = .ok (.bipush 100, 2) := by decide +kernel
theorem dX6_init_199 : decode cX6_init 199 = .ok (.newarray .int, 2) := by decide +kernel
theorem dX6_init_201 : decode cX6_init 201 = .ok (.putfield 85, 3) := by decide +kernel
theorem dX6_init_204 : decode cX6_init 204 = .ok (.aload_n 0, 1) := by decide +kernel
theorem dX6_init_205 : decode cX6_init 205 = .ok (.bipush 100, 2) := by decide +kernel
theorem dX6_init_207 : decode cX6_init 207 = .ok (.newarray .int, 2) := by decide +kernel
theorem dX6_init_209 : decode cX6_init 209 = .ok (.putfield 88, 3) := by decide +kernel
theorem dX6_init_212 : decode cX6_init 212 = .ok (.aload_n 0, 1) := by decide +kernel
theorem dX6_init_213 : decode cX6_init 213 = .ok (.bipush 100, 2) := by decide +kernel
theorem dX6_init_215 : decode cX6_init 215 = .ok (.newarray .int, 2) := by decide +kernel
theorem dX6_init_217 : decode cX6_init 217 = .ok (.putfield 91, 3) := by decide +kernel
theorem dX6_init_220 : decode cX6_init 220 = .ok (.aload_n 0, 1) := by decide +kernel
theorem dX6_init_221 : decode cX6_init 221 = .ok (.bipush 100, 2) := by decide +kernel
theorem dX6_init_223 : decode cX6_init 223 = .ok (.newarray .long, 2) := by decide +kernel
theorem dX6_init_225 : decode cX6_init 225 = .ok (.putfield 94, 3) := by decide +kernel
theorem dX6_init_228 : decode cX6_init 228 = .ok (.aload_n 0, 1) := by decide +kernel
theorem dX6_init_229 : decode cX6_init 229 = .ok (.bipush 100, 2) := by decide +kernel
theorem dX6_init_231 : decode cX6_init 231 = .ok (.newarray .long, 2) := by decide +kernel
theorem dX6_init_233 : decode cX6_init 233 = .ok (.putfield 97, 3) := by decide +kernel
theorem dX6_init_236 : decode cX6_init 236 = .ok (.aload_n 0, 1) := by decide +kernel
theorem dX6_init_237 : decode cX6_init 237 = .ok (.bipush 100, 2) := by decide +kernel
theorem dX6_init_239 : decode cX6_init 239 = .ok (.newarray .int, 2) := by decide +kernel
theorem dX6_init_241 : decode cX6_init 241 = .ok (.putfield 100, 3) := by decide +kernel
theorem dX6_init_244 : decode cX6_init 244 = .ok (.aload_n 0, 1) := by decide +kernel
theorem dX6_init_245 : decode cX6_init 245 = .ok (.ldc 103, 2) := by decide +kernel
theorem dX6_init_247 : decode cX6_init 247 = .ok (.newarray .byte, 2) := by decide +kernel
theorem dX6_init_249 : decode cX6_init 249 = .ok (.putfield 104, 3) := by decide +kernel
theorem dX6_init_252 : decode cX6_init 252 = .ok (.return_, 1) := by decide +kernel
theorem dX6_in_0 : decode cX6_in 0 = .ok (.lload_n 0, 1) := by decide +kernel
theorem dX6_in_1 : decode cX6_in 1 = .ok (.lload_n 2, 1) := by decide +kernel
theorem dX6_in_2 : decode cX6_in 2 = .ok (.lcmp, 1) := by decide +kernel
theorem dX6_in_3 : decode cX6_in 3 = .ok (.ifCond .lt 14, 3) := by decide +kernel
theorem dX6_in_6 : decode cX6_in 6 = .ok (.lload_n 0, 1) := by decide +kernel
theorem dX6_in_7 : decode cX6_in 7 = .ok (.lload 4, 2) := by decide +kernel
theorem dX6_in_9 : decode cX6_in 9 = .ok (.lcmp, 1) := by decide +kernel
theorem dX6_in_10 : decode cX6_in 10 = .ok (.ifCond .gt 7, 3) := by decide +kernel
theorem dX6_in_13 : decode cX6_in 13 = .ok (.iconst 1, 1) := by decide +kernel
theorem dX6_in_14 : decode cX6_in 14 = .ok (.goto 4, 3) := by decide +kernel
theorem dX6_in_17 : decode cX6_in 17 = .ok (.iconst 0, 1) := by decide +kernel
theorem dX6_in_18 : decode cX6_in 18 = .ok (.ireturn, 1) := by decide +kernel
theorem dX6_add_0 : decode cX6_add 0 = .ok (.iload_n 1, 1) := by decide +kernel
theorem dX6_add_1 : decode cX6_add 1 = .ok (.iload_n 2, 1) := by decide +kernel
theorem dX6_add_2 : decode cX6_add 2 = .ok (.if_icmp .gt 28, 3) := by decide +kernel
theorem dX6_add_5 : decode cX6_add 5 = .ok (.iload_n 3, 1) := by decide +kernel
theorem dX6_add_6 : decode cX6_add 6 = .ok (.i2l, 1) := by decide +kernel
theorem dX6_add_7 : decode cX6_add 7 = .ok (.lconst 0, 1) := by decide +kernel
theorem dX6_add_8 : decode cX6_add 8 = .ok (.ldc2_w 108, 3) := by decide +kernel
theorem dX6_add_11 : decode cX6_add 11 = .ok (.invokestatic 110, 3) := by decide +kernel
theorem dX6_add_14 : decode cX6_add 14 = .ok (.ifCond .eq 16, 3) := by decide +kernel
theorem dX6_add_17 : decode cX6_add 17 = .ok (.iload 4, 2) := by decide +kernel
theorem dX6_add_19 : decode cX6_add 19 = .ok (.i2l, 1) := by decide +kernel
theorem dX6_add_20 : decode cX6_add 20 = .ok (.lconst 0, 1) := by decide +kernel
theorem dX6_add_21 : decode cX6_add 21 = .ok (.ldc2_w 114, 3) := by decide +kernel
theorem dX6_add_24 : decode cX6_add 24 = .ok (.invokestatic 110, 3) := by decide +kernel
theorem dX6_add_27 : decode cX6_add 27 = .ok (.ifCond .ne 6, 3) := by decide +kernel
theorem dX6_add_30 : decode cX6_add 30 = .ok (.bipush (-102), 2) := by decide +kernel
theorem dX6_add_32 : decode cX6_add 32 = .ok (.ireturn, 1) := by decide +kernel
theorem dX6_add_33 : decode cX6_add 33 = .ok (.iconst 0, 1) := by decide +kernel
theorem dX6_add_34 : decode cX6_add 34 = .ok (.istore 5, 2) := by decide +kernel
theorem dX6_add_36 : decode cX6_add 36 = .ok (.iload 5, 2) := by decide +kernel
theorem dX6_add_38 : decode cX6_add 38 = .ok (.bipush 24, 2) := by decide +kernel
theorem dX6_add_40 : decode cX6_add 40 = .ok (.if_icmp .ge 50, 3) := by decide +kernel
theorem dX6_add_43 : decode cX6_add 43 = .ok (.aload_n 0, 1) := by decide +kernel
theorem dX6_add_44 : decode cX6_add 44 = .ok (.getfield 7, 3) := by decide +kernel
theorem dX6_add_47 : decode cX6_add 47 = .ok (.iload 5, 2) := by decide +kernel
theorem dX6_add_49 : decode cX6_add 49 = .ok (.baload, 1) := by decide +kernel
theorem dX6_add_50 : decode cX6_add 50 = .ok (.ifCond .eq 34, 3) := by decide +kernel
theorem dX6_add_53 : decode cX6_add 53 = .ok (.iload_n 1, 1) := by decide +kernel
theorem dX6_add_54 : decode cX6_add 54 = .ok (.aload_n 0, 1) := by decide +kernel
theorem dX6_add_55 : decode cX6_add 55 = .ok (.getfield 17, 3) := by decide +kernel
theorem dX6_add_58 : decode cX6_add 58 = .ok (.iload 5, 2) := by decide +kernel
theorem dX6_add_60 : decode cX6_add 60 = .ok (.iaload, 1) := by decide +kernel
theorem dX6_add_61 : decode cX6_add 61 = .ok (.if_icmp .gt 23, 3) := by decide +kernel
theorem dX6_add_64 : decode cX6_add 64 = .ok (.iload_n 2, 1) := by decide +kernel
theorem dX6_add_65 : decode cX6_add 65 = .ok (.aload_n 0, 1) := by decide +kernel
theorem dX6_add_66 : decode cX6_add 66 = .ok (.getfield 13, 3) := by decide +kernel
theorem dX6_add_69 : decode cX6_add 69 = .ok (.iload 5, 2) := by decide +kernel
theorem dX6_add_71 : decode cX6_add 71 = .ok (.iaload, 1) := by decide +kernel
theorem dX6_add_72 : decode cX6_add 72 = .ok (.if_icmp .lt 12, 3) := by decide +kernel
theorem dX6_add_75 : decode cX6_add 75 = .ok (.aload_n 0, 1) := by decide +kernel
theorem dX6_add_76 : decode cX6_add 76 = .ok (.iload 5, 2) := by decide +kernel
theorem dX6_add_78 : decode cX6_add 78 = .ok (.putfield 26, 3) := by decide +kernel
theorem dX6_add_81 : decode cX6_add 81 = .ok (.bipush (-103), 2) := by decide +kernel
theorem dX6_add_83 : decode cX6_add 83 = .ok (.ireturn, 1) := by decide +kernel
theorem dX6_add_84 : decode cX6_add 84 = .ok (.iinc 5 1, 3) := by decide +kernel
theorem dX6_add_87 : decode cX6_add 87 = .ok (.goto (-51), 3) := by decide +kernel
theorem dX6_add_90 : decode cX6_add 90 = .ok (.aload_n 0, 1) := by decide +kernel
theorem dX6_add_91 : decode cX6_add 91 = .ok (.getfield 116, 3) := by decide +kernel
theorem dX6_add_94 : decode cX6_add 94 = .ok (.bipush 24, 2) := by decide +kernel
theorem dX6_add_96 : decode cX6_add 96 = .ok (.if_icmp .ne 6, 3) := by decide +kernel
theorem dX6_add_99 : decode cX6_add 99 = .ok (.bipush (-104), 2) := by decide +kernel
theorem dX6_add_101 : decode cX6_add 101 = .ok (.ireturn, 1) := by decide +kernel
theorem dX6_add_102 : decode cX6_add 102 = .ok (.iconst 0, 1) := by decide +kernel
theorem dX6_add_103 : decode cX6_add 103 = .ok (.istore 5, 2) := by decide +kernel
theorem dX6_add_105 : decode cX6_add 105 = .ok (.aload_n 0, 1) := by decide +kernel
theorem dX6_add_106 : decode cX6_add 106 = .ok (.getfield 7, 3) := by decide +kernel
theorem dX6_add_109 : decode cX6_add 109 = .ok (.iload 5, 2) := by decide +kernel
theorem dX6_add_111 : decode cX6_add 111 = .ok (.baload, 1) := by decide +kernel
theorem dX6_add_112 : decode cX6_add 112 = .ok (.ifCond .eq 9, 3) := by decide +kernel
theorem dX6_add_115 : decode cX6_add 115 = .ok (.iinc 5 1, 3) := by decide +kernel
theorem dX6_add_118 : decode cX6_add 118 = .ok (.goto (-13), 3) := by decide +kernel
theorem dX6_add_121 : decode cX6_add 121 = .ok (.aload_n 0, 1) := by decide +kernel
theorem dX6_add_122 : decode cX6_add 122 = .ok (.getfield 7, 3) := by decide +kernel
theorem dX6_add_125 : decode cX6_add 125 = .ok (.iload 5, 2) := by decide +kernel
theorem dX6_add_127 : decode cX6_add 127 = .ok (.iconst 1, 1) := by decide +kernel
theorem dX6_add_128 : decode cX6_add 128 = .ok (.bastore, 1) := by decide +kernel
theorem dX6_add_129 : decode cX6_add 129 = .ok (.aload_n 0, 1) := by decide +kernel
theorem dX6_add_130 : decode cX6_add 130 = .ok (.getfield 13, 3) := by decide +kernel
theorem dX6_add_133 : decode cX6_add 133 = .ok (.iload 5, 2) := by decide +kernel
theorem dX6_add_135 : decode cX6_add 135 = .ok (.iload_n 1, 1) := by decide +kernel
theorem dX6_add_136 : decode cX6_add 136 = .ok (.iastore, 1) := by decide +kernel
theorem dX6_add_137 : decode cX6_add 137 = .ok (.aload_n 0, 1) := by decide +kernel
theorem dX6_add_138 : decode cX6_add 138 = .ok (.getfield 17, 3) := by decide +kernel
theorem dX6_add_141 : decode cX6_add 141 = .ok (.iload 5, 2) := by decide +kernel
theorem dX6_add_143 : decode cX6_add 143 = .ok (.iload_n 2, 1) := by decide +kernel
theorem dX6_add_144 : decode cX6_add 144 = .ok (.iastore, 1) := by decide +kernel
theorem dX6_add_145 : decode cX6_add 145 = .ok (.aload_n 0, 1) := by decide +kernel
theorem dX6_add_146 : decode cX6_add 146 = .ok (.getfield 20, 3) := by decide +kernel
theorem dX6_add_149 : decode cX6_add 149 = .ok (.iload 5, 2) := by decide +kernel
theorem dX6_add_151 : decode cX6_add 151 = .ok (.iload_n 3, 1) := by decide +kernel
theorem dX6_add_152 : decode cX6_add 152 = .ok (.iastore, 1) := by decide +kernel
theorem dX6_add_153 : decode cX6_add 153 = .ok (.aload_n 0, 1) := by decide +kernel
theorem dX6_add_154 : decode cX6_add 154 = .ok (.getfield 23, 3) := by decide +kernel
theorem dX6_add_157 : decode cX6_add 157 = .ok (.iload 5, 2) := by decide +kernel
theorem dX6_add_159 : decode cX6_add 159 = .ok (.iload 4, 2) := by decide +kernel
theorem dX6_add_161 : decode cX6_add 161 = .ok (.iastore, 1) := by decide +kernel
theorem dX6_add_162 : decode cX6_add 162 = .ok (.aload_n 0, 1) := by decide +kernel
theorem dX6_add_163 : decode cX6_add 163 = .ok (.dup, 1) := by decide +kernel
theorem dX6_add_164 : decode cX6_add 164 = .ok (.getfield 116, 3) := by decide +kernel
theorem dX6_add_167 : decode cX6_add 167 = .ok (.iconst 1, 1) := by decide +kernel
theorem dX6_add_168 : decode cX6_add 168 = .ok (.iadd, 1) := by decide +kernel
theorem dX6_add_169 : decode cX6_add 169 = .ok (.putfield 116, 3) := by decide +kernel
theorem dX6_add_172 : decode cX6_add 172 = .ok (.iload 5, 2) := by decide +kernel
theorem dX6_add_174 : decode cX6_add 174 = .ok (.ireturn, 1) := by decide +kernel
theorem dX6_clash_0 : decode cX6_clash 0 = .ok (.aload_n 0, 1) := by decide +kernel
theorem dX6_clash_1 : decode cX6_clash 1 = .ok (.getfield 26, 3) := by decide +kernel
theorem dX6_clash_4 : decode cX6_clash 4 = .ok (.ireturn, 1) := by decide +kernel
theorem dX6_noCase_0 : decode cX6_noCase 0 = .ok (.iload_n 1, 1) := by decide +kernel
theorem dX6_noCase_1 : decode cX6_noCase 1 = .ok (.i2l, 1) := by decide +kernel
theorem dX6_noCase_2 : decode cX6_noCase 2 = .ok (.lconst 0, 1) := by decide +kernel
theorem dX6_noCase_3 : decode cX6_noCase 3 = .ok (.ldc2_w 119, 3) := by decide +kernel
theorem dX6_noCase_6 : decode cX6_noCase 6 = .ok (.invokestatic 110, 3) := by decide +kernel
theorem dX6_noCase_9 : decode cX6_noCase 9 = .ok (.ifCond .eq 12, 3) := by decide +kernel
theorem dX6_noCase_12 : decode cX6_noCase 12 = .ok (.aload_n 0, 1) := by decide +kernel
theorem dX6_noCase_13 : decode cX6_noCase 13 = .ok (.getfield 7, 3) := by decide +kernel
theorem dX6_noCase_16 : decode cX6_noCase 16 = .ok (.iload_n 1, 1) := by decide +kernel
theorem dX6_noCase_17 : decode cX6_noCase 17 = .ok (.baload, 1) := by decide +kernel
theorem dX6_noCase_18 : decode cX6_noCase 18 = .ok (.ifCond .ne 7, 3) := by decide +kernel
theorem dX6_noCase_21 : decode cX6_noCase 21 = .ok (.iconst 1, 1) := by decide +kernel
theorem dX6_noCase_22 : decode cX6_noCase 22 = .ok (.goto 4, 3) := by decide +kernel
theorem dX6_noCase_25 : decode cX6_noCase 25 = .ok (.iconst 0, 1) := by decide +kernel
theorem dX6_noCase_26 : decode cX6_noCase 26 = .ok (.ireturn, 1) := by decide +kernel
theorem dX6_drop_0 : decode cX6_drop 0 = .ok (.aload_n 0, 1) := by decide +kernel
theorem dX6_drop_1 : decode cX6_drop 1 = .ok (.iload_n 1, 1) := by decide +kernel
theorem dX6_drop_2 : decode cX6_drop 2 = .ok (.invokevirtual 121, 3) := by decide +kernel
theorem dX6_drop_5 : decode cX6_drop 5 = .ok (.ifCond .eq 6, 3) := by decide +kernel
theorem dX6_drop_8 : decode cX6_drop 8 = .ok (.bipush (-101), 2) := by decide +kernel
theorem dX6_drop_10 : decode cX6_drop 10 = .ok (.ireturn, 1) := by decide +kernel
theorem dX6_drop_11 : decode cX6_drop 11 = .ok (.aload_n 0, 1) := by decide +kernel
theorem dX6_drop_12 : decode cX6_drop 12 = .ok (.getfield 7, 3) := by decide +kernel
theorem dX6_drop_15 : decode cX6_drop 15 = .ok (.iload_n 1, 1) := by decide +kernel
theorem dX6_drop_16 : decode cX6_drop 16 = .ok (.iconst 0, 1) := by decide +kernel
theorem dX6_drop_17 : decode cX6_drop 17 = .ok (.bastore, 1) := by decide +kernel
theorem dX6_drop_18 : decode cX6_drop 18 = .ok (.aload_n 0, 1) := by decide +kernel
theorem dX6_drop_19 : decode cX6_drop 19 = .ok (.dup, 1) := by decide +kernel
theorem dX6_drop_20 : decode cX6_drop 20 = .ok (.getfield 116, 3) := by decide +kernel
theorem dX6_drop_23 : decode cX6_drop 23 = .ok (.iconst 1, 1) := by decide +kernel
theorem dX6_drop_24 : decode cX6_drop 24 = .ok (.isub, 1) := by decide +kernel
theorem dX6_drop_25 : decode cX6_drop 25 = .ok (.putfield 116, 3) := by decide +kernel
theorem dX6_drop_28 : decode cX6_drop 28 = .ok (.aload_n 0, 1) := by decide +kernel
theorem dX6_drop_29 : decode cX6_drop 29 = .ok (.getfield 116, 3) := by decide +kernel
theorem dX6_drop_32 : decode cX6_drop 32 = .ok (.ireturn, 1) := by decide +kernel
theorem dX6_rest_0 : decode cX6_rest 0 = .ok (.iload_n 1, 1) := by decide +kernel
theorem dX6_rest_1 : decode cX6_rest 1 = .ok (.i2l, 1) := by decide +kernel
theorem dX6_rest_2 : decode cX6_rest 2 = .ok (.lconst 0, 1) := by decide +kernel
theorem dX6_rest_3 : decode cX6_rest 3 = .ok (.ldc2_w 108, 3) := by decide +kernel
theorem dX6_rest_6 : decode cX6_rest 6 = .ok (.invokestatic 110, 3) := by decide +kernel
theorem dX6_rest_9 : decode cX6_rest 9 = .ok (.ifCond .eq 15, 3) := by decide +kernel
theorem dX6_rest_12 : decode cX6_rest 12 = .ok (.iload_n 2, 1) := by decide +kernel
theorem dX6_rest_13 : decode cX6_rest 13 = .ok (.i2l, 1) := by decide +kernel
theorem dX6_rest_14 : decode cX6_rest 14 = .ok (.lconst 0, 1) := by decide +kernel
theorem dX6_rest_15 : decode cX6_rest 15 = .ok (.ldc2_w 114, 3) := by decide +kernel
theorem dX6_rest_18 : decode cX6_rest 18 = .ok (.invokestatic 110, 3) := by decide +kernel
theorem dX6_rest_21 : decode cX6_rest 21 = .ok (.ifCond .ne 6, 3) := by decide +kernel
theorem dX6_rest_24 : decode cX6_rest 24 = .ok (.bipush (-102), 2) := by decide +kernel
theorem dX6_rest_26 : decode cX6_rest 26 = .ok (.ireturn, 1) := by decide +kernel
theorem dX6_rest_27 : decode cX6_rest 27 = .ok (.aload_n 0, 1) := by decide +kernel
theorem dX6_rest_28 : decode cX6_rest 28 = .ok (.getfield 125, 3) := by decide +kernel
theorem dX6_rest_31 : decode cX6_rest 31 = .ok (.istore_n 3, 1) := by decide +kernel
theorem dX6_rest_32 : decode cX6_rest 32 = .ok (.aload_n 0, 1) := by decide +kernel
theorem dX6_rest_33 : decode cX6_rest 33 = .ok (.iload_n 1, 1) := by decide +kernel
theorem dX6_rest_34 : decode cX6_rest 34 = .ok (.putfield 125, 3) := by decide +kernel
theorem dX6_rest_37 : decode cX6_rest 37 = .ok (.aload_n 0, 1) := by decide +kernel
theorem dX6_rest_38 : decode cX6_rest 38 = .ok (.iload_n 2, 1) := by decide +kernel
theorem dX6_rest_39 : decode cX6_rest 39 = .ok (.putfield 128, 3) := by decide +kernel
theorem dX6_rest_42 : decode cX6_rest 42 = .ok (.iload_n 3, 1) := by decide +kernel
theorem dX6_rest_43 : decode cX6_rest 43 = .ok (.ireturn, 1) := by decide +kernel
theorem dX6_tables_0 : decode cX6_tables 0 = .ok (.iload_n 1, 1) := by decide +kernel
theorem dX6_tables_1 : decode cX6_tables 1 = .ok (.i2l, 1) := by decide +kernel
theorem dX6_tables_2 : decode cX6_tables 2 = .ok (.lconst 1, 1) := by decide +kernel
theorem dX6_tables_3 : decode cX6_tables 3 = .ok (.ldc2_w 131, 3) := by decide +kernel
theorem dX6_tables_6 : decode cX6_tables 6 = .ok (.invokestatic 110, 3) := by decide +kernel
theorem dX6_tables_9 : decode cX6_tables 9 = .ok (.ifCond .eq 15, 3) := by decide +kernel
theorem dX6_tables_12 : decode cX6_tables 12 = .ok (.iload_n 2, 1) := by decide +kernel
theorem dX6_tables_13 : decode cX6_tables 13 = .ok (.i2l, 1) := by decide +kernel
theorem dX6_tables_14 : decode cX6_tables 14 = .ok (.lconst 1, 1) := by decide +kernel
theorem dX6_tables_15 : decode cX6_tables 15 = .ok (.ldc2_w 133, 3) := by decide +kernel
theorem dX6_tables_18 : decode cX6_tables 18 = .ok (.invokestatic 110, 3) := by decide +kernel
theorem dX6_tables_21 : decode cX6_tables 21 = .ok (.ifCond .ne 6, 3) := by decide +kernel
theorem dX6_tables_24 : decode cX6_tables 24 = .ok (.bipush (-102), 2) := by decide +kernel
theorem dX6_tables_26 : decode cX6_tables 26 = .ok (.ireturn, 1) := by decide +kernel
theorem dX6_tables_27 : decode cX6_tables 27 = .ok (.aload_n 0, 1) := by decide +kernel
theorem dX6_tables_28 : decode cX6_tables 28 = .ok (.getfield 30, 3) := by decide +kernel
theorem dX6_tables_31 : decode cX6_tables 31 = .ok (.istore_n 3, 1) := by decide +kernel
theorem dX6_tables_32 : decode cX6_tables 32 = .ok (.aload_n 0, 1) := by decide +kernel
theorem dX6_tables_33 : decode cX6_tables 33 = .ok (.iload_n 1, 1) := by decide +kernel
theorem dX6_tables_34 : decode cX6_tables 34 = .ok (.putfield 30, 3) := by decide +kernel
theorem dX6_tables_37 : decode cX6_tables 37 = .ok (.aload_n 0, 1) := by decide +kernel
theorem dX6_tables_38 : decode cX6_tables 38 = .ok (.iload_n 2, 1) := by decide +kernel
theorem dX6_tables_39 : decode cX6_tables 39 = .ok (.putfield 33, 3) := by decide +kernel
theorem dX6_tables_42 : decode cX6_tables 42 = .ok (.iload_n 3, 1) := by decide +kernel
theorem dX6_tables_43 : decode cX6_tables 43 = .ok (.ireturn, 1) := by decide +kernel
theorem dX6_way_0 : decode cX6_way 0 = .ok (.iload_n 1, 1) := by decide +kernel
theorem dX6_way_1 : decode cX6_way 1 = .ok (.i2l, 1) := by decide +kernel
theorem dX6_way_2 : decode cX6_way 2 = .ok (.lconst 0, 1) := by decide +kernel
theorem dX6_way_3 : decode cX6_way 3 = .ok (.lconst 1, 1) := by decide +kernel
theorem dX6_way_4 : decode cX6_way 4 = .ok (.invokestatic 110, 3) := by decide +kernel
theorem dX6_way_7 : decode cX6_way 7 = .ok (.ifCond .ne 6, 3) := by decide +kernel
theorem dX6_way_10 : decode cX6_way 10 = .ok (.bipush (-102), 2) := by decide +kernel
theorem dX6_way_12 : decode cX6_way 12 = .ok (.ireturn, 1) := by decide +kernel
theorem dX6_way_13 : decode cX6_way 13 = .ok (.aload_n 0, 1) := by decide +kernel
theorem dX6_way_14 : decode cX6_way 14 = .ok (.getfield 135, 3) := by decide +kernel
theorem dX6_way_17 : decode cX6_way 17 = .ok (.istore_n 2, 1) := by decide +kernel
theorem dX6_way_18 : decode cX6_way 18 = .ok (.aload_n 0, 1) := by decide +kernel
theorem dX6_way_19 : decode cX6_way 19 = .ok (.iload_n 1, 1) := by decide +kernel
theorem dX6_way_20 : decode cX6_way 20 = .ok (.putfield 135, 3) := by decide +kernel
theorem dX6_way_23 : decode cX6_way 23 = .ok (.iload_n 2, 1) := by decide +kernel
theorem dX6_way_24 : decode cX6_way 24 = .ok (.ireturn, 1) := by decide +kernel
theorem dX6_told_0 : decode cX6_told 0 = .ok (.aload_n 0, 1) := by decide +kernel
theorem dX6_told_1 : decode cX6_told 1 = .ok (.iload_n 1, 1) := by decide +kernel
theorem dX6_told_2 : decode cX6_told 2 = .ok (.invokevirtual 121, 3) := by decide +kernel
theorem dX6_told_5 : decode cX6_told 5 = .ok (.ifCond .eq 6, 3) := by decide +kernel
theorem dX6_told_8 : decode cX6_told 8 = .ok (.bipush (-101), 2) := by decide +kernel
theorem dX6_told_10 : decode cX6_told 10 = .ok (.ireturn, 1) := by decide +kernel
theorem dX6_told_11 : decode cX6_told 11 = .ok (.iload_n 2, 1) := by decide +kernel
theorem dX6_told_12 : decode cX6_told 12 = .ok (.tableswitch 60 0 3 #[32, 39, 46, 53], 32) := by decide +kernel
theorem dX6_told_44 : decode cX6_told 44 = .ok (.aload_n 0, 1) := by decide +kernel
theorem dX6_told_45 : decode cX6_told 45 = .ok (.getfield 13, 3) := by decide +kernel
theorem dX6_told_48 : decode cX6_told 48 = .ok (.iload_n 1, 1) := by decide +kernel
theorem dX6_told_49 : decode cX6_told 49 = .ok (.iaload, 1) := by decide +kernel
theorem dX6_told_50 : decode cX6_told 50 = .ok (.ireturn, 1) := by decide +kernel
theorem dX6_told_51 : decode cX6_told 51 = .ok (.aload_n 0, 1) := by decide +kernel
theorem dX6_told_52 : decode cX6_told 52 = .ok (.getfield 17, 3) := by decide +kernel
theorem dX6_told_55 : decode cX6_told 55 = .ok (.iload_n 1, 1) := by decide +kernel
theorem dX6_told_56 : decode cX6_told 56 = .ok (.iaload, 1) := by decide +kernel
theorem dX6_told_57 : decode cX6_told 57 = .ok (.ireturn, 1) := by decide +kernel
theorem dX6_told_58 : decode cX6_told 58 = .ok (.aload_n 0, 1) := by decide +kernel
theorem dX6_told_59 : decode cX6_told 59 = .ok (.getfield 20, 3) := by decide +kernel
theorem dX6_told_62 : decode cX6_told 62 = .ok (.iload_n 1, 1) := by decide +kernel
theorem dX6_told_63 : decode cX6_told 63 = .ok (.iaload, 1) := by decide +kernel
theorem dX6_told_64 : decode cX6_told 64 = .ok (.ireturn, 1) := by decide +kernel
theorem dX6_told_65 : decode cX6_told 65 = .ok (.aload_n 0, 1) := by decide +kernel
theorem dX6_told_66 : decode cX6_told 66 = .ok (.getfield 23, 3) := by decide +kernel
theorem dX6_told_69 : decode cX6_told 69 = .ok (.iload_n 1, 1) := by decide +kernel
theorem dX6_told_70 : decode cX6_told 70 = .ok (.iaload, 1) := by decide +kernel
theorem dX6_told_71 : decode cX6_told 71 = .ok (.ireturn, 1) := by decide +kernel
theorem dX6_told_72 : decode cX6_told 72 = .ok (.bipush (-102), 2) := by decide +kernel
theorem dX6_told_74 : decode cX6_told 74 = .ok (.ireturn, 1) := by decide +kernel
theorem dX6_makeRuns_0 : decode cX6_makeRuns 0 = .ok (.aload_n 0, 1) := by decide +kernel
theorem dX6_makeRuns_1 : decode cX6_makeRuns 1 = .ok (.iconst 0, 1) := by decide +kernel
theorem dX6_makeRuns_2 : decode cX6_makeRuns 2 = .ok (.putfield 138, 3) := by decide +kernel
theorem dX6_makeRuns_5 : decode cX6_makeRuns 5 = .ok (.iconst 1, 1) := by decide +kernel
theorem dX6_makeRuns_6 : decode cX6_makeRuns 6 = .ok (.istore_n 1, 1) := by decide +kernel
theorem dX6_makeRuns_7 : decode cX6_makeRuns 7 = .ok (.ldc2_w 141, 3) := by decide +kernel
theorem dX6_makeRuns_10 : decode cX6_makeRuns 10 = .ok (.lstore_n 2, 1) := by decide +kernel
theorem dX6_makeRuns_11 : decode cX6_makeRuns 11 = .ok (.iload_n 1, 1) := by decide +kernel
theorem dX6_makeRuns_12 : decode cX6_makeRuns 12 = .ok (.ifCond .eq 301, 3) := by decide +kernel
theorem dX6_makeRuns_15 : decode cX6_makeRuns 15 = .ok (.iconst (-1), 1) := by decide +kernel
theorem dX6_makeRuns_16 : decode cX6_makeRuns 16 = .ok (.istore 4, 2) := by decide +kernel
theorem dX6_makeRuns_18 : decode cX6_makeRuns 18 = .ok (.iconst 0, 1) := by decide +kernel
theorem dX6_makeRuns_19 : decode cX6_makeRuns 19 = .ok (.istore 5, 2) := by decide +kernel
theorem dX6_makeRuns_21 : decode cX6_makeRuns 21 = .ok (.iload 5, 2) := by decide +kernel
theorem dX6_makeRuns_23 : decode cX6_makeRuns 23 = .ok (.bipush 24, 2) := by decide +kernel
theorem dX6_makeRuns_25 : decode cX6_makeRuns 25 = .ok (.if_icmp .ge 89, 3) := by decide +kernel
theorem dX6_makeRuns_28 : decode cX6_makeRuns 28 = .ok (.aload_n 0, 1) := by decide +kernel
theorem dX6_makeRuns_29 : decode cX6_makeRuns 29 = .ok (.getfield 7, 3) := by decide +kernel
theorem dX6_makeRuns_32 : decode cX6_makeRuns 32 = .ok (.iload 5, 2) := by decide +kernel
theorem dX6_makeRuns_34 : decode cX6_makeRuns 34 = .ok (.baload, 1) := by decide +kernel
theorem dX6_makeRuns_35 : decode cX6_makeRuns 35 = .ok (.ifCond .eq 34, 3) := by decide +kernel
theorem dX6_makeRuns_38 : decode cX6_makeRuns 38 = .ok (.aload_n 0, 1) := by decide +kernel
theorem dX6_makeRuns_39 : decode cX6_makeRuns 39 = .ok (.getfield 20, 3) := by decide +kernel
theorem dX6_makeRuns_42 : decode cX6_makeRuns 42 = .ok (.iload 5, 2) := by decide +kernel
theorem dX6_makeRuns_44 : decode cX6_makeRuns 44 = .ok (.iaload, 1) := by decide +kernel
theorem dX6_makeRuns_45 : decode cX6_makeRuns 45 = .ok (.aload_n 0, 1) := by decide +kernel
theorem dX6_makeRuns_46 : decode cX6_makeRuns 46 = .ok (.getfield 125, 3) := by decide +kernel
theorem dX6_makeRuns_49 : decode cX6_makeRuns 49 = .ok (.if_icmp .eq 20, 3) := by decide +kernel
theorem dX6_makeRuns_52 : decode cX6_makeRuns 52 = .ok (.aload_n 0, 1) := by decide +kernel
theorem dX6_makeRuns_53 : decode cX6_makeRuns 53 = .ok (.getfield 13, 3) := by decide +kernel
theorem dX6_makeRuns_56 : decode cX6_makeRuns 56 = .ok (.iload 5, 2) := by decide +kernel
theorem dX6_makeRuns_58 : decode cX6_makeRuns 58 = .ok (.iaload, 1) := by decide +kernel
theorem dX6_makeRuns_59 : decode cX6_makeRuns 59 = .ok (.i2l, 1) := by decide +kernel
theorem dX6_makeRuns_60 : decode cX6_makeRuns 60 = .ok (.lload_n 2, 1) := by decide +kernel
theorem dX6_makeRuns_61 : decode cX6_makeRuns 61 = .ok (.lcmp, 1) := by decide +kernel
theorem dX6_makeRuns_62 : decode cX6_makeRuns 62 = .ok (.ifCond .lt 7, 3) := by decide +kernel
theorem dX6_makeRuns_65 : decode cX6_makeRuns 65 = .ok (.iconst 1, 1) := by decide +kernel
theorem dX6_makeRuns_66 : decode cX6_makeRuns 66 = .ok (.goto 4, 3) := by decide +kernel
theorem dX6_makeRuns_69 : decode cX6_makeRuns 69 = .ok (.iconst 0, 1) := by decide +kernel
theorem dX6_makeRuns_70 : decode cX6_makeRuns 70 = .ok (.istore 6, 2) := by decide +kernel
theorem dX6_makeRuns_72 : decode cX6_makeRuns 72 = .ok (.iload 6, 2) := by decide +kernel
theorem dX6_makeRuns_74 : decode cX6_makeRuns 74 = .ok (.ifCond .eq 30, 3) := by decide +kernel
theorem dX6_makeRuns_77 : decode cX6_makeRuns 77 = .ok (.iload 4, 2) := by decide +kernel
theorem dX6_makeRuns_79 : decode cX6_makeRuns 79 = .ok (.ifCond .lt 20, 3) := by decide +kernel
theorem dX6_makeRuns_82 : decode cX6_makeRuns 82 = .ok (.aload_n 0, 1) := by decide +kernel
theorem dX6_makeRuns_83 : decode cX6_makeRuns 83 = .ok (.getfield 13, 3) := by decide +kernel
theorem dX6_makeRuns_86 : decode cX6_makeRuns 86 = .ok (.iload 5, 2) := by decide +kernel
theorem dX6_makeRuns_88 : decode cX6_makeRuns 88 = .ok (.iaload, 1) := by decide +kernel
theorem dX6_makeRuns_89 : decode cX6_makeRuns 89 = .ok (.aload_n 0, 1) := by decide +kernel
theorem dX6_makeRuns_90 : decode cX6_makeRuns 90 = .ok (.getfield 13, 3) := by decide +kernel
theorem dX6_makeRuns_93 : decode cX6_makeRuns 93 = .ok (.iload 4, 2) := by decide +kernel
theorem dX6_makeRuns_95 : decode cX6_makeRuns 95 = .ok (.iaload, 1) := by decide +kernel
theorem dX6_makeRuns_96 : decode cX6_makeRuns 96 = .ok (.if_icmp .ge 8, 3) := by decide +kernel
theorem dX6_makeRuns_99 : decode cX6_makeRuns 99 = .ok (.iload 5, 2) := by decide +kernel
theorem dX6_makeRuns_101 : decode cX6_makeRuns 101 = .ok (.goto 5, 3) := by decide +kernel
theorem dX6_makeRuns_104 : decode cX6_makeRuns 104 = .ok (.iload 4, 2) := by decide +kernel
theorem dX6_makeRuns_106 : decode cX6_makeRuns 106 = .ok (.istore 4, 2) := by decide +kernel
theorem dX6_makeRuns_108 : decode cX6_makeRuns 108 = .ok (.iinc 5 1, 3) := by decide +kernel
theorem dX6_makeRuns_111 : decode cX6_makeRuns 111 = .ok (.goto (-90), 3) := by decide +kernel
theorem dX6_makeRuns_114 : decode cX6_makeRuns 114 = .ok (.iload 4, 2) := by decide +kernel
theorem dX6_makeRuns_116 : decode cX6_makeRuns 116 = .ok (.ifCond .lt 7, 3) := by decide +kernel
theorem dX6_makeRuns_119 : decode cX6_makeRuns 119 = .ok (.iconst 1, 1) := by decide +kernel
theorem dX6_makeRuns_120 : decode cX6_makeRuns 120 = .ok (.goto 4, 3) := by decide +kernel
theorem dX6_makeRuns_123 : decode cX6_makeRuns 123 = .ok (.iconst 0, 1) := by decide +kernel
theorem dX6_makeRuns_124 : decode cX6_makeRuns 124 = .ok (.istore_n 1, 1) := by decide +kernel
theorem dX6_makeRuns_125 : decode cX6_makeRuns 125 = .ok (.iload_n 1, 1) := by decide +kernel
theorem dX6_makeRuns_126 : decode cX6_makeRuns 126 = .ok (.ifCond .eq 184, 3) := by decide +kernel
theorem dX6_makeRuns_129 : decode cX6_makeRuns 129 = .ok (.aload_n 0, 1) := by decide +kernel
theorem dX6_makeRuns_130 : decode cX6_makeRuns 130 = .ok (.getfield 17, 3) := by decide +kernel
theorem dX6_makeRuns_133 : decode cX6_makeRuns 133 = .ok (.iload 4, 2) := by decide +kernel
theorem dX6_makeRuns_135 : decode cX6_makeRuns 135 = .ok (.iaload, 1) := by decide +kernel
theorem dX6_makeRuns_136 : decode cX6_makeRuns 136 = .ok (.i2l, 1) := by decide +kernel
theorem dX6_makeRuns_137 : decode cX6_makeRuns 137 = .ok (.lconst 1, 1) := by decide +kernel
theorem dX6_makeRuns_138 : decode cX6_makeRuns 138 = .ok (.ladd, 1) := by decide +kernel
theorem dX6_makeRuns_139 : decode cX6_makeRuns 139 = .ok (.lstore_n 2, 1) := by decide +kernel
theorem dX6_makeRuns_140 : decode cX6_makeRuns 140 = .ok (.aload_n 0, 1) := by decide +kernel
theorem dX6_makeRuns_141 : decode cX6_makeRuns 141 = .ok (.getfield 138, 3) := by decide +kernel
theorem dX6_makeRuns_144 : decode cX6_makeRuns 144 = .ok (.ifCond .le 92, 3) := by decide +kernel
theorem dX6_makeRuns_147 : decode cX6_makeRuns 147 = .ok (.aload_n 0, 1) := by decide +kernel
theorem dX6_makeRuns_148 : decode cX6_makeRuns 148 = .ok (.getfield 39, 3) := by decide +kernel
theorem dX6_makeRuns_151 : decode cX6_makeRuns 151 = .ok (.aload_n 0, 1) := by decide +kernel
theorem dX6_makeRuns_152 : decode cX6_makeRuns 152 = .ok (.getfield 138, 3) := by decide +kernel
theorem dX6_makeRuns_155 : decode cX6_makeRuns 155 = .ok (.iconst 1, 1) := by decide +kernel
theorem dX6_makeRuns_156 : decode cX6_makeRuns 156 = .ok (.isub, 1) := by decide +kernel
theorem dX6_makeRuns_157 : decode cX6_makeRuns 157 = .ok (.iaload, 1) := by decide +kernel
theorem dX6_makeRuns_158 : decode cX6_makeRuns 158 = .ok (.i2l, 1) := by decide +kernel
theorem dX6_makeRuns_159 : decode cX6_makeRuns 159 = .ok (.lconst 1, 1) := by decide +kernel
theorem dX6_makeRuns_160 : decode cX6_makeRuns 160 = .ok (.ladd, 1) := by decide +kernel
theorem dX6_makeRuns_161 : decode cX6_makeRuns 161 = .ok (.aload_n 0, 1) := by decide +kernel
theorem dX6_makeRuns_162 : decode cX6_makeRuns 162 = .ok (.getfield 13, 3) := by decide +kernel
theorem dX6_makeRuns_165 : decode cX6_makeRuns 165 = .ok (.iload 4, 2) := by decide +kernel
theorem dX6_makeRuns_167 : decode cX6_makeRuns 167 = .ok (.iaload, 1) := by decide +kernel
theorem dX6_makeRuns_168 : decode cX6_makeRuns 168 = .ok (.i2l, 1) := by decide +kernel
theorem dX6_makeRuns_169 : decode cX6_makeRuns 169 = .ok (.lcmp, 1) := by decide +kernel
theorem dX6_makeRuns_170 : decode cX6_makeRuns 170 = .ok (.ifCond .ne 66, 3) := by decide +kernel
theorem dX6_makeRuns_173 : decode cX6_makeRuns 173 = .ok (.aload_n 0, 1) := by decide +kernel
theorem dX6_makeRuns_174 : decode cX6_makeRuns 174 = .ok (.getfield 42, 3) := by decide +kernel
theorem dX6_makeRuns_177 : decode cX6_makeRuns 177 = .ok (.aload_n 0, 1) := by decide +kernel
theorem dX6_makeRuns_178 : decode cX6_makeRuns 178 = .ok (.getfield 138, 3) := by decide +kernel
theorem dX6_makeRuns_181 : decode cX6_makeRuns 181 = .ok (.iconst 1, 1) := by decide +kernel
theorem dX6_makeRuns_182 : decode cX6_makeRuns 182 = .ok (.isub, 1) := by decide +kernel
theorem dX6_makeRuns_183 : decode cX6_makeRuns 183 = .ok (.iaload, 1) := by decide +kernel
theorem dX6_makeRuns_184 : decode cX6_makeRuns 184 = .ok (.aload_n 0, 1) := by decide +kernel
theorem dX6_makeRuns_185 : decode cX6_makeRuns 185 = .ok (.getfield 20, 3) := by decide +kernel
theorem dX6_makeRuns_188 : decode cX6_makeRuns 188 = .ok (.iload 4, 2) := by decide +kernel
theorem dX6_makeRuns_190 : decode cX6_makeRuns 190 = .ok (.iaload, 1) := by decide +kernel
theorem dX6_makeRuns_191 : decode cX6_makeRuns 191 = .ok (.if_icmp .ne 45, 3) := by decide +kernel
theorem dX6_makeRuns_194 : decode cX6_makeRuns 194 = .ok (.aload_n 0, 1) := by decide +kernel
theorem dX6_makeRuns_195 : decode cX6_makeRuns 195 = .ok (.getfield 39, 3) := by decide +kernel
theorem dX6_makeRuns_198 : decode cX6_makeRuns 198 = .ok (.aload_n 0, 1) := by decide +kernel
theorem dX6_makeRuns_199 : decode cX6_makeRuns 199 = .ok (.getfield 138, 3) := by decide +kernel
theorem dX6_makeRuns_202 : decode cX6_makeRuns 202 = .ok (.iconst 1, 1) := by decide +kernel
theorem dX6_makeRuns_203 : decode cX6_makeRuns 203 = .ok (.isub, 1) := by decide +kernel
theorem dX6_makeRuns_204 : decode cX6_makeRuns 204 = .ok (.aload_n 0, 1) := by decide +kernel
theorem dX6_makeRuns_205 : decode cX6_makeRuns 205 = .ok (.getfield 17, 3) := by decide +kernel
theorem dX6_makeRuns_208 : decode cX6_makeRuns 208 = .ok (.iload 4, 2) := by decide +kernel
theorem dX6_makeRuns_210 : decode cX6_makeRuns 210 = .ok (.iaload, 1) := by decide +kernel
theorem dX6_makeRuns_211 : decode cX6_makeRuns 211 = .ok (.iastore, 1) := by decide +kernel
theorem dX6_makeRuns_212 : decode cX6_makeRuns 212 = .ok (.aload_n 0, 1) := by decide +kernel
theorem dX6_makeRuns_213 : decode cX6_makeRuns 213 = .ok (.getfield 45, 3) := by decide +kernel
theorem dX6_makeRuns_216 : decode cX6_makeRuns 216 = .ok (.aload_n 0, 1) := by decide +kernel
theorem dX6_makeRuns_217 : decode cX6_makeRuns 217 = .ok (.getfield 138, 3) := by decide +kernel
theorem dX6_makeRuns_220 : decode cX6_makeRuns 220 = .ok (.iconst 1, 1) := by decide +kernel
theorem dX6_makeRuns_221 : decode cX6_makeRuns 221 = .ok (.isub, 1) := by decide +kernel
theorem dX6_makeRuns_222 : decode cX6_makeRuns 222 = .ok (.dup2, 1) := by decide +kernel
theorem dX6_makeRuns_223 : decode cX6_makeRuns 223 = .ok (.iaload, 1) := by decide +kernel
theorem dX6_makeRuns_224 : decode cX6_makeRuns 224 = .ok (.aload_n 0, 1) := by decide +kernel
theorem dX6_makeRuns_225 : decode cX6_makeRuns 225 = .ok (.getfield 23, 3) := by decide +kernel
theorem dX6_makeRuns_228 : decode cX6_makeRuns 228 = .ok (.iload 4, 2) := by decide +kernel
theorem dX6_makeRuns_230 : decode cX6_makeRuns 230 = .ok (.iaload, 1) := by decide +kernel
theorem dX6_makeRuns_231 : decode cX6_makeRuns 231 = .ok (.iadd, 1) := by decide +kernel
theorem dX6_makeRuns_232 : decode cX6_makeRuns 232 = .ok (.iastore, 1) := by decide +kernel
theorem dX6_makeRuns_233 : decode cX6_makeRuns 233 = .ok (.goto 77, 3) := by decide +kernel
theorem dX6_makeRuns_236 : decode cX6_makeRuns 236 = .ok (.aload_n 0, 1) := by decide +kernel
theorem dX6_makeRuns_237 : decode cX6_makeRuns 237 = .ok (.getfield 36, 3) := by decide +kernel
theorem dX6_makeRuns_240 : decode cX6_makeRuns 240 = .ok (.aload_n 0, 1) := by decide +kernel
theorem dX6_makeRuns_241 : decode cX6_makeRuns 241 = .ok (.getfield 138, 3) := by decide +kernel
theorem dX6_makeRuns_244 : decode cX6_makeRuns 244 = .ok (.aload_n 0, 1) := by decide +kernel
theorem dX6_makeRuns_245 : decode cX6_makeRuns 245 = .ok (.getfield 13, 3) := by decide +kernel
theorem dX6_makeRuns_248 : decode cX6_makeRuns 248 = .ok (.iload 4, 2) := by decide +kernel
theorem dX6_makeRuns_250 : decode cX6_makeRuns 250 = .ok (.iaload, 1) := by decide +kernel
theorem dX6_makeRuns_251 : decode cX6_makeRuns 251 = .ok (.iastore, 1) := by decide +kernel
theorem dX6_makeRuns_252 : decode cX6_makeRuns 252 = .ok (.aload_n 0, 1) := by decide +kernel
theorem dX6_makeRuns_253 : decode cX6_makeRuns 253 = .ok (.getfield 39, 3) := by decide +kernel
theorem dX6_makeRuns_256 : decode cX6_makeRuns 256 = .ok (.aload_n 0, 1) := by decide +kernel
theorem dX6_makeRuns_257 : decode cX6_makeRuns 257 = .ok (.getfield 138, 3) := by decide +kernel
theorem dX6_makeRuns_260 : decode cX6_makeRuns 260 = .ok (.aload_n 0, 1) := by decide +kernel
theorem dX6_makeRuns_261 : decode cX6_makeRuns 261 = .ok (.getfield 17, 3) := by decide +kernel
theorem dX6_makeRuns_264 : decode cX6_makeRuns 264 = .ok (.iload 4, 2) := by decide +kernel
theorem dX6_makeRuns_266 : decode cX6_makeRuns 266 = .ok (.iaload, 1) := by decide +kernel
theorem dX6_makeRuns_267 : decode cX6_makeRuns 267 = .ok (.iastore, 1) := by decide +kernel
theorem dX6_makeRuns_268 : decode cX6_makeRuns 268 = .ok (.aload_n 0, 1) := by decide +kernel
theorem dX6_makeRuns_269 : decode cX6_makeRuns 269 = .ok (.getfield 42, 3) := by decide +kernel
theorem dX6_makeRuns_272 : decode cX6_makeRuns 272 = .ok (.aload_n 0, 1) := by decide +kernel
theorem dX6_makeRuns_273 : decode cX6_makeRuns 273 = .ok (.getfield 138, 3) := by decide +kernel
theorem dX6_makeRuns_276 : decode cX6_makeRuns 276 = .ok (.aload_n 0, 1) := by decide +kernel
theorem dX6_makeRuns_277 : decode cX6_makeRuns 277 = .ok (.getfield 20, 3) := by decide +kernel
theorem dX6_makeRuns_280 : decode cX6_makeRuns 280 = .ok (.iload 4, 2) := by decide +kernel
theorem dX6_makeRuns_282 : decode cX6_makeRuns 282 = .ok (.iaload, 1) := by decide +kernel
theorem dX6_makeRuns_283 : decode cX6_makeRuns 283 = .ok (.iastore, 1) := by decide +kernel
theorem dX6_makeRuns_284 : decode cX6_makeRuns 284 = .ok (.aload_n 0, 1) := by decide +kernel
theorem dX6_makeRuns_285 : decode cX6_makeRuns 285 = .ok (.getfield 45, 3) := by decide +kernel
theorem dX6_makeRuns_288 : decode cX6_makeRuns 288 = .ok (.aload_n 0, 1) := by decide +kernel
theorem dX6_makeRuns_289 : decode cX6_makeRuns 289 = .ok (.getfield 138, 3) := by decide +kernel
theorem dX6_makeRuns_292 : decode cX6_makeRuns 292 = .ok (.aload_n 0, 1) := by decide +kernel
theorem dX6_makeRuns_293 : decode cX6_makeRuns 293 = .ok (.getfield 23, 3) := by decide +kernel
theorem dX6_makeRuns_296 : decode cX6_makeRuns 296 = .ok (.iload 4, 2) := by decide +kernel
theorem dX6_makeRuns_298 : decode cX6_makeRuns 298 = .ok (.iaload, 1) := by decide +kernel
theorem dX6_makeRuns_299 : decode cX6_makeRuns 299 = .ok (.iastore, 1) := by decide +kernel
theorem dX6_makeRuns_300 : decode cX6_makeRuns 300 = .ok (.aload_n 0, 1) := by decide +kernel
theorem dX6_makeRuns_301 : decode cX6_makeRuns 301 = .ok (.dup, 1) := by decide +kernel
theorem dX6_makeRuns_302 : decode cX6_makeRuns 302 = .ok (.getfield 138, 3) := by decide +kernel
theorem dX6_makeRuns_305 : decode cX6_makeRuns 305 = .ok (.iconst 1, 1) := by decide +kernel
theorem dX6_makeRuns_306 : decode cX6_makeRuns 306 = .ok (.iadd, 1) := by decide +kernel
theorem dX6_makeRuns_307 : decode cX6_makeRuns 307 = .ok (.putfield 138, 3) := by decide +kernel
theorem dX6_makeRuns_310 : decode cX6_makeRuns 310 = .ok (.goto (-299), 3) := by decide +kernel
theorem dX6_makeRuns_313 : decode cX6_makeRuns 313 = .ok (.return_, 1) := by decide +kernel
theorem dX6_kindOf_0 : decode cX6_kindOf 0 = .ok (.iload_n 1, 1) := by decide +kernel
theorem dX6_kindOf_1 : decode cX6_kindOf 1 = .ok (.iload_n 2, 1) := by decide +kernel
theorem dX6_kindOf_2 : decode cX6_kindOf 2 = .ok (.if_icmp .ne 5, 3) := by decide +kernel
theorem dX6_kindOf_5 : decode cX6_kindOf 5 = .ok (.iconst 0, 1) := by decide +kernel
theorem dX6_kindOf_6 : decode cX6_kindOf 6 = .ok (.ireturn, 1) := by decide +kernel
theorem dX6_kindOf_7 : decode cX6_kindOf 7 = .ok (.aload_n 0, 1) := by decide +kernel
theorem dX6_kindOf_8 : decode cX6_kindOf 8 = .ok (.getfield 39, 3) := by decide +kernel
theorem dX6_kindOf_11 : decode cX6_kindOf 11 = .ok (.iload_n 2, 1) := by decide +kernel
theorem dX6_kindOf_12 : decode cX6_kindOf 12 = .ok (.iaload, 1) := by decide +kernel
theorem dX6_kindOf_13 : decode cX6_kindOf 13 = .ok (.i2l, 1) := by decide +kernel
theorem dX6_kindOf_14 : decode cX6_kindOf 14 = .ok (.aload_n 0, 1) := by decide +kernel
theorem dX6_kindOf_15 : decode cX6_kindOf 15 = .ok (.getfield 36, 3) := by decide +kernel
theorem dX6_kindOf_18 : decode cX6_kindOf 18 = .ok (.iload_n 1, 1) := by decide +kernel
theorem dX6_kindOf_19 : decode cX6_kindOf 19 = .ok (.iaload, 1) := by decide +kernel
theorem dX6_kindOf_20 : decode cX6_kindOf 20 = .ok (.i2l, 1) := by decide +kernel
theorem dX6_kindOf_21 : decode cX6_kindOf 21 = .ok (.lsub, 1) := by decide +kernel
theorem dX6_kindOf_22 : decode cX6_kindOf 22 = .ok (.lconst 1, 1) := by decide +kernel
theorem dX6_kindOf_23 : decode cX6_kindOf 23 = .ok (.ladd, 1) := by decide +kernel
theorem dX6_kindOf_24 : decode cX6_kindOf 24 = .ok (.lstore_n 3, 1) := by decide +kernel
theorem dX6_kindOf_25 : decode cX6_kindOf 25 = .ok (.lconst 0, 1) := by decide +kernel
theorem dX6_kindOf_26 : decode cX6_kindOf 26 = .ok (.lstore 5, 2) := by decide +kernel
theorem dX6_kindOf_28 : decode cX6_kindOf 28 = .ok (.iconst 0, 1) := by decide +kernel
theorem dX6_kindOf_29 : decode cX6_kindOf 29 = .ok (.istore 7, 2) := by decide +kernel
theorem dX6_kindOf_31 : decode cX6_kindOf 31 = .ok (.iload_n 1, 1) := by decide +kernel
theorem dX6_kindOf_32 : decode cX6_kindOf 32 = .ok (.istore 8, 2) := by decide +kernel
theorem dX6_kindOf_34 : decode cX6_kindOf 34 = .ok (.iload 8, 2) := by decide +kernel
theorem dX6_kindOf_36 : decode cX6_kindOf 36 = .ok (.iload_n 2, 1) := by decide +kernel
theorem dX6_kindOf_37 : decode cX6_kindOf 37 = .ok (.if_icmp .gt 96, 3) := by decide +kernel
theorem dX6_kindOf_40 : decode cX6_kindOf 40 = .ok (.lload 5, 2) := by decide +kernel
theorem dX6_kindOf_42 : decode cX6_kindOf 42 = .ok (.aload_n 0, 1) := by decide +kernel
theorem dX6_kindOf_43 : decode cX6_kindOf 43 = .ok (.getfield 39, 3) := by decide +kernel
theorem dX6_kindOf_46 : decode cX6_kindOf 46 = .ok (.iload 8, 2) := by decide +kernel
theorem dX6_kindOf_48 : decode cX6_kindOf 48 = .ok (.iaload, 1) := by decide +kernel
theorem dX6_kindOf_49 : decode cX6_kindOf 49 = .ok (.i2l, 1) := by decide +kernel
theorem dX6_kindOf_50 : decode cX6_kindOf 50 = .ok (.aload_n 0, 1) := by decide +kernel
theorem dX6_kindOf_51 : decode cX6_kindOf 51 = .ok (.getfield 36, 3) := by decide +kernel
theorem dX6_kindOf_54 : decode cX6_kindOf 54 = .ok (.iload 8, 2) := by decide +kernel
theorem dX6_kindOf_56 : decode cX6_kindOf 56 = .ok (.iaload, 1) := by decide +kernel
theorem dX6_kindOf_57 : decode cX6_kindOf 57 = .ok (.i2l, 1) := by decide +kernel
theorem dX6_kindOf_58 : decode cX6_kindOf 58 = .ok (.lsub, 1) := by decide +kernel
theorem dX6_kindOf_59 : decode cX6_kindOf 59 = .ok (.lconst 1, 1) := by decide +kernel
theorem dX6_kindOf_60 : decode cX6_kindOf 60 = .ok (.ladd, 1) := by decide +kernel
theorem dX6_kindOf_61 : decode cX6_kindOf 61 = .ok (.ladd, 1) := by decide +kernel
theorem dX6_kindOf_62 : decode cX6_kindOf 62 = .ok (.lstore 5, 2) := by decide +kernel
theorem dX6_kindOf_64 : decode cX6_kindOf 64 = .ok (.iconst 0, 1) := by decide +kernel
theorem dX6_kindOf_65 : decode cX6_kindOf 65 = .ok (.istore 9, 2) := by decide +kernel
theorem dX6_kindOf_67 : decode cX6_kindOf 67 = .ok (.iload_n 1, 1) := by decide +kernel
theorem dX6_kindOf_68 : decode cX6_kindOf 68 = .ok (.istore 10, 2) := by decide +kernel
theorem dX6_kindOf_70 : decode cX6_kindOf 70 = .ok (.iload 10, 2) := by decide +kernel
theorem dX6_kindOf_72 : decode cX6_kindOf 72 = .ok (.iload 8, 2) := by decide +kernel
theorem dX6_kindOf_74 : decode cX6_kindOf 74 = .ok (.if_icmp .ge 38, 3) := by decide +kernel
theorem dX6_kindOf_77 : decode cX6_kindOf 77 = .ok (.iload 9, 2) := by decide +kernel
theorem dX6_kindOf_79 : decode cX6_kindOf 79 = .ok (.ifCond .ne 20, 3) := by decide +kernel
theorem dX6_kindOf_82 : decode cX6_kindOf 82 = .ok (.aload_n 0, 1) := by decide +kernel
theorem dX6_kindOf_83 : decode cX6_kindOf 83 = .ok (.getfield 42, 3) := by decide +kernel
theorem dX6_kindOf_86 : decode cX6_kindOf 86 = .ok (.iload 10, 2) := by decide +kernel
theorem dX6_kindOf_88 : decode cX6_kindOf 88 = .ok (.iaload, 1) := by decide +kernel
theorem dX6_kindOf_89 : decode cX6_kindOf 89 = .ok (.aload_n 0, 1) := by decide +kernel
theorem dX6_kindOf_90 : decode cX6_kindOf 90 = .ok (.getfield 42, 3) := by decide +kernel
theorem dX6_kindOf_93 : decode cX6_kindOf 93 = .ok (.iload 8, 2) := by decide +kernel
theorem dX6_kindOf_95 : decode cX6_kindOf 95 = .ok (.iaload, 1) := by decide +kernel
theorem dX6_kindOf_96 : decode cX6_kindOf 96 = .ok (.if_icmp .ne 7, 3) := by decide +kernel
theorem dX6_kindOf_99 : decode cX6_kindOf 99 = .ok (.iconst 1, 1) := by decide +kernel
theorem dX6_kindOf_100 : decode cX6_kindOf 100 = .ok (.goto 4, 3) := by decide +kernel
theorem dX6_kindOf_103 : decode cX6_kindOf 103 = .ok (.iconst 0, 1) := by decide +kernel
theorem dX6_kindOf_104 : decode cX6_kindOf 104 = .ok (.istore 9, 2) := by decide +kernel
theorem dX6_kindOf_106 : decode cX6_kindOf 106 = .ok (.iinc 10 1, 3) := by decide +kernel
theorem dX6_kindOf_109 : decode cX6_kindOf 109 = .ok (.goto (-39), 3) := by decide +kernel
theorem dX6_kindOf_112 : decode cX6_kindOf 112 = .ok (.iload 7, 2) := by decide +kernel
theorem dX6_kindOf_114 : decode cX6_kindOf 114 = .ok (.iload 9, 2) := by decide +kernel
theorem dX6_kindOf_116 : decode cX6_kindOf 116 = .ok (.ifCond .eq 7, 3) := by decide +kernel
theorem dX6_kindOf_119 : decode cX6_kindOf 119 = .ok (.iconst 0, 1) := by decide +kernel
theorem dX6_kindOf_120 : decode cX6_kindOf 120 = .ok (.goto 4, 3) := by decide +kernel
theorem dX6_kindOf_123 : decode cX6_kindOf 123 = .ok (.iconst 1, 1) := by decide +kernel
theorem dX6_kindOf_124 : decode cX6_kindOf 124 = .ok (.iadd, 1) := by decide +kernel
theorem dX6_kindOf_125 : decode cX6_kindOf 125 = .ok (.istore 7, 2) := by decide +kernel
theorem dX6_kindOf_127 : decode cX6_kindOf 127 = .ok (.iinc 8 1, 3) := by decide +kernel
theorem dX6_kindOf_130 : decode cX6_kindOf 130 = .ok (.goto (-96), 3) := by decide +kernel
theorem dX6_kindOf_133 : decode cX6_kindOf 133 = .ok (.lload_n 3, 1) := by decide +kernel
theorem dX6_kindOf_134 : decode cX6_kindOf 134 = .ok (.ldc2_w 143, 3) := by decide +kernel
theorem dX6_kindOf_137 : decode cX6_kindOf 137 = .ok (.lcmp, 1) := by decide +kernel
theorem dX6_kindOf_138 : decode cX6_kindOf 138 = .ok (.ifCond .gt 11, 3) := by decide +kernel
theorem dX6_kindOf_141 : decode cX6_kindOf 141 = .ok (.iload 7, 2) := by decide +kernel
theorem dX6_kindOf_143 : decode cX6_kindOf 143 = .ok (.iconst 3, 1) := by decide +kernel
theorem dX6_kindOf_144 : decode cX6_kindOf 144 = .ok (.if_icmp .gt 5, 3) := by decide +kernel
theorem dX6_kindOf_147 : decode cX6_kindOf 147 = .ok (.iconst 1, 1) := by decide +kernel
theorem dX6_kindOf_148 : decode cX6_kindOf 148 = .ok (.ireturn, 1) := by decide +kernel
theorem dX6_kindOf_149 : decode cX6_kindOf 149 = .ok (.lload_n 3, 1) := by decide +kernel
theorem dX6_kindOf_150 : decode cX6_kindOf 150 = .ok (.aload_n 0, 1) := by decide +kernel
theorem dX6_kindOf_151 : decode cX6_kindOf 151 = .ok (.getfield 33, 3) := by decide +kernel
theorem dX6_kindOf_154 : decode cX6_kindOf 154 = .ok (.i2l, 1) := by decide +kernel
theorem dX6_kindOf_155 : decode cX6_kindOf 155 = .ok (.lcmp, 1) := by decide +kernel
theorem dX6_kindOf_156 : decode cX6_kindOf 156 = .ok (.ifCond .gt 24, 3) := by decide +kernel
theorem dX6_kindOf_159 : decode cX6_kindOf 159 = .ok (.ldc2_w 131, 3) := by decide +kernel
theorem dX6_kindOf_162 : decode cX6_kindOf 162 = .ok (.lload 5, 2) := by decide +kernel
theorem dX6_kindOf_164 : decode cX6_kindOf 164 = .ok (.lmul, 1) := by decide +kernel
theorem dX6_kindOf_165 : decode cX6_kindOf 165 = .ok (.aload_n 0, 1) := by decide +kernel
theorem dX6_kindOf_166 : decode cX6_kindOf 166 = .ok (.getfield 30, 3) := by decide +kernel
theorem dX6_kindOf_169 : decode cX6_kindOf 169 = .ok (.i2l, 1) := by decide +kernel
theorem dX6_kindOf_170 : decode cX6_kindOf 170 = .ok (.lload_n 3, 1) := by decide +kernel
theorem dX6_kindOf_171 : decode cX6_kindOf 171 = .ok (.lmul, 1) := by decide +kernel
theorem dX6_kindOf_172 : decode cX6_kindOf 172 = .ok (.lcmp, 1) := by decide +kernel
theorem dX6_kindOf_173 : decode cX6_kindOf 173 = .ok (.ifCond .lt 7, 3) := by decide +kernel
theorem dX6_kindOf_176 : decode cX6_kindOf 176 = .ok (.iconst 2, 1) := by decide +kernel
theorem dX6_kindOf_177 : decode cX6_kindOf 177 = .ok (.goto 4, 3) := by decide +kernel
theorem dX6_kindOf_180 : decode cX6_kindOf 180 = .ok (.iconst (-1), 1) := by decide +kernel
theorem dX6_kindOf_181 : decode cX6_kindOf 181 = .ok (.ireturn, 1) := by decide +kernel
theorem dX6_makeClusters_0 : decode cX6_makeClusters 0 = .ok (.aload_n 0, 1) := by decide +kernel
theorem dX6_makeClusters_1 : decode cX6_makeClusters 1 = .ok (.getfield 57, 3) := by decide +kernel
theorem dX6_makeClusters_4 : decode cX6_makeClusters 4 = .ok (.aload_n 0, 1) := by decide +kernel
theorem dX6_makeClusters_5 : decode cX6_makeClusters 5 = .ok (.getfield 138, 3) := by decide +kernel
theorem dX6_makeClusters_8 : decode cX6_makeClusters 8 = .ok (.iconst 0, 1) := by decide +kernel
theorem dX6_makeClusters_9 : decode cX6_makeClusters 9 = .ok (.iastore, 1) := by decide +kernel
theorem dX6_makeClusters_10 : decode cX6_makeClusters 10 = .ok (.aload_n 0, 1) := by decide +kernel
theorem dX6_makeClusters_11 : decode cX6_makeClusters 11 = .ok (.getfield 138, 3) := by decide +kernel
theorem dX6_makeClusters_14 : decode cX6_makeClusters 14 = .ok (.iconst 1, 1) := by decide +kernel
theorem dX6_makeClusters_15 : decode cX6_makeClusters 15 = .ok (.isub, 1) := by decide +kernel
theorem dX6_makeClusters_16 : decode cX6_makeClusters 16 = .ok (.istore_n 1, 1) := by decide +kernel
theorem dX6_makeClusters_17 : decode cX6_makeClusters 17 = .ok (.iload_n 1, 1) := by decide +kernel
theorem dX6_makeClusters_18 : decode cX6_makeClusters 18 = .ok (.ifCond .lt 87, 3) := by decide +kernel
theorem dX6_makeClusters_21 : decode cX6_makeClusters 21 = .ok (.aload_n 0, 1) := by decide +kernel
theorem dX6_makeClusters_22 : decode cX6_makeClusters 22 = .ok (.getfield 57, 3) := by decide +kernel
theorem dX6_makeClusters_25 : decode cX6_makeClusters 25 = .ok (.iload_n 1, 1) := by decide +kernel
theorem dX6_makeClusters_26 : decode cX6_makeClusters 26 = .ok (.iconst 1, 1) := by decide +kernel
theorem dX6_makeClusters_27 : decode cX6_makeClusters 27 = .ok (.aload_n 0, 1) := by decide +kernel
theorem dX6_makeClusters_28 : decode cX6_makeClusters 28 = .ok (.getfield 57, 3) := by decide +kernel
theorem dX6_makeClusters_31 : decode cX6_makeClusters 31 = .ok (.iload_n 1, 1) := by decide +kernel
theorem dX6_makeClusters_32 : decode cX6_makeClusters 32 = .ok (.iconst 1, 1) := by decide +kernel
theorem dX6_makeClusters_33 : decode cX6_makeClusters 33 = .ok (.iadd, 1) := by decide +kernel
theorem dX6_makeClusters_34 : decode cX6_makeClusters 34 = .ok (.iaload, 1) := by decide +kernel
theorem dX6_makeClusters_35 : decode cX6_makeClusters 35 = .ok (.iadd, 1) := by decide +kernel
theorem dX6_makeClusters_36 : decode cX6_makeClusters 36 = .ok (.iastore, 1) := by decide +kernel
theorem dX6_makeClusters_37 : decode cX6_makeClusters 37 = .ok (.iload_n 1, 1) := by decide +kernel
theorem dX6_makeClusters_38 : decode cX6_makeClusters 38 = .ok (.iconst 1, 1) := by decide +kernel
theorem dX6_makeClusters_39 : decode cX6_makeClusters 39 = .ok (.iadd, 1) := by decide +kernel
theorem dX6_makeClusters_40 : decode cX6_makeClusters 40 = .ok (.istore_n 2, 1) := by decide +kernel
theorem dX6_makeClusters_41 : decode cX6_makeClusters 41 = .ok (.iload_n 2, 1) := by decide +kernel
theorem dX6_makeClusters_42 : decode cX6_makeClusters 42 = .ok (.aload_n 0, 1) := by decide +kernel
theorem dX6_makeClusters_43 : decode cX6_makeClusters 43 = .ok (.getfield 138, 3) := by decide +kernel
theorem dX6_makeClusters_46 : decode cX6_makeClusters 46 = .ok (.if_icmp .ge 53, 3) := by decide +kernel
theorem dX6_makeClusters_49 : decode cX6_makeClusters 49 = .ok (.aload_n 0, 1) := by decide +kernel
theorem dX6_makeClusters_50 : decode cX6_makeClusters 50 = .ok (.iload_n 1, 1) := by decide +kernel
theorem dX6_makeClusters_51 : decode cX6_makeClusters 51 = .ok (.iload_n 2, 1) := by decide +kernel
theorem dX6_makeClusters_52 : decode cX6_makeClusters 52 = .ok (.invokevirtual 145, 3) := by decide +kernel
theorem dX6_makeClusters_55 : decode cX6_makeClusters 55 = .ok (.ifCond .lt 38, 3) := by decide +kernel
theorem dX6_makeClusters_58 : decode cX6_makeClusters 58 = .ok (.iconst 1, 1) := by decide +kernel
theorem dX6_makeClusters_59 : decode cX6_makeClusters 59 = .ok (.aload_n 0, 1) := by decide +kernel
theorem dX6_makeClusters_60 : decode cX6_makeClusters 60 = .ok (.getfield 57, 3) := by decide +kernel
theorem dX6_makeClusters_63 : decode cX6_makeClusters 63 = .ok (.iload_n 2, 1) := by decide +kernel
theorem dX6_makeClusters_64 : decode cX6_makeClusters 64 = .ok (.iconst 1, 1) := by decide +kernel
theorem dX6_makeClusters_65 : decode cX6_makeClusters 65 = .ok (.iadd, 1) := by decide +kernel
theorem dX6_makeClusters_66 : decode cX6_makeClusters 66 = .ok (.iaload, 1) := by decide +kernel
theorem dX6_makeClusters_67 : decode cX6_makeClusters 67 = .ok (.iadd, 1) := by decide +kernel
theorem dX6_makeClusters_68 : decode cX6_makeClusters 68 = .ok (.aload_n 0, 1) := by decide +kernel
theorem dX6_makeClusters_69 : decode cX6_makeClusters 69 = .ok (.getfield 57, 3) := by decide +kernel
theorem dX6_makeClusters_72 : decode cX6_makeClusters 72 = .ok (.iload_n 1, 1) := by decide +kernel
theorem dX6_makeClusters_73 : decode cX6_makeClusters 73 = .ok (.iaload, 1) := by decide +kernel
theorem dX6_makeClusters_74 : decode cX6_makeClusters 74 = .ok (.if_icmp .ge 19, 3) := by decide +kernel
theorem dX6_makeClusters_77 : decode cX6_makeClusters 77 = .ok (.aload_n 0, 1) := by decide +kernel
theorem dX6_makeClusters_78 : decode cX6_makeClusters 78 = .ok (.getfield 57, 3) := by decide +kernel
theorem dX6_makeClusters_81 : decode cX6_makeClusters 81 = .ok (.iload_n 1, 1) := by decide +kernel
theorem dX6_makeClusters_82 : decode cX6_makeClusters 82 = .ok (.iconst 1, 1) := by decide +kernel
theorem dX6_makeClusters_83 : decode cX6_makeClusters 83 = .ok (.aload_n 0, 1) := by decide +kernel
theorem dX6_makeClusters_84 : decode cX6_makeClusters 84 = .ok (.getfield 57, 3) := by decide +kernel
theorem dX6_makeClusters_87 : decode cX6_makeClusters 87 = .ok (.iload_n 2, 1) := by decide +kernel
theorem dX6_makeClusters_88 : decode cX6_makeClusters 88 = .ok (.iconst 1, 1) := by decide +kernel
theorem dX6_makeClusters_89 : decode cX6_makeClusters 89 = .ok (.iadd, 1) := by decide +kernel
theorem dX6_makeClusters_90 : decode cX6_makeClusters 90 = .ok (.iaload, 1) := by decide +kernel
theorem dX6_makeClusters_91 : decode cX6_makeClusters 91 = .ok (.iadd, 1) := by decide +kernel
theorem dX6_makeClusters_92 : decode cX6_makeClusters 92 = .ok (.iastore, 1) := by decide +kernel
theorem dX6_makeClusters_93 : decode cX6_makeClusters 93 = .ok (.iinc 2 1, 3) := by decide +kernel
theorem dX6_makeClusters_96 : decode cX6_makeClusters 96 = .ok (.goto (-55), 3) := by decide +kernel
theorem dX6_makeClusters_99 : decode cX6_makeClusters 99 = .ok (.iinc 1 (-1), 3) := by decide +kernel
theorem dX6_makeClusters_102 : decode cX6_makeClusters 102 = .ok (.goto (-85), 3) := by decide +kernel
theorem dX6_makeClusters_105 : decode cX6_makeClusters 105 = .ok (.aload_n 0, 1) := by decide +kernel
theorem dX6_makeClusters_106 : decode cX6_makeClusters 106 = .ok (.iconst 0, 1) := by decide +kernel
theorem dX6_makeClusters_107 : decode cX6_makeClusters 107 = .ok (.putfield 149, 3) := by decide +kernel
theorem dX6_makeClusters_110 : decode cX6_makeClusters 110 = .ok (.iconst 0, 1) := by decide +kernel
theorem dX6_makeClusters_111 : decode cX6_makeClusters 111 = .ok (.istore_n 1, 1) := by decide +kernel
theorem dX6_makeClusters_112 : decode cX6_makeClusters 112 = .ok (.iload_n 1, 1) := by decide +kernel
theorem dX6_makeClusters_113 : decode cX6_makeClusters 113 = .ok (.aload_n 0, 1) := by decide +kernel
theorem dX6_makeClusters_114 : decode cX6_makeClusters 114 = .ok (.getfield 138, 3) := by decide +kernel
theorem dX6_makeClusters_117 : decode cX6_makeClusters 117 = .ok (.if_icmp .ge 100, 3) := by decide +kernel
theorem dX6_makeClusters_120 : decode cX6_makeClusters 120 = .ok (.aload_n 0, 1) := by decide +kernel
theorem dX6_makeClusters_121 : decode cX6_makeClusters 121 = .ok (.getfield 138, 3) := by decide +kernel
theorem dX6_makeClusters_124 : decode cX6_makeClusters 124 = .ok (.iconst 1, 1) := by decide +kernel
theorem dX6_makeClusters_125 : decode cX6_makeClusters 125 = .ok (.isub, 1) := by decide +kernel
theorem dX6_makeClusters_126 : decode cX6_makeClusters 126 = .ok (.istore_n 2, 1) := by decide +kernel
theorem dX6_makeClusters_127 : decode cX6_makeClusters 127 = .ok (.aload_n 0, 1) := by decide +kernel
theorem dX6_makeClusters_128 : decode cX6_makeClusters 128 = .ok (.iload_n 1, 1) := by decide +kernel
theorem dX6_makeClusters_129 : decode cX6_makeClusters 129 = .ok (.iload_n 2, 1) := by decide +kernel
theorem dX6_makeClusters_130 : decode cX6_makeClusters 130 = .ok (.invokevirtual 145, 3) := by decide +kernel
theorem dX6_makeClusters_133 : decode cX6_makeClusters 133 = .ok (.ifCond .lt 22, 3) := by decide +kernel
theorem dX6_makeClusters_136 : decode cX6_makeClusters 136 = .ok (.iconst 1, 1) := by decide +kernel
theorem dX6_makeClusters_137 : decode cX6_makeClusters 137 = .ok (.aload_n 0, 1) := by decide +kernel
theorem dX6_makeClusters_138 : decode cX6_makeClusters 138 = .ok (.getfield 57, 3) := by decide +kernel
theorem dX6_makeClusters_141 : decode cX6_makeClusters 141 = .ok (.iload_n 2, 1) := by decide +kernel
theorem dX6_makeClusters_142 : decode cX6_makeClusters 142 = .ok (.iconst 1, 1) := by decide +kernel
theorem dX6_makeClusters_143 : decode cX6_makeClusters 143 = .ok (.iadd, 1) := by decide +kernel
theorem dX6_makeClusters_144 : decode cX6_makeClusters 144 = .ok (.iaload, 1) := by decide +kernel
theorem dX6_makeClusters_145 : decode cX6_makeClusters 145 = .ok (.iadd, 1) := by decide +kernel
theorem dX6_makeClusters_146 : decode cX6_makeClusters 146 = .ok (.aload_n 0, 1) := by decide +kernel
theorem dX6_makeClusters_147 : decode cX6_makeClusters 147 = .ok (.getfield 57, 3) := by decide +kernel
theorem dX6_makeClusters_150 : decode cX6_makeClusters 150 = .ok (.iload_n 1, 1) := by decide +kernel
theorem dX6_makeClusters_151 : decode cX6_makeClusters 151 = .ok (.iaload, 1) := by decide +kernel
theorem dX6_makeClusters_152 : decode cX6_makeClusters 152 = .ok (.if_icmp .eq 9, 3) := by decide +kernel
theorem dX6_makeClusters_155 : decode cX6_makeClusters 155 = .ok (.iinc 2 (-1), 3) := by decide +kernel
theorem dX6_makeClusters_158 : decode cX6_makeClusters 158 = .ok (.goto (-31), 3) := by decide +kernel
theorem dX6_makeClusters_161 : decode cX6_makeClusters 161 = .ok (.aload_n 0, 1) := by decide +kernel
theorem dX6_makeClusters_162 : decode cX6_makeClusters 162 = .ok (.getfield 48, 3) := by decide +kernel
theorem dX6_makeClusters_165 : decode cX6_makeClusters 165 = .ok (.aload_n 0, 1) := by decide +kernel
theorem dX6_makeClusters_166 : decode cX6_makeClusters 166 = .ok (.getfield 149, 3) := by decide +kernel
theorem dX6_makeClusters_169 : decode cX6_makeClusters 169 = .ok (.aload_n 0, 1) := by decide +kernel
theorem dX6_makeClusters_170 : decode cX6_makeClusters 170 = .ok (.iload_n 1, 1) := by decide +kernel
theorem dX6_makeClusters_171 : decode cX6_makeClusters 171 = .ok (.iload_n 2, 1) := by decide +kernel
theorem dX6_makeClusters_172 : decode cX6_makeClusters 172 = .ok (.invokevirtual 145, 3) := by decide +kernel
theorem dX6_makeClusters_175 : decode cX6_makeClusters 175 = .ok (.iastore, 1) := by decide +kernel
theorem dX6_makeClusters_176 : decode cX6_makeClusters 176 = .ok (.aload_n 0, 1) := by decide +kernel
theorem dX6_makeClusters_177 : decode cX6_makeClusters 177 = .ok (.getfield 51, 3) := by decide +kernel
theorem dX6_makeClusters_180 : decode cX6_makeClusters 180 = .ok (.aload_n 0, 1) := by decide +kernel
theorem dX6_makeClusters_181 : decode cX6_makeClusters 181 = .ok (.getfield 149, 3) := by decide +kernel
theorem dX6_makeClusters_184 : decode cX6_makeClusters 184 = .ok (.iload_n 1, 1) := by decide +kernel
theorem dX6_makeClusters_185 : decode cX6_makeClusters 185 = .ok (.iastore, 1) := by decide +kernel
theorem dX6_makeClusters_186 : decode cX6_makeClusters 186 = .ok (.aload_n 0, 1) := by decide +kernel
theorem dX6_makeClusters_187 : decode cX6_makeClusters 187 = .ok (.getfield 54, 3) := by decide +kernel
theorem dX6_makeClusters_190 : decode cX6_makeClusters 190 = .ok (.aload_n 0, 1) := by decide +kernel
theorem dX6_makeClusters_191 : decode cX6_makeClusters 191 = .ok (.getfield 149, 3) := by decide +kernel
theorem dX6_makeClusters_194 : decode cX6_makeClusters 194 = .ok (.iload_n 2, 1) := by decide +kernel
theorem dX6_makeClusters_195 : decode cX6_makeClusters 195 = .ok (.iload_n 1, 1) := by decide +kernel
theorem dX6_makeClusters_196 : decode cX6_makeClusters 196 = .ok (.isub, 1) := by decide +kernel
theorem dX6_makeClusters_197 : decode cX6_makeClusters 197 = .ok (.iconst 1, 1) := by decide +kernel
theorem dX6_makeClusters_198 : decode cX6_makeClusters 198 = .ok (.iadd, 1) := by decide +kernel
theorem dX6_makeClusters_199 : decode cX6_makeClusters 199 = .ok (.iastore, 1) := by decide +kernel
theorem dX6_makeClusters_200 : decode cX6_makeClusters 200 = .ok (.aload_n 0, 1) := by decide +kernel
theorem dX6_makeClusters_201 : decode cX6_makeClusters 201 = .ok (.dup, 1) := by decide +kernel
theorem dX6_makeClusters_202 : decode cX6_makeClusters 202 = .ok (.getfield 149, 3) := by decide +kernel
theorem dX6_makeClusters_205 : decode cX6_makeClusters 205 = .ok (.iconst 1, 1) := by decide +kernel
theorem dX6_makeClusters_206 : decode cX6_makeClusters 206 = .ok (.iadd, 1) := by decide +kernel
theorem dX6_makeClusters_207 : decode cX6_makeClusters 207 = .ok (.putfield 149, 3) := by decide +kernel
theorem dX6_makeClusters_210 : decode cX6_makeClusters 210 = .ok (.iload_n 2, 1) := by decide +kernel
theorem dX6_makeClusters_211 : decode cX6_makeClusters 211 = .ok (.iconst 1, 1) := by decide +kernel
theorem dX6_makeClusters_212 : decode cX6_makeClusters 212 = .ok (.iadd, 1) := by decide +kernel
theorem dX6_makeClusters_213 : decode cX6_makeClusters 213 = .ok (.istore_n 1, 1) := by decide +kernel
theorem dX6_makeClusters_214 : decode cX6_makeClusters 214 = .ok (.goto (-102), 3) := by decide +kernel
theorem dX6_makeClusters_217 : decode cX6_makeClusters 217 = .ok (.return_, 1) := by decide +kernel
theorem dX6_bottom_0 : decode cX6_bottom 0 = .ok (.aload_n 0, 1) := by decide +kernel
theorem dX6_bottom_1 : decode cX6_bottom 1 = .ok (.getfield 36, 3) := by decide +kernel
theorem dX6_bottom_4 : decode cX6_bottom 4 = .ok (.aload_n 0, 1) := by decide +kernel
theorem dX6_bottom_5 : decode cX6_bottom 5 = .ok (.getfield 51, 3) := by decide +kernel
theorem dX6_bottom_8 : decode cX6_bottom 8 = .ok (.iload_n 1, 1) := by decide +kernel
theorem dX6_bottom_9 : decode cX6_bottom 9 = .ok (.iaload, 1) := by decide +kernel
theorem dX6_bottom_10 : decode cX6_bottom 10 = .ok (.iaload, 1) := by decide +kernel
theorem dX6_bottom_11 : decode cX6_bottom 11 = .ok (.ireturn, 1) := by decide +kernel
theorem dX6_top_0 : decode cX6_top 0 = .ok (.aload_n 0, 1) := by decide +kernel
theorem dX6_top_1 : decode cX6_top 1 = .ok (.getfield 39, 3) := by decide +kernel
theorem dX6_top_4 : decode cX6_top 4 = .ok (.aload_n 0, 1) := by decide +kernel
theorem dX6_top_5 : decode cX6_top 5 = .ok (.getfield 51, 3) := by decide +kernel
theorem dX6_top_8 : decode cX6_top 8 = .ok (.iload_n 1, 1) := by decide +kernel
theorem dX6_top_9 : decode cX6_top 9 = .ok (.iaload, 1) := by decide +kernel
theorem dX6_top_10 : decode cX6_top 10 = .ok (.aload_n 0, 1) := by decide +kernel
theorem dX6_top_11 : decode cX6_top 11 = .ok (.getfield 54, 3) := by decide +kernel
theorem dX6_top_14 : decode cX6_top 14 = .ok (.iload_n 1, 1) := by decide +kernel
theorem dX6_top_15 : decode cX6_top 15 = .ok (.iaload, 1) := by decide +kernel
theorem dX6_top_16 : decode cX6_top 16 = .ok (.iadd, 1) := by decide +kernel
theorem dX6_top_17 : decode cX6_top 17 = .ok (.iconst 1, 1) := by decide +kernel
theorem dX6_top_18 : decode cX6_top 18 = .ok (.isub, 1) := by decide +kernel
theorem dX6_top_19 : decode cX6_top 19 = .ok (.iaload, 1) := by decide +kernel
theorem dX6_top_20 : decode cX6_top 20 = .ok (.ireturn, 1) := by decide +kernel
theorem dX6_weightOf_0 : decode cX6_weightOf 0 = .ok (.lconst 0, 1) := by decide +kernel
theorem dX6_weightOf_1 : decode cX6_weightOf 1 = .ok (.lstore_n 2, 1) := by decide +kernel
theorem dX6_weightOf_2 : decode cX6_weightOf 2 = .ok (.aload_n 0, 1) := by decide +kernel
theorem dX6_weightOf_3 : decode cX6_weightOf 3 = .ok (.getfield 51, 3) := by decide +kernel
theorem dX6_weightOf_6 : decode cX6_weightOf 6 = .ok (.iload_n 1, 1) := by decide +kernel
theorem dX6_weightOf_7 : decode cX6_weightOf 7 = .ok (.iaload, 1) := by decide +kernel
theorem dX6_weightOf_8 : decode cX6_weightOf 8 = .ok (.istore 4, 2) := by decide +kernel
theorem dX6_weightOf_10 : decode cX6_weightOf 10 = .ok (.iload 4, 2) := by decide +kernel
theorem dX6_weightOf_12 : decode cX6_weightOf 12 = .ok (.aload_n 0, 1) := by decide +kernel
theorem dX6_weightOf_13 : decode cX6_weightOf 13 = .ok (.getfield 51, 3) := by decide +kernel
theorem dX6_weightOf_16 : decode cX6_weightOf 16 = .ok (.iload_n 1, 1) := by decide +kernel
theorem dX6_weightOf_17 : decode cX6_weightOf 17 = .ok (.iaload, 1) := by decide +kernel
theorem dX6_weightOf_18 : decode cX6_weightOf 18 = .ok (.aload_n 0, 1) := by decide +kernel
theorem dX6_weightOf_19 : decode cX6_weightOf 19 = .ok (.getfield 54, 3) := by decide +kernel
theorem dX6_weightOf_22 : decode cX6_weightOf 22 = .ok (.iload_n 1, 1) := by decide +kernel
theorem dX6_weightOf_23 : decode cX6_weightOf 23 = .ok (.iaload, 1) := by decide +kernel
theorem dX6_weightOf_24 : decode cX6_weightOf 24 = .ok (.iadd, 1) := by decide +kernel
theorem dX6_weightOf_25 : decode cX6_weightOf 25 = .ok (.if_icmp .ge 20, 3) := by decide +kernel
theorem dX6_weightOf_28 : decode cX6_weightOf 28 = .ok (.lload_n 2, 1) := by decide +kernel
theorem dX6_weightOf_29 : decode cX6_weightOf 29 = .ok (.aload_n 0, 1) := by decide +kernel
theorem dX6_weightOf_30 : decode cX6_weightOf 30 = .ok (.getfield 45, 3) := by decide +kernel
theorem dX6_weightOf_33 : decode cX6_weightOf 33 = .ok (.iload 4, 2) := by decide +kernel
theorem dX6_weightOf_35 : decode cX6_weightOf 35 = .ok (.iaload, 1) := by decide +kernel
theorem dX6_weightOf_36 : decode cX6_weightOf 36 = .ok (.i2l, 1) := by decide +kernel
theorem dX6_weightOf_37 : decode cX6_weightOf 37 = .ok (.ladd, 1) := by decide +kernel
theorem dX6_weightOf_38 : decode cX6_weightOf 38 = .ok (.lstore_n 2, 1) := by decide +kernel
theorem dX6_weightOf_39 : decode cX6_weightOf 39 = .ok (.iinc 4 1, 3) := by decide +kernel
theorem dX6_weightOf_42 : decode cX6_weightOf 42 = .ok (.goto (-32), 3) := by decide +kernel
theorem dX6_weightOf_45 : decode cX6_weightOf 45 = .ok (.lload_n 2, 1) := by decide +kernel
theorem dX6_weightOf_46 : decode cX6_weightOf 46 = .ok (.lreturn, 1) := by decide +kernel
theorem dX6_makeTree_0 : decode cX6_makeTree 0 = .ok (.iconst 1, 1) := by decide +kernel
theorem dX6_makeTree_1 : decode cX6_makeTree 1 = .ok (.istore_n 1, 1) := by decide +kernel
theorem dX6_makeTree_2 : decode cX6_makeTree 2 = .ok (.iload_n 1, 1) := by decide +kernel
theorem dX6_makeTree_3 : decode cX6_makeTree 3 = .ok (.aload_n 0, 1) := by decide +kernel
theorem dX6_makeTree_4 : decode cX6_makeTree 4 = .ok (.getfield 149, 3) := by decide +kernel
theorem dX6_makeTree_7 : decode cX6_makeTree 7 = .ok (.if_icmp .gt 206, 3) := by decide +kernel
theorem dX6_makeTree_10 : decode cX6_makeTree 10 = .ok (.iconst 0, 1) := by decide +kernel
theorem dX6_makeTree_11 : decode cX6_makeTree 11 = .ok (.istore_n 2, 1) := by decide +kernel
theorem dX6_makeTree_12 : decode cX6_makeTree 12 = .ok (.iload_n 2, 1) := by decide +kernel
theorem dX6_makeTree_13 : decode cX6_makeTree 13 = .ok (.iload_n 1, 1) := by decide +kernel
theorem dX6_makeTree_14 : decode cX6_makeTree 14 = .ok (.iadd, 1) := by decide +kernel
theorem dX6_makeTree_15 : decode cX6_makeTree 15 = .ok (.aload_n 0, 1) := by decide +kernel
theorem dX6_makeTree_16 : decode cX6_makeTree 16 = .ok (.getfield 149, 3) := by decide +kernel
theorem dX6_makeTree_19 : decode cX6_makeTree 19 = .ok (.if_icmp .gt 188, 3) := by decide +kernel
theorem dX6_makeTree_22 : decode cX6_makeTree 22 = .ok (.iload_n 2, 1) := by decide +kernel
theorem dX6_makeTree_23 : decode cX6_makeTree 23 = .ok (.iload_n 1, 1) := by decide +kernel
theorem dX6_makeTree_24 : decode cX6_makeTree 24 = .ok (.iadd, 1) := by decide +kernel
theorem dX6_makeTree_25 : decode cX6_makeTree 25 = .ok (.iconst 1, 1) := by decide +kernel
theorem dX6_makeTree_26 : decode cX6_makeTree 26 = .ok (.isub, 1) := by decide +kernel
theorem dX6_makeTree_27 : decode cX6_makeTree 27 = .ok (.istore_n 3, 1) := by decide +kernel
theorem dX6_makeTree_28 : decode cX6_makeTree 28 = .ok (.lconst 0, 1) := by decide +kernel
theorem dX6_makeTree_29 : decode cX6_makeTree 29 = .ok (.lstore 4, 2) := by decide +kernel
theorem dX6_makeTree_31 : decode cX6_makeTree 31 = .ok (.iload_n 2, 1) := by decide +kernel
theorem dX6_makeTree_32 : decode cX6_makeTree 32 = .ok (.istore 6, 2) := by decide +kernel
theorem dX6_makeTree_34 : decode cX6_makeTree 34 = .ok (.iload 6, 2) := by decide +kernel
theorem dX6_makeTree_36 : decode cX6_makeTree 36 = .ok (.iload_n 3, 1) := by decide +kernel
theorem dX6_makeTree_37 : decode cX6_makeTree 37 = .ok (.if_icmp .gt 22, 3) := by decide +kernel
theorem dX6_makeTree_40 : decode cX6_makeTree 40 = .ok (.lload 4, 2) := by decide +kernel
theorem dX6_makeTree_42 : decode cX6_makeTree 42 = .ok (.aload_n 0, 1) := by decide +kernel
theorem dX6_makeTree_43 : decode cX6_makeTree 43 = .ok (.iload 6, 2) := by decide +kernel
theorem dX6_makeTree_45 : decode cX6_makeTree 45 = .ok (.invokevirtual 152, 3) := by decide +kernel
theorem dX6_makeTree_48 : decode cX6_makeTree 48 = .ok (.lconst 1, 1) := by decide +kernel
theorem dX6_makeTree_49 : decode cX6_makeTree 49 = .ok (.ladd, 1) := by decide +kernel
theorem dX6_makeTree_50 : decode cX6_makeTree 50 = .ok (.ladd, 1) := by decide +kernel
theorem dX6_makeTree_51 : decode cX6_makeTree 51 = .ok (.lstore 4, 2) := by decide +kernel
theorem dX6_makeTree_53 : decode cX6_makeTree 53 = .ok (.iinc 6 1, 3) := by decide +kernel
theorem dX6_makeTree_56 : decode cX6_makeTree 56 = .ok (.goto (-22), 3) := by decide +kernel
theorem dX6_makeTree_59 : decode cX6_makeTree 59 = .ok (.aload_n 0, 1) := by decide +kernel
theorem dX6_makeTree_60 : decode cX6_makeTree 60 = .ok (.getfield 60, 3) := by decide +kernel
theorem dX6_makeTree_63 : decode cX6_makeTree 63 = .ok (.bipush 24, 2) := by decide +kernel
theorem dX6_makeTree_65 : decode cX6_makeTree 65 = .ok (.iload_n 2, 1) := by decide +kernel
theorem dX6_makeTree_66 : decode cX6_makeTree 66 = .ok (.imul, 1) := by decide +kernel
theorem dX6_makeTree_67 : decode cX6_makeTree 67 = .ok (.iload_n 3, 1) := by decide +kernel
theorem dX6_makeTree_68 : decode cX6_makeTree 68 = .ok (.iadd, 1) := by decide +kernel
theorem dX6_makeTree_69 : decode cX6_makeTree 69 = .ok (.lconst 0, 1) := by decide +kernel
theorem dX6_makeTree_70 : decode cX6_makeTree 70 = .ok (.lastore, 1) := by decide +kernel
theorem dX6_makeTree_71 : decode cX6_makeTree 71 = .ok (.aload_n 0, 1) := by decide +kernel
theorem dX6_makeTree_72 : decode cX6_makeTree 72 = .ok (.getfield 64, 3) := by decide +kernel
theorem dX6_makeTree_75 : decode cX6_makeTree 75 = .ok (.bipush 24, 2) := by decide +kernel
theorem dX6_makeTree_77 : decode cX6_makeTree 77 = .ok (.iload_n 2, 1) := by decide +kernel
theorem dX6_makeTree_78 : decode cX6_makeTree 78 = .ok (.imul, 1) := by decide +kernel
theorem dX6_makeTree_79 : decode cX6_makeTree 79 = .ok (.iload_n 3, 1) := by decide +kernel
theorem dX6_makeTree_80 : decode cX6_makeTree 80 = .ok (.iadd, 1) := by decide +kernel
theorem dX6_makeTree_81 : decode cX6_makeTree 81 = .ok (.iload_n 2, 1) := by decide +kernel
theorem dX6_makeTree_82 : decode cX6_makeTree 82 = .ok (.iload_n 3, 1) := by decide +kernel
theorem dX6_makeTree_83 : decode cX6_makeTree 83 = .ok (.iadd, 1) := by decide +kernel
theorem dX6_makeTree_84 : decode cX6_makeTree 84 = .ok (.iconst 1, 1) := by decide +kernel
theorem dX6_makeTree_85 : decode cX6_makeTree 85 = .ok (.iadd, 1) := by decide +kernel
theorem dX6_makeTree_86 : decode cX6_makeTree 86 = .ok (.iconst 2, 1) := by decide +kernel
theorem dX6_makeTree_87 : decode cX6_makeTree 87 = .ok (.idiv, 1) := by decide +kernel
theorem dX6_makeTree_88 : decode cX6_makeTree 88 = .ok (.iastore, 1) := by decide +kernel
theorem dX6_makeTree_89 : decode cX6_makeTree 89 = .ok (.iload_n 1, 1) := by decide +kernel
theorem dX6_makeTree_90 : decode cX6_makeTree 90 = .ok (.iconst 1, 1) := by decide +kernel
theorem dX6_makeTree_91 : decode cX6_makeTree 91 = .ok (.if_icmp .le 110, 3) := by decide +kernel
theorem dX6_makeTree_94 : decode cX6_makeTree 94 = .ok (.aload_n 0, 1) := by decide +kernel
theorem dX6_makeTree_95 : decode cX6_makeTree 95 = .ok (.getfield 135, 3) := by decide +kernel
theorem dX6_makeTree_98 : decode cX6_makeTree 98 = .ok (.iconst 1, 1) := by decide +kernel
theorem dX6_makeTree_99 : decode cX6_makeTree 99 = .ok (.if_icmp .ne 102, 3) := by decide +kernel
theorem dX6_makeTree_102 : decode cX6_makeTree 102 = .ok (.ldc2_w 156, 3) := by decide +kernel
theorem dX6_makeTree_105 : decode cX6_makeTree 105 = .ok (.lstore 6, 2) := by decide +kernel
theorem dX6_makeTree_107 : decode cX6_makeTree 107 = .ok (.iload_n 2, 1) := by decide +kernel
theorem dX6_makeTree_108 : decode cX6_makeTree 108 = .ok (.iconst 1, 1) := by decide +kernel
theorem dX6_makeTree_109 : decode cX6_makeTree 109 = .ok (.iadd, 1) := by decide +kernel
theorem dX6_makeTree_110 : decode cX6_makeTree 110 = .ok (.istore 8, 2) := by decide +kernel
theorem dX6_makeTree_112 : decode cX6_makeTree 112 = .ok (.iload 8, 2) := by decide +kernel
theorem dX6_makeTree_114 : decode cX6_makeTree 114 = .ok (.iload_n 3, 1) := by decide +kernel
theorem dX6_makeTree_115 : decode cX6_makeTree 115 = .ok (.if_icmp .gt 70, 3) := by decide +kernel
theorem dX6_makeTree_118 : decode cX6_makeTree 118 = .ok (.aload_n 0, 1) := by decide +kernel
theorem dX6_makeTree_119 : decode cX6_makeTree 119 = .ok (.getfield 60, 3) := by decide +kernel
theorem dX6_makeTree_122 : decode cX6_makeTree 122 = .ok (.bipush 24, 2) := by decide +kernel
theorem dX6_makeTree_124 : decode cX6_makeTree 124 = .ok (.iload_n 2, 1) := by decide +kernel
theorem dX6_makeTree_125 : decode cX6_makeTree 125 = .ok (.imul, 1) := by decide +kernel
theorem dX6_makeTree_126 : decode cX6_makeTree 126 = .ok (.iload 8, 2) := by decide +kernel
theorem dX6_makeTree_128 : decode cX6_makeTree 128 = .ok (.iadd, 1) := by decide +kernel
theorem dX6_makeTree_129 : decode cX6_makeTree 129 = .ok (.iconst 1, 1) := by decide +kernel
theorem dX6_makeTree_130 : decode cX6_makeTree 130 = .ok (.isub, 1) := by decide +kernel
theorem dX6_makeTree_131 : decode cX6_makeTree 131 = .ok (.laload, 1) := by decide +kernel
theorem dX6_makeTree_132 : decode cX6_makeTree 132 = .ok (.aload_n 0, 1) := by decide +kernel
theorem dX6_makeTree_133 : decode cX6_makeTree 133 = .ok (.getfield 60, 3) := by decide +kernel
theorem dX6_makeTree_136 : decode cX6_makeTree 136 = .ok (.bipush 24, 2) := by decide +kernel
theorem dX6_makeTree_138 : decode cX6_makeTree 138 = .ok (.iload 8, 2) := by decide +kernel
theorem dX6_makeTree_140 : decode cX6_makeTree 140 = .ok (.imul, 1) := by decide +kernel
theorem dX6_makeTree_141 : decode cX6_makeTree 141 = .ok (.iload_n 3, 1) := by decide +kernel
theorem dX6_makeTree_142 : decode cX6_makeTree 142 = .ok (.iadd, 1) := by decide +kernel
theorem dX6_makeTree_143 : decode cX6_makeTree 143 = .ok (.laload, 1) := by decide +kernel
theorem dX6_makeTree_144 : decode cX6_makeTree 144 = .ok (.ladd, 1) := by decide +kernel
theorem dX6_makeTree_145 : decode cX6_makeTree 145 = .ok (.lstore 9, 2) := by decide +kernel
theorem dX6_makeTree_147 : decode cX6_makeTree 147 = .ok (.lload 6, 2) := by decide +kernel
theorem dX6_makeTree_149 : decode cX6_makeTree 149 = .ok (.lconst 0, 1) := by decide +kernel
theorem dX6_makeTree_150 : decode cX6_makeTree 150 = .ok (.lcmp, 1) := by decide +kernel
theorem dX6_makeTree_151 : decode cX6_makeTree 151 = .ok (.ifCond .lt 11, 3) := by decide +kernel
theorem dX6_makeTree_154 : decode cX6_makeTree 154 = .ok (.lload 9, 2) := by decide +kernel
theorem dX6_makeTree_156 : decode cX6_makeTree 156 = .ok (.lload 6, 2) := by decide +kernel
theorem dX6_makeTree_158 : decode cX6_makeTree 158 = .ok (.lcmp, 1) := by decide +kernel
theorem dX6_makeTree_159 : decode cX6_makeTree 159 = .ok (.ifCond .ge 20, 3) := by decide +kernel
theorem dX6_makeTree_162 : decode cX6_makeTree 162 = .ok (.lload 9, 2) := by decide +kernel
theorem dX6_makeTree_164 : decode cX6_makeTree 164 = .ok (.lstore 6, 2) := by decide +kernel
theorem dX6_makeTree_166 : decode cX6_makeTree 166 = .ok (.aload_n 0, 1) := by decide +kernel
theorem dX6_makeTree_167 : decode cX6_makeTree 167 = .ok (.getfield 64, 3) := by decide +kernel
theorem dX6_makeTree_170 : decode cX6_makeTree 170 = .ok (.bipush 24, 2) := by decide +kernel
theorem dX6_makeTree_172 : decode cX6_makeTree 172 = .ok (.iload_n 2, 1) := by decide +kernel
theorem dX6_makeTree_173 : decode cX6_makeTree 173 = .ok (.imul, 1) := by decide +kernel
theorem dX6_makeTree_174 : decode cX6_makeTree 174 = .ok (.iload_n 3, 1) := by decide +kernel
theorem dX6_makeTree_175 : decode cX6_makeTree 175 = .ok (.iadd, 1) := by decide +kernel
theorem dX6_makeTree_176 : decode cX6_makeTree 176 = .ok (.iload 8, 2) := by decide +kernel
theorem dX6_makeTree_178 : decode cX6_makeTree 178 = .ok (.iastore, 1) := by decide +kernel
theorem dX6_makeTree_179 : decode cX6_makeTree 179 = .ok (.iinc 8 1, 3) := by decide +kernel
theorem dX6_makeTree_182 : decode cX6_makeTree 182 = .ok (.goto (-70), 3) := by decide +kernel
theorem dX6_makeTree_185 : decode cX6_makeTree 185 = .ok (.aload_n 0, 1) := by decide +kernel
theorem dX6_makeTree_186 : decode cX6_makeTree 186 = .ok (.getfield 60, 3) := by decide +kernel
theorem dX6_makeTree_189 : decode cX6_makeTree 189 = .ok (.bipush 24, 2) := by decide +kernel
theorem dX6_makeTree_191 : decode cX6_makeTree 191 = .ok (.iload_n 2, 1) := by decide +kernel
theorem dX6_makeTree_192 : decode cX6_makeTree 192 = .ok (.imul, 1) := by decide +kernel
theorem dX6_makeTree_193 : decode cX6_makeTree 193 = .ok (.iload_n 3, 1) := by decide +kernel
theorem dX6_makeTree_194 : decode cX6_makeTree 194 = .ok (.iadd, 1) := by decide +kernel
theorem dX6_makeTree_195 : decode cX6_makeTree 195 = .ok (.lload 6, 2) := by decide +kernel
theorem dX6_makeTree_197 : decode cX6_makeTree 197 = .ok (.lload 4, 2) := by decide +kernel
theorem dX6_makeTree_199 : decode cX6_makeTree 199 = .ok (.ladd, 1) := by decide +kernel
theorem dX6_makeTree_200 : decode cX6_makeTree 200 = .ok (.lastore, 1) := by decide +kernel
theorem dX6_makeTree_201 : decode cX6_makeTree 201 = .ok (.iinc 2 1, 3) := by decide +kernel
theorem dX6_makeTree_204 : decode cX6_makeTree 204 = .ok (.goto (-192), 3) := by decide +kernel
theorem dX6_makeTree_207 : decode cX6_makeTree 207 = .ok (.iinc 1 1, 3) := by decide +kernel
theorem dX6_makeTree_210 : decode cX6_makeTree 210 = .ok (.goto (-208), 3) := by decide +kernel
theorem dX6_makeTree_213 : decode cX6_makeTree 213 = .ok (.return_, 1) := by decide +kernel
theorem dX6_emit_0 : decode cX6_emit 0 = .ok (.aload_n 0, 1) := by decide +kernel
theorem dX6_emit_1 : decode cX6_emit 1 = .ok (.getfield 70, 3) := by decide +kernel
theorem dX6_emit_4 : decode cX6_emit 4 = .ok (.aload_n 0, 1) := by decide +kernel
theorem dX6_emit_5 : decode cX6_emit 5 = .ok (.getfield 158, 3) := by decide +kernel
theorem dX6_emit_8 : decode cX6_emit 8 = .ok (.iload_n 1, 1) := by decide +kernel
theorem dX6_emit_9 : decode cX6_emit 9 = .ok (.iastore, 1) := by decide +kernel
theorem dX6_emit_10 : decode cX6_emit 10 = .ok (.aload_n 0, 1) := by decide +kernel
theorem dX6_emit_11 : decode cX6_emit 11 = .ok (.getfield 73, 3) := by decide +kernel
theorem dX6_emit_14 : decode cX6_emit 14 = .ok (.aload_n 0, 1) := by decide +kernel
theorem dX6_emit_15 : decode cX6_emit 15 = .ok (.getfield 158, 3) := by decide +kernel
theorem dX6_emit_18 : decode cX6_emit 18 = .ok (.iload_n 2, 1) := by decide +kernel
theorem dX6_emit_19 : decode cX6_emit 19 = .ok (.iastore, 1) := by decide +kernel
theorem dX6_emit_20 : decode cX6_emit 20 = .ok (.aload_n 0, 1) := by decide +kernel
theorem dX6_emit_21 : decode cX6_emit 21 = .ok (.getfield 76, 3) := by decide +kernel
theorem dX6_emit_24 : decode cX6_emit 24 = .ok (.aload_n 0, 1) := by decide +kernel
theorem dX6_emit_25 : decode cX6_emit 25 = .ok (.getfield 158, 3) := by decide +kernel
theorem dX6_emit_28 : decode cX6_emit 28 = .ok (.iload_n 3, 1) := by decide +kernel
theorem dX6_emit_29 : decode cX6_emit 29 = .ok (.iastore, 1) := by decide +kernel
theorem dX6_emit_30 : decode cX6_emit 30 = .ok (.aload_n 0, 1) := by decide +kernel
theorem dX6_emit_31 : decode cX6_emit 31 = .ok (.getfield 79, 3) := by decide +kernel
theorem dX6_emit_34 : decode cX6_emit 34 = .ok (.aload_n 0, 1) := by decide +kernel
theorem dX6_emit_35 : decode cX6_emit 35 = .ok (.getfield 158, 3) := by decide +kernel
theorem dX6_emit_38 : decode cX6_emit 38 = .ok (.lconst 0, 1) := by decide +kernel
theorem dX6_emit_39 : decode cX6_emit 39 = .ok (.lastore, 1) := by decide +kernel
theorem dX6_emit_40 : decode cX6_emit 40 = .ok (.aload_n 0, 1) := by decide +kernel
theorem dX6_emit_41 : decode cX6_emit 41 = .ok (.getfield 82, 3) := by decide +kernel
theorem dX6_emit_44 : decode cX6_emit 44 = .ok (.aload_n 0, 1) := by decide +kernel
theorem dX6_emit_45 : decode cX6_emit 45 = .ok (.getfield 158, 3) := by decide +kernel
theorem dX6_emit_48 : decode cX6_emit 48 = .ok (.iload 4, 2) := by decide +kernel
theorem dX6_emit_50 : decode cX6_emit 50 = .ok (.iastore, 1) := by decide +kernel
theorem dX6_emit_51 : decode cX6_emit 51 = .ok (.aload_n 0, 1) := by decide +kernel
theorem dX6_emit_52 : decode cX6_emit 52 = .ok (.dup, 1) := by decide +kernel
theorem dX6_emit_53 : decode cX6_emit 53 = .ok (.getfield 158, 3) := by decide +kernel
theorem dX6_emit_56 : decode cX6_emit 56 = .ok (.iconst 1, 1) := by decide +kernel
theorem dX6_emit_57 : decode cX6_emit 57 = .ok (.iadd, 1) := by decide +kernel
theorem dX6_emit_58 : decode cX6_emit 58 = .ok (.putfield 158, 3) := by decide +kernel
theorem dX6_emit_61 : decode cX6_emit 61 = .ok (.return_, 1) := by decide +kernel
theorem dX6_part_0 : decode cX6_part 0 = .ok (.aload_n 0, 1) := by decide +kernel
theorem dX6_part_1 : decode cX6_part 1 = .ok (.getfield 85, 3) := by decide +kernel
theorem dX6_part_4 : decode cX6_part 4 = .ok (.aload_n 0, 1) := by decide +kernel
theorem dX6_part_5 : decode cX6_part 5 = .ok (.getfield 161, 3) := by decide +kernel
theorem dX6_part_8 : decode cX6_part 8 = .ok (.iload_n 1, 1) := by decide +kernel
theorem dX6_part_9 : decode cX6_part 9 = .ok (.iastore, 1) := by decide +kernel
theorem dX6_part_10 : decode cX6_part 10 = .ok (.aload_n 0, 1) := by decide +kernel
theorem dX6_part_11 : decode cX6_part 11 = .ok (.getfield 88, 3) := by decide +kernel
theorem dX6_part_14 : decode cX6_part 14 = .ok (.aload_n 0, 1) := by decide +kernel
theorem dX6_part_15 : decode cX6_part 15 = .ok (.getfield 161, 3) := by decide +kernel
theorem dX6_part_18 : decode cX6_part 18 = .ok (.iload_n 2, 1) := by decide +kernel
theorem dX6_part_19 : decode cX6_part 19 = .ok (.iastore, 1) := by decide +kernel
theorem dX6_part_20 : decode cX6_part 20 = .ok (.aload_n 0, 1) := by decide +kernel
theorem dX6_part_21 : decode cX6_part 21 = .ok (.getfield 91, 3) := by decide +kernel
theorem dX6_part_24 : decode cX6_part 24 = .ok (.aload_n 0, 1) := by decide +kernel
theorem dX6_part_25 : decode cX6_part 25 = .ok (.getfield 161, 3) := by decide +kernel
theorem dX6_part_28 : decode cX6_part 28 = .ok (.iload_n 3, 1) := by decide +kernel
theorem dX6_part_29 : decode cX6_part 29 = .ok (.iastore, 1) := by decide +kernel
theorem dX6_part_30 : decode cX6_part 30 = .ok (.aload_n 0, 1) := by decide +kernel
theorem dX6_part_31 : decode cX6_part 31 = .ok (.getfield 94, 3) := by decide +kernel
theorem dX6_part_34 : decode cX6_part 34 = .ok (.aload_n 0, 1) := by decide +kernel
theorem dX6_part_35 : decode cX6_part 35 = .ok (.getfield 161, 3) := by decide +kernel
theorem dX6_part_38 : decode cX6_part 38 = .ok (.lload 4, 2) := by decide +kernel
theorem dX6_part_40 : decode cX6_part 40 = .ok (.lastore, 1) := by decide +kernel
theorem dX6_part_41 : decode cX6_part 41 = .ok (.aload_n 0, 1) := by decide +kernel
theorem dX6_part_42 : decode cX6_part 42 = .ok (.getfield 97, 3) := by decide +kernel
theorem dX6_part_45 : decode cX6_part 45 = .ok (.aload_n 0, 1) := by decide +kernel
theorem dX6_part_46 : decode cX6_part 46 = .ok (.getfield 161, 3) := by decide +kernel
theorem dX6_part_49 : decode cX6_part 49 = .ok (.lload 6, 2) := by decide +kernel
theorem dX6_part_51 : decode cX6_part 51 = .ok (.lastore, 1) := by decide +kernel
theorem dX6_part_52 : decode cX6_part 52 = .ok (.aload_n 0, 1) := by decide +kernel
theorem dX6_part_53 : decode cX6_part 53 = .ok (.getfield 100, 3) := by decide +kernel
theorem dX6_part_56 : decode cX6_part 56 = .ok (.aload_n 0, 1) := by decide +kernel
theorem dX6_part_57 : decode cX6_part 57 = .ok (.getfield 161, 3) := by decide +kernel
theorem dX6_part_60 : decode cX6_part 60 = .ok (.iload 8, 2) := by decide +kernel
theorem dX6_part_62 : decode cX6_part 62 = .ok (.iastore, 1) := by decide +kernel
theorem dX6_part_63 : decode cX6_part 63 = .ok (.aload_n 0, 1) := by decide +kernel
theorem dX6_part_64 : decode cX6_part 64 = .ok (.dup, 1) := by decide +kernel
theorem dX6_part_65 : decode cX6_part 65 = .ok (.getfield 161, 3) := by decide +kernel
theorem dX6_part_68 : decode cX6_part 68 = .ok (.iconst 1, 1) := by decide +kernel
theorem dX6_part_69 : decode cX6_part 69 = .ok (.iadd, 1) := by decide +kernel
theorem dX6_part_70 : decode cX6_part 70 = .ok (.putfield 161, 3) := by decide +kernel
theorem dX6_part_73 : decode cX6_part 73 = .ok (.return_, 1) := by decide +kernel
theorem dX6_ends_0 : decode cX6_ends 0 = .ok (.aload_n 0, 1) := by decide +kernel
theorem dX6_ends_1 : decode cX6_ends 1 = .ok (.getfield 158, 3) := by decide +kernel
theorem dX6_ends_4 : decode cX6_ends 4 = .ok (.istore 6, 2) := by decide +kernel
theorem dX6_ends_6 : decode cX6_ends 6 = .ok (.lload_n 2, 1) := by decide +kernel
theorem dX6_ends_7 : decode cX6_ends 7 = .ok (.aload_n 0, 1) := by decide +kernel
theorem dX6_ends_8 : decode cX6_ends 8 = .ok (.iload_n 1, 1) := by decide +kernel
theorem dX6_ends_9 : decode cX6_ends 9 = .ok (.invokevirtual 164, 3) := by decide +kernel
theorem dX6_ends_12 : decode cX6_ends 12 = .ok (.i2l, 1) := by decide +kernel
theorem dX6_ends_13 : decode cX6_ends 13 = .ok (.lcmp, 1) := by decide +kernel
theorem dX6_ends_14 : decode cX6_ends 14 = .ok (.ifCond .ge 15, 3) := by decide +kernel
theorem dX6_ends_17 : decode cX6_ends 17 = .ok (.aload_n 0, 1) := by decide +kernel
theorem dX6_ends_18 : decode cX6_ends 18 = .ok (.iconst 0, 1) := by decide +kernel
theorem dX6_ends_19 : decode cX6_ends 19 = .ok (.aload_n 0, 1) := by decide +kernel
theorem dX6_ends_20 : decode cX6_ends 20 = .ok (.iload_n 1, 1) := by decide +kernel
theorem dX6_ends_21 : decode cX6_ends 21 = .ok (.invokevirtual 164, 3) := by decide +kernel
theorem dX6_ends_24 : decode cX6_ends 24 = .ok (.iconst 0, 1) := by decide +kernel
theorem dX6_ends_25 : decode cX6_ends 25 = .ok (.iload_n 1, 1) := by decide +kernel
theorem dX6_ends_26 : decode cX6_ends 26 = .ok (.invokevirtual 168, 3) := by decide +kernel
theorem dX6_ends_29 : decode cX6_ends 29 = .ok (.lload 4, 2) := by decide +kernel
theorem dX6_ends_31 : decode cX6_ends 31 = .ok (.aload_n 0, 1) := by decide +kernel
theorem dX6_ends_32 : decode cX6_ends 32 = .ok (.iload_n 1, 1) := by decide +kernel
theorem dX6_ends_33 : decode cX6_ends 33 = .ok (.invokevirtual 172, 3) := by decide +kernel
theorem dX6_ends_36 : decode cX6_ends 36 = .ok (.i2l, 1) := by decide +kernel
theorem dX6_ends_37 : decode cX6_ends 37 = .ok (.lcmp, 1) := by decide +kernel
theorem dX6_ends_38 : decode cX6_ends 38 = .ok (.ifCond .le 15, 3) := by decide +kernel
theorem dX6_ends_41 : decode cX6_ends 41 = .ok (.aload_n 0, 1) := by decide +kernel
theorem dX6_ends_42 : decode cX6_ends 42 = .ok (.iconst 1, 1) := by decide +kernel
theorem dX6_ends_43 : decode cX6_ends 43 = .ok (.aload_n 0, 1) := by decide +kernel
theorem dX6_ends_44 : decode cX6_ends 44 = .ok (.iload_n 1, 1) := by decide +kernel
theorem dX6_ends_45 : decode cX6_ends 45 = .ok (.invokevirtual 172, 3) := by decide +kernel
theorem dX6_ends_48 : decode cX6_ends 48 = .ok (.iconst 0, 1) := by decide +kernel
theorem dX6_ends_49 : decode cX6_ends 49 = .ok (.iload_n 1, 1) := by decide +kernel
theorem dX6_ends_50 : decode cX6_ends 50 = .ok (.invokevirtual 168, 3) := by decide +kernel
theorem dX6_ends_53 : decode cX6_ends 53 = .ok (.aload_n 0, 1) := by decide +kernel
theorem dX6_ends_54 : decode cX6_ends 54 = .ok (.getfield 158, 3) := by decide +kernel
theorem dX6_ends_57 : decode cX6_ends 57 = .ok (.iload 6, 2) := by decide +kernel
theorem dX6_ends_59 : decode cX6_ends 59 = .ok (.isub, 1) := by decide +kernel
theorem dX6_ends_60 : decode cX6_ends 60 = .ok (.ireturn, 1) := by decide +kernel
theorem dX6_leaf_0 : decode cX6_leaf 0 = .ok (.aload_n 0, 1) := by decide +kernel
theorem dX6_leaf_1 : decode cX6_leaf 1 = .ok (.getfield 42, 3) := by decide +kernel
theorem dX6_leaf_4 : decode cX6_leaf 4 = .ok (.aload_n 0, 1) := by decide +kernel
theorem dX6_leaf_5 : decode cX6_leaf 5 = .ok (.getfield 51, 3) := by decide +kernel
theorem dX6_leaf_8 : decode cX6_leaf 8 = .ok (.iload_n 1, 1) := by decide +kernel
theorem dX6_leaf_9 : decode cX6_leaf 9 = .ok (.iaload, 1) := by decide +kernel
theorem dX6_leaf_10 : decode cX6_leaf 10 = .ok (.iaload, 1) := by decide +kernel
theorem dX6_leaf_11 : decode cX6_leaf 11 = .ok (.istore 6, 2) := by decide +kernel
theorem dX6_leaf_13 : decode cX6_leaf 13 = .ok (.aload_n 0, 1) := by decide +kernel
theorem dX6_leaf_14 : decode cX6_leaf 14 = .ok (.getfield 48, 3) := by decide +kernel
theorem dX6_leaf_17 : decode cX6_leaf 17 = .ok (.iload_n 1, 1) := by decide +kernel
theorem dX6_leaf_18 : decode cX6_leaf 18 = .ok (.iaload, 1) := by decide +kernel
theorem dX6_leaf_19 : decode cX6_leaf 19 = .ok (.ifCond .ne 41, 3) := by decide +kernel
theorem dX6_leaf_22 : decode cX6_leaf 22 = .ok (.aload_n 0, 1) := by decide +kernel
theorem dX6_leaf_23 : decode cX6_leaf 23 = .ok (.iload_n 1, 1) := by decide +kernel
theorem dX6_leaf_24 : decode cX6_leaf 24 = .ok (.invokevirtual 164, 3) := by decide +kernel
theorem dX6_leaf_27 : decode cX6_leaf 27 = .ok (.aload_n 0, 1) := by decide +kernel
theorem dX6_leaf_28 : decode cX6_leaf 28 = .ok (.iload_n 1, 1) := by decide +kernel
theorem dX6_leaf_29 : decode cX6_leaf 29 = .ok (.invokevirtual 172, 3) := by decide +kernel
theorem dX6_leaf_32 : decode cX6_leaf 32 = .ok (.if_icmp .ne 28, 3) := by decide +kernel
theorem dX6_leaf_35 : decode cX6_leaf 35 = .ok (.aload_n 0, 1) := by decide +kernel
theorem dX6_leaf_36 : decode cX6_leaf 36 = .ok (.iconst 2, 1) := by decide +kernel
theorem dX6_leaf_37 : decode cX6_leaf 37 = .ok (.aload_n 0, 1) := by decide +kernel
theorem dX6_leaf_38 : decode cX6_leaf 38 = .ok (.iload_n 1, 1) := by decide +kernel
theorem dX6_leaf_39 : decode cX6_leaf 39 = .ok (.invokevirtual 164, 3) := by decide +kernel
theorem dX6_leaf_42 : decode cX6_leaf 42 = .ok (.iload 6, 2) := by decide +kernel
theorem dX6_leaf_44 : decode cX6_leaf 44 = .ok (.iload_n 1, 1) := by decide +kernel
theorem dX6_leaf_45 : decode cX6_leaf 45 = .ok (.invokevirtual 168, 3) := by decide +kernel
theorem dX6_leaf_48 : decode cX6_leaf 48 = .ok (.aload_n 0, 1) := by decide +kernel
theorem dX6_leaf_49 : decode cX6_leaf 49 = .ok (.iconst 3, 1) := by decide +kernel
theorem dX6_leaf_50 : decode cX6_leaf 50 = .ok (.aload_n 0, 1) := by decide +kernel
theorem dX6_leaf_51 : decode cX6_leaf 51 = .ok (.getfield 125, 3) := by decide +kernel
theorem dX6_leaf_54 : decode cX6_leaf 54 = .ok (.iconst 0, 1) := by decide +kernel
theorem dX6_leaf_55 : decode cX6_leaf 55 = .ok (.iload_n 1, 1) := by decide +kernel
theorem dX6_leaf_56 : decode cX6_leaf 56 = .ok (.invokevirtual 168, 3) := by decide +kernel
theorem dX6_leaf_59 : decode cX6_leaf 59 = .ok (.return_, 1) := by decide +kernel
theorem dX6_leaf_60 : decode cX6_leaf 60 = .ok (.aload_n 0, 1) := by decide +kernel
theorem dX6_leaf_61 : decode cX6_leaf 61 = .ok (.getfield 158, 3) := by decide +kernel
theorem dX6_leaf_64 : decode cX6_leaf 64 = .ok (.istore 7, 2) := by decide +kernel
theorem dX6_leaf_66 : decode cX6_leaf 66 = .ok (.aload_n 0, 1) := by decide +kernel
theorem dX6_leaf_67 : decode cX6_leaf 67 = .ok (.iload_n 1, 1) := by decide +kernel
theorem dX6_leaf_68 : decode cX6_leaf 68 = .ok (.lload_n 2, 1) := by decide +kernel
theorem dX6_leaf_69 : decode cX6_leaf 69 = .ok (.lload 4, 2) := by decide +kernel
theorem dX6_leaf_71 : decode cX6_leaf 71 = .ok (.invokevirtual 175, 3) := by decide +kernel
theorem dX6_leaf_74 : decode cX6_leaf 74 = .ok (.istore 8, 2) := by decide +kernel
theorem dX6_leaf_76 : decode cX6_leaf 76 = .ok (.aload_n 0, 1) := by decide +kernel
theorem dX6_leaf_77 : decode cX6_leaf 77 = .ok (.getfield 48, 3) := by decide +kernel
theorem dX6_leaf_80 : decode cX6_leaf 80 = .ok (.iload_n 1, 1) := by decide +kernel
theorem dX6_leaf_81 : decode cX6_leaf 81 = .ok (.iaload, 1) := by decide +kernel
theorem dX6_leaf_82 : decode cX6_leaf 82 = .ok (.ifCond .ne 15, 3) := by decide +kernel
theorem dX6_leaf_85 : decode cX6_leaf 85 = .ok (.aload_n 0, 1) := by decide +kernel
theorem dX6_leaf_86 : decode cX6_leaf 86 = .ok (.iconst 3, 1) := by decide +kernel
theorem dX6_leaf_87 : decode cX6_leaf 87 = .ok (.iload 6, 2) := by decide +kernel
theorem dX6_leaf_89 : decode cX6_leaf 89 = .ok (.iconst 0, 1) := by decide +kernel
theorem dX6_leaf_90 : decode cX6_leaf 90 = .ok (.iload_n 1, 1) := by decide +kernel
theorem dX6_leaf_91 : decode cX6_leaf 91 = .ok (.invokevirtual 168, 3) := by decide +kernel
theorem dX6_leaf_94 : decode cX6_leaf 94 = .ok (.goto 64, 3) := by decide +kernel
theorem dX6_leaf_97 : decode cX6_leaf 97 = .ok (.aload_n 0, 1) := by decide +kernel
theorem dX6_leaf_98 : decode cX6_leaf 98 = .ok (.getfield 48, 3) := by decide +kernel
theorem dX6_leaf_101 : decode cX6_leaf 101 = .ok (.iload_n 1, 1) := by decide +kernel
theorem dX6_leaf_102 : decode cX6_leaf 102 = .ok (.iaload, 1) := by decide +kernel
theorem dX6_leaf_103 : decode cX6_leaf 103 = .ok (.iconst 2, 1) := by decide +kernel
theorem dX6_leaf_104 : decode cX6_leaf 104 = .ok (.if_icmp .ne 30, 3) := by decide +kernel
theorem dX6_leaf_107 : decode cX6_leaf 107 = .ok (.aload_n 0, 1) := by decide +kernel
theorem dX6_leaf_108 : decode cX6_leaf 108 = .ok (.iconst 5, 1) := by decide +kernel
theorem dX6_leaf_109 : decode cX6_leaf 109 = .ok (.aload_n 0, 1) := by decide +kernel
theorem dX6_leaf_110 : decode cX6_leaf 110 = .ok (.iload_n 1, 1) := by decide +kernel
theorem dX6_leaf_111 : decode cX6_leaf 111 = .ok (.invokevirtual 164, 3) := by decide +kernel
theorem dX6_leaf_114 : decode cX6_leaf 114 = .ok (.aload_n 0, 1) := by decide +kernel
theorem dX6_leaf_115 : decode cX6_leaf 115 = .ok (.iload_n 1, 1) := by decide +kernel
theorem dX6_leaf_116 : decode cX6_leaf 116 = .ok (.invokevirtual 172, 3) := by decide +kernel
theorem dX6_leaf_119 : decode cX6_leaf 119 = .ok (.aload_n 0, 1) := by decide +kernel
theorem dX6_leaf_120 : decode cX6_leaf 120 = .ok (.iload_n 1, 1) := by decide +kernel
theorem dX6_leaf_121 : decode cX6_leaf 121 = .ok (.invokevirtual 164, 3) := by decide +kernel
theorem dX6_leaf_124 : decode cX6_leaf 124 = .ok (.isub, 1) := by decide +kernel
theorem dX6_leaf_125 : decode cX6_leaf 125 = .ok (.iconst 1, 1) := by decide +kernel
theorem dX6_leaf_126 : decode cX6_leaf 126 = .ok (.iadd, 1) := by decide +kernel
theorem dX6_leaf_127 : decode cX6_leaf 127 = .ok (.iload_n 1, 1) := by decide +kernel
theorem dX6_leaf_128 : decode cX6_leaf 128 = .ok (.invokevirtual 168, 3) := by decide +kernel
theorem dX6_leaf_131 : decode cX6_leaf 131 = .ok (.goto 27, 3) := by decide +kernel
theorem dX6_leaf_134 : decode cX6_leaf 134 = .ok (.aload_n 0, 1) := by decide +kernel
theorem dX6_leaf_135 : decode cX6_leaf 135 = .ok (.iload_n 1, 1) := by decide +kernel
theorem dX6_leaf_136 : decode cX6_leaf 136 = .ok (.aload_n 0, 1) := by decide +kernel
theorem dX6_leaf_137 : decode cX6_leaf 137 = .ok (.getfield 51, 3) := by decide +kernel
theorem dX6_leaf_140 : decode cX6_leaf 140 = .ok (.iload_n 1, 1) := by decide +kernel
theorem dX6_leaf_141 : decode cX6_leaf 141 = .ok (.iaload, 1) := by decide +kernel
theorem dX6_leaf_142 : decode cX6_leaf 142 = .ok (.aload_n 0, 1) := by decide +kernel
theorem dX6_leaf_143 : decode cX6_leaf 143 = .ok (.getfield 51, 3) := by decide +kernel
theorem dX6_leaf_146 : decode cX6_leaf 146 = .ok (.iload_n 1, 1) := by decide +kernel
theorem dX6_leaf_147 : decode cX6_leaf 147 = .ok (.iaload, 1) := by decide +kernel
theorem dX6_leaf_148 : decode cX6_leaf 148 = .ok (.aload_n 0, 1) := by decide +kernel
theorem dX6_leaf_149 : decode cX6_leaf 149 = .ok (.getfield 54, 3) := by decide +kernel
theorem dX6_leaf_152 : decode cX6_leaf 152 = .ok (.iload_n 1, 1) := by decide +kernel
theorem dX6_leaf_153 : decode cX6_leaf 153 = .ok (.iaload, 1) := by decide +kernel
theorem dX6_leaf_154 : decode cX6_leaf 154 = .ok (.iadd, 1) := by decide +kernel
theorem dX6_leaf_155 : decode cX6_leaf 155 = .ok (.invokevirtual 179, 3) := by decide +kernel
theorem dX6_leaf_158 : decode cX6_leaf 158 = .ok (.iload 7, 2) := by decide +kernel
theorem dX6_leaf_160 : decode cX6_leaf 160 = .ok (.istore 9, 2) := by decide +kernel
theorem dX6_leaf_162 : decode cX6_leaf 162 = .ok (.iload 9, 2) := by decide +kernel
theorem dX6_leaf_164 : decode cX6_leaf 164 = .ok (.iload 7, 2) := by decide +kernel
theorem dX6_leaf_166 : decode cX6_leaf 166 = .ok (.iload 8, 2) := by decide +kernel
theorem dX6_leaf_168 : decode cX6_leaf 168 = .ok (.iadd, 1) := by decide +kernel
theorem dX6_leaf_169 : decode cX6_leaf 169 = .ok (.if_icmp .ge 20, 3) := by decide +kernel
theorem dX6_leaf_172 : decode cX6_leaf 172 = .ok (.aload_n 0, 1) := by decide +kernel
theorem dX6_leaf_173 : decode cX6_leaf 173 = .ok (.getfield 76, 3) := by decide +kernel
theorem dX6_leaf_176 : decode cX6_leaf 176 = .ok (.iload 9, 2) := by decide +kernel
theorem dX6_leaf_178 : decode cX6_leaf 178 = .ok (.aload_n 0, 1) := by decide +kernel
theorem dX6_leaf_179 : decode cX6_leaf 179 = .ok (.getfield 158, 3) := by decide +kernel
theorem dX6_leaf_182 : decode cX6_leaf 182 = .ok (.iastore, 1) := by decide +kernel
theorem dX6_leaf_183 : decode cX6_leaf 183 = .ok (.iinc 9 1, 3) := by decide +kernel
theorem dX6_leaf_186 : decode cX6_leaf 186 = .ok (.goto (-24), 3) := by decide +kernel
theorem dX6_leaf_189 : decode cX6_leaf 189 = .ok (.iload 8, 2) := by decide +kernel
theorem dX6_leaf_191 : decode cX6_leaf 191 = .ok (.ifCond .gt 13, 3) := by decide +kernel
theorem dX6_leaf_194 : decode cX6_leaf 194 = .ok (.aload_n 0, 1) := by decide +kernel
theorem dX6_leaf_195 : decode cX6_leaf 195 = .ok (.getfield 48, 3) := by decide +kernel
theorem dX6_leaf_198 : decode cX6_leaf 198 = .ok (.iload_n 1, 1) := by decide +kernel
theorem dX6_leaf_199 : decode cX6_leaf 199 = .ok (.iaload, 1) := by decide +kernel
theorem dX6_leaf_200 : decode cX6_leaf 200 = .ok (.iconst 1, 1) := by decide +kernel
theorem dX6_leaf_201 : decode cX6_leaf 201 = .ok (.if_icmp .ne 14, 3) := by decide +kernel
theorem dX6_leaf_204 : decode cX6_leaf 204 = .ok (.aload_n 0, 1) := by decide +kernel
theorem dX6_leaf_205 : decode cX6_leaf 205 = .ok (.iconst 3, 1) := by decide +kernel
theorem dX6_leaf_206 : decode cX6_leaf 206 = .ok (.aload_n 0, 1) := by decide +kernel
theorem dX6_leaf_207 : decode cX6_leaf 207 = .ok (.getfield 125, 3) := by decide +kernel
theorem dX6_leaf_210 : decode cX6_leaf 210 = .ok (.iconst 0, 1) := by decide +kernel
theorem dX6_leaf_211 : decode cX6_leaf 211 = .ok (.iload_n 1, 1) := by decide +kernel
theorem dX6_leaf_212 : decode cX6_leaf 212 = .ok (.invokevirtual 168, 3) := by decide +kernel
theorem dX6_leaf_215 : decode cX6_leaf 215 = .ok (.return_, 1) := by decide +kernel
theorem dX6_layBits_0 : decode cX6_layBits 0 = .ok (.iload_n 2, 1) := by decide +kernel
theorem dX6_layBits_1 : decode cX6_layBits 1 = .ok (.istore 4, 2) := by decide +kernel
theorem dX6_layBits_3 : decode cX6_layBits 3 = .ok (.iload 4, 2) := by decide +kernel
theorem dX6_layBits_5 : decode cX6_layBits 5 = .ok (.iload_n 3, 1) := by decide +kernel
theorem dX6_layBits_6 : decode cX6_layBits 6 = .ok (.if_icmp .ge 180, 3) := by decide +kernel
theorem dX6_layBits_9 : decode cX6_layBits 9 = .ok (.iconst 0, 1) := by decide +kernel
theorem dX6_layBits_10 : decode cX6_layBits 10 = .ok (.istore 5, 2) := by decide +kernel
theorem dX6_layBits_12 : decode cX6_layBits 12 = .ok (.iload_n 2, 1) := by decide +kernel
theorem dX6_layBits_13 : decode cX6_layBits 13 = .ok (.istore 6, 2) := by decide +kernel
theorem dX6_layBits_15 : decode cX6_layBits 15 = .ok (.iload 6, 2) := by decide +kernel
theorem dX6_layBits_17 : decode cX6_layBits 17 = .ok (.iload 4, 2) := by decide +kernel
theorem dX6_layBits_19 : decode cX6_layBits 19 = .ok (.if_icmp .ge 38, 3) := by decide +kernel
theorem dX6_layBits_22 : decode cX6_layBits 22 = .ok (.iload 5, 2) := by decide +kernel
theorem dX6_layBits_24 : decode cX6_layBits 24 = .ok (.ifCond .ne 20, 3) := by decide +kernel
theorem dX6_layBits_27 : decode cX6_layBits 27 = .ok (.aload_n 0, 1) := by decide +kernel
theorem dX6_layBits_28 : decode cX6_layBits 28 = .ok (.getfield 42, 3) := by decide +kernel
theorem dX6_layBits_31 : decode cX6_layBits 31 = .ok (.iload 6, 2) := by decide +kernel
theorem dX6_layBits_33 : decode cX6_layBits 33 = .ok (.iaload, 1) := by decide +kernel
theorem dX6_layBits_34 : decode cX6_layBits 34 = .ok (.aload_n 0, 1) := by decide +kernel
theorem dX6_layBits_35 : decode cX6_layBits 35 = .ok (.getfield 42, 3) := by decide +kernel
theorem dX6_layBits_38 : decode cX6_layBits 38 = .ok (.iload 4, 2) := by decide +kernel
theorem dX6_layBits_40 : decode cX6_layBits 40 = .ok (.iaload, 1) := by decide +kernel
theorem dX6_layBits_41 : decode cX6_layBits 41 = .ok (.if_icmp .ne 7, 3) := by decide +kernel
theorem dX6_layBits_44 : decode cX6_layBits 44 = .ok (.iconst 1, 1) := by decide +kernel
theorem dX6_layBits_45 : decode cX6_layBits 45 = .ok (.goto 4, 3) := by decide +kernel
theorem dX6_layBits_48 : decode cX6_layBits 48 = .ok (.iconst 0, 1) := by decide +kernel
theorem dX6_layBits_49 : decode cX6_layBits 49 = .ok (.istore 5, 2) := by decide +kernel
theorem dX6_layBits_51 : decode cX6_layBits 51 = .ok (.iinc 6 1, 3) := by decide +kernel
theorem dX6_layBits_54 : decode cX6_layBits 54 = .ok (.goto (-39), 3) := by decide +kernel
theorem dX6_layBits_57 : decode cX6_layBits 57 = .ok (.iload 5, 2) := by decide +kernel
theorem dX6_layBits_59 : decode cX6_layBits 59 = .ok (.ifCond .ne 121, 3) := by decide +kernel
theorem dX6_layBits_62 : decode cX6_layBits 62 = .ok (.lconst 0, 1) := by decide +kernel
theorem dX6_layBits_63 : decode cX6_layBits 63 = .ok (.lstore 6, 2) := by decide +kernel
theorem dX6_layBits_65 : decode cX6_layBits 65 = .ok (.iload 4, 2) := by decide +kernel
theorem dX6_layBits_67 : decode cX6_layBits 67 = .ok (.istore 8, 2) := by decide +kernel
theorem dX6_layBits_69 : decode cX6_layBits 69 = .ok (.iload 8, 2) := by decide +kernel
theorem dX6_layBits_71 : decode cX6_layBits 71 = .ok (.iload_n 3, 1) := by decide +kernel
theorem dX6_layBits_72 : decode cX6_layBits 72 = .ok (.if_icmp .ge 76, 3) := by decide +kernel
theorem dX6_layBits_75 : decode cX6_layBits 75 = .ok (.aload_n 0, 1) := by decide +kernel
theorem dX6_layBits_76 : decode cX6_layBits 76 = .ok (.getfield 36, 3) := by decide +kernel
theorem dX6_layBits_79 : decode cX6_layBits 79 = .ok (.iload 8, 2) := by decide +kernel
theorem dX6_layBits_81 : decode cX6_layBits 81 = .ok (.iaload, 1) := by decide +kernel
theorem dX6_layBits_82 : decode cX6_layBits 82 = .ok (.aload_n 0, 1) := by decide +kernel
theorem dX6_layBits_83 : decode cX6_layBits 83 = .ok (.getfield 36, 3) := by decide +kernel
theorem dX6_layBits_86 : decode cX6_layBits 86 = .ok (.iload_n 2, 1) := by decide +kernel
theorem dX6_layBits_87 : decode cX6_layBits 87 = .ok (.iaload, 1) := by decide +kernel
theorem dX6_layBits_88 : decode cX6_layBits 88 = .ok (.isub, 1) := by decide +kernel
theorem dX6_layBits_89 : decode cX6_layBits 89 = .ok (.istore 9, 2) := by decide +kernel
theorem dX6_layBits_91 : decode cX6_layBits 91 = .ok (.iload 9, 2) := by decide +kernel
theorem dX6_layBits_93 : decode cX6_layBits 93 = .ok (.aload_n 0, 1) := by decide +kernel
theorem dX6_layBits_94 : decode cX6_layBits 94 = .ok (.getfield 39, 3) := by decide +kernel
theorem dX6_layBits_97 : decode cX6_layBits 97 = .ok (.iload 8, 2) := by decide +kernel
theorem dX6_layBits_99 : decode cX6_layBits 99 = .ok (.iaload, 1) := by decide +kernel
theorem dX6_layBits_100 : decode cX6_layBits 100 = .ok (.aload_n 0, 1) := by decide +kernel
theorem dX6_layBits_101 : decode cX6_layBits 101 = .ok (.getfield 36, 3) := by decide +kernel
theorem dX6_layBits_104 : decode cX6_layBits 104 = .ok (.iload_n 2, 1) := by decide +kernel
theorem dX6_layBits_105 : decode cX6_layBits 105 = .ok (.iaload, 1) := by decide +kernel
theorem dX6_layBits_106 : decode cX6_layBits 106 = .ok (.isub, 1) := by decide +kernel
theorem dX6_layBits_107 : decode cX6_layBits 107 = .ok (.if_icmp .gt 35, 3) := by decide +kernel
theorem dX6_layBits_110 : decode cX6_layBits 110 = .ok (.aload_n 0, 1) := by decide +kernel
theorem dX6_layBits_111 : decode cX6_layBits 111 = .ok (.getfield 42, 3) := by decide +kernel
theorem dX6_layBits_114 : decode cX6_layBits 114 = .ok (.iload 8, 2) := by decide +kernel
theorem dX6_layBits_116 : decode cX6_layBits 116 = .ok (.iaload, 1) := by decide +kernel
theorem dX6_layBits_117 : decode cX6_layBits 117 = .ok (.aload_n 0, 1) := by decide +kernel
theorem dX6_layBits_118 : decode cX6_layBits 118 = .ok (.getfield 42, 3) := by decide +kernel
theorem dX6_layBits_121 : decode cX6_layBits 121 = .ok (.iload 4, 2) := by decide +kernel
theorem dX6_layBits_123 : decode cX6_layBits 123 = .ok (.iaload, 1) := by decide +kernel
theorem dX6_layBits_124 : decode cX6_layBits 124 = .ok (.if_icmp .ne 18, 3) := by decide +kernel
theorem dX6_layBits_127 : decode cX6_layBits 127 = .ok (.lload 6, 2) := by decide +kernel
theorem dX6_layBits_129 : decode cX6_layBits 129 = .ok (.lconst 1, 1) := by decide +kernel
theorem dX6_layBits_130 : decode cX6_layBits 130 = .ok (.iload 9, 2) := by decide +kernel
theorem dX6_layBits_132 : decode cX6_layBits 132 = .ok (.lshl, 1) := by decide +kernel
theorem dX6_layBits_133 : decode cX6_layBits 133 = .ok (.lor, 1) := by decide +kernel
theorem dX6_layBits_134 : decode cX6_layBits 134 = .ok (.lstore 6, 2) := by decide +kernel
theorem dX6_layBits_136 : decode cX6_layBits 136 = .ok (.iinc 9 1, 3) := by decide +kernel
theorem dX6_layBits_139 : decode cX6_layBits 139 = .ok (.goto (-48), 3) := by decide +kernel
theorem dX6_layBits_142 : decode cX6_layBits 142 = .ok (.iinc 8 1, 3) := by decide +kernel
theorem dX6_layBits_145 : decode cX6_layBits 145 = .ok (.goto (-76), 3) := by decide +kernel
theorem dX6_layBits_148 : decode cX6_layBits 148 = .ok (.aload_n 0, 1) := by decide +kernel
theorem dX6_layBits_149 : decode cX6_layBits 149 = .ok (.iconst 4, 1) := by decide +kernel
theorem dX6_layBits_150 : decode cX6_layBits 150 = .ok (.aload_n 0, 1) := by decide +kernel
theorem dX6_layBits_151 : decode cX6_layBits 151 = .ok (.getfield 36, 3) := by decide +kernel
theorem dX6_layBits_154 : decode cX6_layBits 154 = .ok (.iload_n 2, 1) := by decide +kernel
theorem dX6_layBits_155 : decode cX6_layBits 155 = .ok (.iaload, 1) := by decide +kernel
theorem dX6_layBits_156 : decode cX6_layBits 156 = .ok (.aload_n 0, 1) := by decide +kernel
theorem dX6_layBits_157 : decode cX6_layBits 157 = .ok (.getfield 42, 3) := by decide +kernel
theorem dX6_layBits_160 : decode cX6_layBits 160 = .ok (.iload 4, 2) := by decide +kernel
theorem dX6_layBits_162 : decode cX6_layBits 162 = .ok (.iaload, 1) := by decide +kernel
theorem dX6_layBits_163 : decode cX6_layBits 163 = .ok (.iload_n 1, 1) := by decide +kernel
theorem dX6_layBits_164 : decode cX6_layBits 164 = .ok (.invokevirtual 168, 3) := by decide +kernel
theorem dX6_layBits_167 : decode cX6_layBits 167 = .ok (.aload_n 0, 1) := by decide +kernel
theorem dX6_layBits_168 : decode cX6_layBits 168 = .ok (.getfield 79, 3) := by decide +kernel
theorem dX6_layBits_171 : decode cX6_layBits 171 = .ok (.aload_n 0, 1) := by decide +kernel
theorem dX6_layBits_172 : decode cX6_layBits 172 = .ok (.getfield 158, 3) := by decide +kernel
theorem dX6_layBits_175 : decode cX6_layBits 175 = .ok (.iconst 1, 1) := by decide +kernel
theorem dX6_layBits_176 : decode cX6_layBits 176 = .ok (.isub, 1) := by decide +kernel
theorem dX6_layBits_177 : decode cX6_layBits 177 = .ok (.lload 6, 2) := by decide +kernel
theorem dX6_layBits_179 : decode cX6_layBits 179 = .ok (.lastore, 1) := by decide +kernel
theorem dX6_layBits_180 : decode cX6_layBits 180 = .ok (.iinc 4 1, 3) := by decide +kernel
theorem dX6_layBits_183 : decode cX6_layBits 183 = .ok (.goto (-180), 3) := by decide +kernel
theorem dX6_layBits_186 : decode cX6_layBits 186 = .ok (.return_, 1) := by decide +kernel
theorem dX6_make_0 : decode cX6_make 0 = .ok (.aload_n 0, 1) := by decide +kernel
theorem dX6_make_1 : decode cX6_make 1 = .ok (.invokevirtual 183, 3) := by decide +kernel
theorem dX6_make_4 : decode cX6_make 4 = .ok (.aload_n 0, 1) := by decide +kernel
theorem dX6_make_5 : decode cX6_make 5 = .ok (.invokevirtual 186, 3) := by decide +kernel
theorem dX6_make_8 : decode cX6_make 8 = .ok (.aload_n 0, 1) := by decide +kernel
theorem dX6_make_9 : decode cX6_make 9 = .ok (.invokevirtual 189, 3) := by decide +kernel
theorem dX6_make_12 : decode cX6_make 12 = .ok (.aload_n 0, 1) := by decide +kernel
theorem dX6_make_13 : decode cX6_make 13 = .ok (.iconst 0, 1) := by decide +kernel
theorem dX6_make_14 : decode cX6_make 14 = .ok (.putfield 158, 3) := by decide +kernel
theorem dX6_make_17 : decode cX6_make 17 = .ok (.aload_n 0, 1) := by decide +kernel
theorem dX6_make_18 : decode cX6_make 18 = .ok (.iconst 0, 1) := by decide +kernel
theorem dX6_make_19 : decode cX6_make 19 = .ok (.putfield 161, 3) := by decide +kernel
theorem dX6_make_22 : decode cX6_make 22 = .ok (.aload_n 0, 1) := by decide +kernel
theorem dX6_make_23 : decode cX6_make 23 = .ok (.getfield 149, 3) := by decide +kernel
theorem dX6_make_26 : decode cX6_make 26 = .ok (.ifCond .ne 15, 3) := by decide +kernel
theorem dX6_make_29 : decode cX6_make 29 = .ok (.aload_n 0, 1) := by decide +kernel
theorem dX6_make_30 : decode cX6_make 30 = .ok (.iconst 3, 1) := by decide +kernel
theorem dX6_make_31 : decode cX6_make 31 = .ok (.aload_n 0, 1) := by decide +kernel
theorem dX6_make_32 : decode cX6_make 32 = .ok (.getfield 125, 3) := by decide +kernel
theorem dX6_make_35 : decode cX6_make 35 = .ok (.iconst 0, 1) := by decide +kernel
theorem dX6_make_36 : decode cX6_make 36 = .ok (.iconst (-1), 1) := by decide +kernel
theorem dX6_make_37 : decode cX6_make 37 = .ok (.invokevirtual 168, 3) := by decide +kernel
theorem dX6_make_40 : decode cX6_make 40 = .ok (.return_, 1) := by decide +kernel
theorem dX6_make_41 : decode cX6_make 41 = .ok (.aload_n 0, 1) := by decide +kernel
theorem dX6_make_42 : decode cX6_make 42 = .ok (.iconst 0, 1) := by decide +kernel
theorem dX6_make_43 : decode cX6_make 43 = .ok (.aload_n 0, 1) := by decide +kernel
theorem dX6_make_44 : decode cX6_make 44 = .ok (.getfield 149, 3) := by decide +kernel
theorem dX6_make_47 : decode cX6_make 47 = .ok (.iconst 1, 1) := by decide +kernel
theorem dX6_make_48 : decode cX6_make 48 = .ok (.isub, 1) := by decide +kernel
theorem dX6_make_49 : decode cX6_make 49 = .ok (.iconst 0, 1) := by decide +kernel
theorem dX6_make_50 : decode cX6_make 50 = .ok (.ldc2_w 141, 3) := by decide +kernel
theorem dX6_make_53 : decode cX6_make 53 = .ok (.ldc2_w 192, 3) := by decide +kernel
theorem dX6_make_56 : decode cX6_make 56 = .ok (.iconst (-1), 1) := by decide +kernel
theorem dX6_make_57 : decode cX6_make 57 = .ok (.invokevirtual 194, 3) := by decide +kernel
theorem dX6_make_60 : decode cX6_make 60 = .ok (.aload_n 0, 1) := by decide +kernel
theorem dX6_make_61 : decode cX6_make 61 = .ok (.getfield 161, 3) := by decide +kernel
theorem dX6_make_64 : decode cX6_make 64 = .ok (.ifCond .le 197, 3) := by decide +kernel
theorem dX6_make_67 : decode cX6_make 67 = .ok (.aload_n 0, 1) := by decide +kernel
theorem dX6_make_68 : decode cX6_make 68 = .ok (.dup, 1) := by decide +kernel
theorem dX6_make_69 : decode cX6_make 69 = .ok (.getfield 161, 3) := by decide +kernel
theorem dX6_make_72 : decode cX6_make 72 = .ok (.iconst 1, 1) := by decide +kernel
theorem dX6_make_73 : decode cX6_make 73 = .ok (.isub, 1) := by decide +kernel
theorem dX6_make_74 : decode cX6_make 74 = .ok (.putfield 161, 3) := by decide +kernel
theorem dX6_make_77 : decode cX6_make 77 = .ok (.aload_n 0, 1) := by decide +kernel
theorem dX6_make_78 : decode cX6_make 78 = .ok (.getfield 85, 3) := by decide +kernel
theorem dX6_make_81 : decode cX6_make 81 = .ok (.aload_n 0, 1) := by decide +kernel
theorem dX6_make_82 : decode cX6_make 82 = .ok (.getfield 161, 3) := by decide +kernel
theorem dX6_make_85 : decode cX6_make 85 = .ok (.iaload, 1) := by decide +kernel
theorem dX6_make_86 : decode cX6_make 86 = .ok (.istore_n 1, 1) := by decide +kernel
theorem dX6_make_87 : decode cX6_make 87 = .ok (.aload_n 0, 1) := by decide +kernel
theorem dX6_make_88 : decode cX6_make 88 = .ok (.getfield 88, 3) := by decide +kernel
theorem dX6_make_91 : decode cX6_make 91 = .ok (.aload_n 0, 1) := by decide +kernel
theorem dX6_make_92 : decode cX6_make 92 = .ok (.getfield 161, 3) := by decide +kernel
theorem dX6_make_95 : decode cX6_make 95 = .ok (.iaload, 1) := by decide +kernel
theorem dX6_make_96 : decode cX6_make 96 = .ok (.istore_n 2, 1) := by decide +kernel
theorem dX6_make_97 : decode cX6_make 97 = .ok (.aload_n 0, 1) := by decide +kernel
theorem dX6_make_98 : decode cX6_make 98 = .ok (.getfield 91, 3) := by decide +kernel
theorem dX6_make_101 : decode cX6_make 101 = .ok (.aload_n 0, 1) := by decide +kernel
theorem dX6_make_102 : decode cX6_make 102 = .ok (.getfield 161, 3) := by decide +kernel
theorem dX6_make_105 : decode cX6_make 105 = .ok (.iaload, 1) := by decide +kernel
theorem dX6_make_106 : decode cX6_make 106 = .ok (.istore_n 3, 1) := by decide +kernel
theorem dX6_make_107 : decode cX6_make 107 = .ok (.aload_n 0, 1) := by decide +kernel
theorem dX6_make_108 : decode cX6_make 108 = .ok (.getfield 94, 3) := by decide +kernel
theorem dX6_make_111 : decode cX6_make 111 = .ok (.aload_n 0, 1) := by decide +kernel
theorem dX6_make_112 : decode cX6_make 112 = .ok (.getfield 161, 3) := by decide +kernel
theorem dX6_make_115 : decode cX6_make 115 = .ok (.laload, 1) := by decide +kernel
theorem dX6_make_116 : decode cX6_make 116 = .ok (.lstore 4, 2) := by decide +kernel
theorem dX6_make_118 : decode cX6_make 118 = .ok (.aload_n 0, 1) := by decide +kernel
theorem dX6_make_119 : decode cX6_make 119 = .ok (.getfield 97, 3) := by decide +kernel
theorem dX6_make_122 : decode cX6_make 122 = .ok (.aload_n 0, 1) := by decide +kernel
theorem dX6_make_123 : decode cX6_make 123 = .ok (.getfield 161, 3) := by decide +kernel
theorem dX6_make_126 : decode cX6_make 126 = .ok (.laload, 1) := by decide +kernel
theorem dX6_make_127 : decode cX6_make 127 = .ok (.lstore 6, 2) := by decide +kernel
theorem dX6_make_129 : decode cX6_make 129 = .ok (.aload_n 0, 1) := by decide +kernel
theorem dX6_make_130 : decode cX6_make 130 = .ok (.getfield 100, 3) := by decide +kernel
theorem dX6_make_133 : decode cX6_make 133 = .ok (.aload_n 0, 1) := by decide +kernel
theorem dX6_make_134 : decode cX6_make 134 = .ok (.getfield 161, 3) := by decide +kernel
theorem dX6_make_137 : decode cX6_make 137 = .ok (.iaload, 1) := by decide +kernel
theorem dX6_make_138 : decode cX6_make 138 = .ok (.ifCond .lt 21, 3) := by decide +kernel
theorem dX6_make_141 : decode cX6_make 141 = .ok (.aload_n 0, 1) := by decide +kernel
theorem dX6_make_142 : decode cX6_make 142 = .ok (.getfield 76, 3) := by decide +kernel
theorem dX6_make_145 : decode cX6_make 145 = .ok (.aload_n 0, 1) := by decide +kernel
theorem dX6_make_146 : decode cX6_make 146 = .ok (.getfield 100, 3) := by decide +kernel
theorem dX6_make_149 : decode cX6_make 149 = .ok (.aload_n 0, 1) := by decide +kernel
theorem dX6_make_150 : decode cX6_make 150 = .ok (.getfield 161, 3) := by decide +kernel
theorem dX6_make_153 : decode cX6_make 153 = .ok (.iaload, 1) := by decide +kernel
theorem dX6_make_154 : decode cX6_make 154 = .ok (.aload_n 0, 1) := by decide +kernel
theorem dX6_make_155 : decode cX6_make 155 = .ok (.getfield 158, 3) := by decide +kernel
theorem dX6_make_158 : decode cX6_make 158 = .ok (.iastore, 1) := by decide +kernel
theorem dX6_make_159 : decode cX6_make 159 = .ok (.iload_n 1, 1) := by decide +kernel
theorem dX6_make_160 : decode cX6_make 160 = .ok (.iload_n 2, 1) := by decide +kernel
theorem dX6_make_161 : decode cX6_make 161 = .ok (.if_icmp .ne 22, 3) := by decide +kernel
theorem dX6_make_164 : decode cX6_make 164 = .ok (.aload_n 0, 1) := by decide +kernel
theorem dX6_make_165 : decode cX6_make 165 = .ok (.getfield 67, 3) := by decide +kernel
theorem dX6_make_168 : decode cX6_make 168 = .ok (.iload_n 1, 1) := by decide +kernel
theorem dX6_make_169 : decode cX6_make 169 = .ok (.iload_n 3, 1) := by decide +kernel
theorem dX6_make_170 : decode cX6_make 170 = .ok (.iastore, 1) := by decide +kernel
theorem dX6_make_171 : decode cX6_make 171 = .ok (.aload_n 0, 1) := by decide +kernel
theorem dX6_make_172 : decode cX6_make 172 = .ok (.iload_n 1, 1) := by decide +kernel
theorem dX6_make_173 : decode cX6_make 173 = .ok (.lload 4, 2) := by decide +kernel
theorem dX6_make_175 : decode cX6_make 175 = .ok (.lload 6, 2) := by decide +kernel
theorem dX6_make_177 : decode cX6_make 177 = .ok (.invokevirtual 198, 3) := by decide +kernel
theorem dX6_make_180 : decode cX6_make 180 = .ok (.goto 78, 3) := by decide +kernel
theorem dX6_make_183 : decode cX6_make 183 = .ok (.aload_n 0, 1) := by decide +kernel
theorem dX6_make_184 : decode cX6_make 184 = .ok (.getfield 64, 3) := by decide +kernel
theorem dX6_make_187 : decode cX6_make 187 = .ok (.bipush 24, 2) := by decide +kernel
theorem dX6_make_189 : decode cX6_make 189 = .ok (.iload_n 1, 1) := by decide +kernel
theorem dX6_make_190 : decode cX6_make 190 = .ok (.imul, 1) := by decide +kernel
theorem dX6_make_191 : decode cX6_make 191 = .ok (.iload_n 2, 1) := by decide +kernel
theorem dX6_make_192 : decode cX6_make 192 = .ok (.iadd, 1) := by decide +kernel
theorem dX6_make_193 : decode cX6_make 193 = .ok (.iaload, 1) := by decide +kernel
theorem dX6_make_194 : decode cX6_make 194 = .ok (.istore 8, 2) := by decide +kernel
theorem dX6_make_196 : decode cX6_make 196 = .ok (.aload_n 0, 1) := by decide +kernel
theorem dX6_make_197 : decode cX6_make 197 = .ok (.iconst 0, 1) := by decide +kernel
theorem dX6_make_198 : decode cX6_make 198 = .ok (.aload_n 0, 1) := by decide +kernel
theorem dX6_make_199 : decode cX6_make 199 = .ok (.iload 8, 2) := by decide +kernel
theorem dX6_make_201 : decode cX6_make 201 = .ok (.invokevirtual 164, 3) := by decide +kernel
theorem dX6_make_204 : decode cX6_make 204 = .ok (.iconst 0, 1) := by decide +kernel
theorem dX6_make_205 : decode cX6_make 205 = .ok (.iconst (-1), 1) := by decide +kernel
theorem dX6_make_206 : decode cX6_make 206 = .ok (.invokevirtual 168, 3) := by decide +kernel
theorem dX6_make_209 : decode cX6_make 209 = .ok (.aload_n 0, 1) := by decide +kernel
theorem dX6_make_210 : decode cX6_make 210 = .ok (.iload_n 1, 1) := by decide +kernel
theorem dX6_make_211 : decode cX6_make 211 = .ok (.iload 8, 2) := by decide +kernel
theorem dX6_make_213 : decode cX6_make 213 = .ok (.iconst 1, 1) := by decide +kernel
theorem dX6_make_214 : decode cX6_make 214 = .ok (.isub, 1) := by decide +kernel
theorem dX6_make_215 : decode cX6_make 215 = .ok (.iload_n 3, 1) := by decide +kernel
theorem dX6_make_216 : decode cX6_make 216 = .ok (.iconst 1, 1) := by decide +kernel
theorem dX6_make_217 : decode cX6_make 217 = .ok (.iadd, 1) := by decide +kernel
theorem dX6_make_218 : decode cX6_make 218 = .ok (.lload 4, 2) := by decide +kernel
theorem dX6_make_220 : decode cX6_make 220 = .ok (.aload_n 0, 1) := by decide +kernel
theorem dX6_make_221 : decode cX6_make 221 = .ok (.iload 8, 2) := by decide +kernel
theorem dX6_make_223 : decode cX6_make 223 = .ok (.invokevirtual 164, 3) := by decide +kernel
theorem dX6_make_226 : decode cX6_make 226 = .ok (.i2l, 1) := by decide +kernel
theorem dX6_make_227 : decode cX6_make 227 = .ok (.lconst 1, 1) := by decide +kernel
theorem dX6_make_228 : decode cX6_make 228 = .ok (.lsub, 1) := by decide +kernel
theorem dX6_make_229 : decode cX6_make 229 = .ok (.aload_n 0, 1) := by decide +kernel
theorem dX6_make_230 : decode cX6_make 230 = .ok (.getfield 158, 3) := by decide +kernel
theorem dX6_make_233 : decode cX6_make 233 = .ok (.iconst 1, 1) := by decide +kernel
theorem dX6_make_234 : decode cX6_make 234 = .ok (.isub, 1) := by decide +kernel
theorem dX6_make_235 : decode cX6_make 235 = .ok (.invokevirtual 194, 3) := by decide +kernel
theorem dX6_make_238 : decode cX6_make 238 = .ok (.aload_n 0, 1) := by decide +kernel
theorem dX6_make_239 : decode cX6_make 239 = .ok (.iload 8, 2) := by decide +kernel
theorem dX6_make_241 : decode cX6_make 241 = .ok (.iload_n 2, 1) := by decide +kernel
theorem dX6_make_242 : decode cX6_make 242 = .ok (.iload_n 3, 1) := by decide +kernel
theorem dX6_make_243 : decode cX6_make 243 = .ok (.iconst 1, 1) := by decide +kernel
theorem dX6_make_244 : decode cX6_make 244 = .ok (.iadd, 1) := by decide +kernel
theorem dX6_make_245 : decode cX6_make 245 = .ok (.aload_n 0, 1) := by decide +kernel
theorem dX6_make_246 : decode cX6_make 246 = .ok (.iload 8, 2) := by decide +kernel
theorem dX6_make_248 : decode cX6_make 248 = .ok (.invokevirtual 164, 3) := by decide +kernel
theorem dX6_make_251 : decode cX6_make 251 = .ok (.i2l, 1) := by decide +kernel
theorem dX6_make_252 : decode cX6_make 252 = .ok (.lload 6, 2) := by decide +kernel
theorem dX6_make_254 : decode cX6_make 254 = .ok (.iconst (-1), 1) := by decide +kernel
theorem dX6_make_255 : decode cX6_make 255 = .ok (.invokevirtual 194, 3) := by decide +kernel
theorem dX6_make_258 : decode cX6_make 258 = .ok (.goto (-198), 3) := by decide +kernel
theorem dX6_make_261 : decode cX6_make 261 = .ok (.return_, 1) := by decide +kernel
theorem dX6_within_0 : decode cX6_within 0 = .ok (.aload_n 0, 1) := by decide +kernel
theorem dX6_within_1 : decode cX6_within 1 = .ok (.getfield 125, 3) := by decide +kernel
theorem dX6_within_4 : decode cX6_within 4 = .ok (.istore_n 3, 1) := by decide +kernel
theorem dX6_within_5 : decode cX6_within 5 = .ok (.aload_n 0, 1) := by decide +kernel
theorem dX6_within_6 : decode cX6_within 6 = .ok (.getfield 51, 3) := by decide +kernel
theorem dX6_within_9 : decode cX6_within 9 = .ok (.iload_n 1, 1) := by decide +kernel
theorem dX6_within_10 : decode cX6_within 10 = .ok (.iaload, 1) := by decide +kernel
theorem dX6_within_11 : decode cX6_within 11 = .ok (.istore 4, 2) := by decide +kernel
theorem dX6_within_13 : decode cX6_within 13 = .ok (.iload 4, 2) := by decide +kernel
theorem dX6_within_15 : decode cX6_within 15 = .ok (.aload_n 0, 1) := by decide +kernel
theorem dX6_within_16 : decode cX6_within 16 = .ok (.getfield 51, 3) := by decide +kernel
theorem dX6_within_19 : decode cX6_within 19 = .ok (.iload_n 1, 1) := by decide +kernel
theorem dX6_within_20 : decode cX6_within 20 = .ok (.iaload, 1) := by decide +kernel
theorem dX6_within_21 : decode cX6_within 21 = .ok (.aload_n 0, 1) := by decide +kernel
theorem dX6_within_22 : decode cX6_within 22 = .ok (.getfield 54, 3) := by decide +kernel
theorem dX6_within_25 : decode cX6_within 25 = .ok (.iload_n 1, 1) := by decide +kernel
theorem dX6_within_26 : decode cX6_within 26 = .ok (.iaload, 1) := by decide +kernel
theorem dX6_within_27 : decode cX6_within 27 = .ok (.iadd, 1) := by decide +kernel
theorem dX6_within_28 : decode cX6_within 28 = .ok (.if_icmp .ge 45, 3) := by decide +kernel
theorem dX6_within_31 : decode cX6_within 31 = .ok (.iload_n 2, 1) := by decide +kernel
theorem dX6_within_32 : decode cX6_within 32 = .ok (.i2l, 1) := by decide +kernel
theorem dX6_within_33 : decode cX6_within 33 = .ok (.aload_n 0, 1) := by decide +kernel
theorem dX6_within_34 : decode cX6_within 34 = .ok (.getfield 36, 3) := by decide +kernel
theorem dX6_within_37 : decode cX6_within 37 = .ok (.iload 4, 2) := by decide +kernel
theorem dX6_within_39 : decode cX6_within 39 = .ok (.iaload, 1) := by decide +kernel
theorem dX6_within_40 : decode cX6_within 40 = .ok (.i2l, 1) := by decide +kernel
theorem dX6_within_41 : decode cX6_within 41 = .ok (.aload_n 0, 1) := by decide +kernel
theorem dX6_within_42 : decode cX6_within 42 = .ok (.getfield 39, 3) := by decide +kernel
theorem dX6_within_45 : decode cX6_within 45 = .ok (.iload 4, 2) := by decide +kernel
theorem dX6_within_47 : decode cX6_within 47 = .ok (.iaload, 1) := by decide +kernel
theorem dX6_within_48 : decode cX6_within 48 = .ok (.i2l, 1) := by decide +kernel
theorem dX6_within_49 : decode cX6_within 49 = .ok (.invokestatic 110, 3) := by decide +kernel
theorem dX6_within_52 : decode cX6_within 52 = .ok (.ifCond .eq 13, 3) := by decide +kernel
theorem dX6_within_55 : decode cX6_within 55 = .ok (.aload_n 0, 1) := by decide +kernel
theorem dX6_within_56 : decode cX6_within 56 = .ok (.getfield 42, 3) := by decide +kernel
theorem dX6_within_59 : decode cX6_within 59 = .ok (.iload 4, 2) := by decide +kernel
theorem dX6_within_61 : decode cX6_within 61 = .ok (.iaload, 1) := by decide +kernel
theorem dX6_within_62 : decode cX6_within 62 = .ok (.goto 4, 3) := by decide +kernel
theorem dX6_within_65 : decode cX6_within 65 = .ok (.iload_n 3, 1) := by decide +kernel
theorem dX6_within_66 : decode cX6_within 66 = .ok (.istore_n 3, 1) := by decide +kernel
theorem dX6_within_67 : decode cX6_within 67 = .ok (.iinc 4 1, 3) := by decide +kernel
theorem dX6_within_70 : decode cX6_within 70 = .ok (.goto (-57), 3) := by decide +kernel
theorem dX6_within_73 : decode cX6_within 73 = .ok (.iload_n 3, 1) := by decide +kernel
theorem dX6_within_74 : decode cX6_within 74 = .ok (.ireturn, 1) := by decide +kernel
theorem dX6_runOn_0 : decode cX6_runOn 0 = .ok (.iconst 0, 1) := by decide +kernel
theorem dX6_runOn_1 : decode cX6_runOn 1 = .ok (.istore_n 2, 1) := by decide +kernel
theorem dX6_runOn_2 : decode cX6_runOn 2 = .ok (.aload_n 0, 1) := by decide +kernel
theorem dX6_runOn_3 : decode cX6_runOn 3 = .ok (.iconst 0, 1) := by decide +kernel
theorem dX6_runOn_4 : decode cX6_runOn 4 = .ok (.putfield 202, 3) := by decide +kernel
theorem dX6_runOn_7 : decode cX6_runOn 7 = .ok (.aload_n 0, 1) := by decide +kernel
theorem dX6_runOn_8 : decode cX6_runOn 8 = .ok (.dup, 1) := by decide +kernel
theorem dX6_runOn_9 : decode cX6_runOn 9 = .ok (.getfield 202, 3) := by decide +kernel
theorem dX6_runOn_12 : decode cX6_runOn 12 = .ok (.iconst 1, 1) := by decide +kernel
theorem dX6_runOn_13 : decode cX6_runOn 13 = .ok (.iadd, 1) := by decide +kernel
theorem dX6_runOn_14 : decode cX6_runOn 14 = .ok (.putfield 202, 3) := by decide +kernel
theorem dX6_runOn_17 : decode cX6_runOn 17 = .ok (.aload_n 0, 1) := by decide +kernel
theorem dX6_runOn_18 : decode cX6_runOn 18 = .ok (.getfield 70, 3) := by decide +kernel
theorem dX6_runOn_21 : decode cX6_runOn 21 = .ok (.iload_n 2, 1) := by decide +kernel
theorem dX6_runOn_22 : decode cX6_runOn 22 = .ok (.iaload, 1) := by decide +kernel
theorem dX6_runOn_23 : decode cX6_runOn 23 = .ok (.istore_n 3, 1) := by decide +kernel
theorem dX6_runOn_24 : decode cX6_runOn 24 = .ok (.iload_n 3, 1) := by decide +kernel
theorem dX6_runOn_25 : decode cX6_runOn 25 = .ok (.ifCond .eq 8, 3) := by decide +kernel
theorem dX6_runOn_28 : decode cX6_runOn 28 = .ok (.iload_n 3, 1) := by decide +kernel
theorem dX6_runOn_29 : decode cX6_runOn 29 = .ok (.iconst 1, 1) := by decide +kernel
theorem dX6_runOn_30 : decode cX6_runOn 30 = .ok (.if_icmp .ne 46, 3) := by decide +kernel
theorem dX6_runOn_33 : decode cX6_runOn 33 = .ok (.iload_n 3, 1) := by decide +kernel
theorem dX6_runOn_34 : decode cX6_runOn 34 = .ok (.ifCond .ne 16, 3) := by decide +kernel
theorem dX6_runOn_37 : decode cX6_runOn 37 = .ok (.iload_n 1, 1) := by decide +kernel
theorem dX6_runOn_38 : decode cX6_runOn 38 = .ok (.aload_n 0, 1) := by decide +kernel
theorem dX6_runOn_39 : decode cX6_runOn 39 = .ok (.getfield 73, 3) := by decide +kernel
theorem dX6_runOn_42 : decode cX6_runOn 42 = .ok (.iload_n 2, 1) := by decide +kernel
theorem dX6_runOn_43 : decode cX6_runOn 43 = .ok (.iaload, 1) := by decide +kernel
theorem dX6_runOn_44 : decode cX6_runOn 44 = .ok (.if_icmp .ge 25, 3) := by decide +kernel
theorem dX6_runOn_47 : decode cX6_runOn 47 = .ok (.goto 13, 3) := by decide +kernel
theorem dX6_runOn_50 : decode cX6_runOn 50 = .ok (.iload_n 1, 1) := by decide +kernel
theorem dX6_runOn_51 : decode cX6_runOn 51 = .ok (.aload_n 0, 1) := by decide +kernel
theorem dX6_runOn_52 : decode cX6_runOn 52 = .ok (.getfield 73, 3) := by decide +kernel
theorem dX6_runOn_55 : decode cX6_runOn 55 = .ok (.iload_n 2, 1) := by decide +kernel
theorem dX6_runOn_56 : decode cX6_runOn 56 = .ok (.iaload, 1) := by decide +kernel
theorem dX6_runOn_57 : decode cX6_runOn 57 = .ok (.if_icmp .le 12, 3) := by decide +kernel
theorem dX6_runOn_60 : decode cX6_runOn 60 = .ok (.aload_n 0, 1) := by decide +kernel
theorem dX6_runOn_61 : decode cX6_runOn 61 = .ok (.getfield 76, 3) := by decide +kernel
theorem dX6_runOn_64 : decode cX6_runOn 64 = .ok (.iload_n 2, 1) := by decide +kernel
theorem dX6_runOn_65 : decode cX6_runOn 65 = .ok (.iaload, 1) := by decide +kernel
theorem dX6_runOn_66 : decode cX6_runOn 66 = .ok (.goto 6, 3) := by decide +kernel
theorem dX6_runOn_69 : decode cX6_runOn 69 = .ok (.iload_n 2, 1) := by decide +kernel
theorem dX6_runOn_70 : decode cX6_runOn 70 = .ok (.iconst 1, 1) := by decide +kernel
theorem dX6_runOn_71 : decode cX6_runOn 71 = .ok (.iadd, 1) := by decide +kernel
theorem dX6_runOn_72 : decode cX6_runOn 72 = .ok (.istore_n 2, 1) := by decide +kernel
theorem dX6_runOn_73 : decode cX6_runOn 73 = .ok (.goto 95, 3) := by decide +kernel
theorem dX6_runOn_76 : decode cX6_runOn 76 = .ok (.iload_n 3, 1) := by decide +kernel
theorem dX6_runOn_77 : decode cX6_runOn 77 = .ok (.iconst 2, 1) := by decide +kernel
theorem dX6_runOn_78 : decode cX6_runOn 78 = .ok (.if_icmp .ne 26, 3) := by decide +kernel
theorem dX6_runOn_81 : decode cX6_runOn 81 = .ok (.iload_n 1, 1) := by decide +kernel
theorem dX6_runOn_82 : decode cX6_runOn 82 = .ok (.aload_n 0, 1) := by decide +kernel
theorem dX6_runOn_83 : decode cX6_runOn 83 = .ok (.getfield 73, 3) := by decide +kernel
theorem dX6_runOn_86 : decode cX6_runOn 86 = .ok (.iload_n 2, 1) := by decide +kernel
theorem dX6_runOn_87 : decode cX6_runOn 87 = .ok (.iaload, 1) := by decide +kernel
theorem dX6_runOn_88 : decode cX6_runOn 88 = .ok (.if_icmp .ne 10, 3) := by decide +kernel
theorem dX6_runOn_91 : decode cX6_runOn 91 = .ok (.aload_n 0, 1) := by decide +kernel
theorem dX6_runOn_92 : decode cX6_runOn 92 = .ok (.getfield 76, 3) := by decide +kernel
theorem dX6_runOn_95 : decode cX6_runOn 95 = .ok (.iload_n 2, 1) := by decide +kernel
theorem dX6_runOn_96 : decode cX6_runOn 96 = .ok (.iaload, 1) := by decide +kernel
theorem dX6_runOn_97 : decode cX6_runOn 97 = .ok (.ireturn, 1) := by decide +kernel
theorem dX6_runOn_98 : decode cX6_runOn 98 = .ok (.iinc 2 1, 3) := by decide +kernel
theorem dX6_runOn_101 : decode cX6_runOn 101 = .ok (.goto 67, 3) := by decide +kernel
theorem dX6_runOn_104 : decode cX6_runOn 104 = .ok (.iload_n 3, 1) := by decide +kernel
theorem dX6_runOn_105 : decode cX6_runOn 105 = .ok (.iconst 3, 1) := by decide +kernel
theorem dX6_runOn_106 : decode cX6_runOn 106 = .ok (.if_icmp .ne 10, 3) := by decide +kernel
theorem dX6_runOn_109 : decode cX6_runOn 109 = .ok (.aload_n 0, 1) := by decide +kernel
theorem dX6_runOn_110 : decode cX6_runOn 110 = .ok (.getfield 73, 3) := by decide +kernel
theorem dX6_runOn_113 : decode cX6_runOn 113 = .ok (.iload_n 2, 1) := by decide +kernel
theorem dX6_runOn_114 : decode cX6_runOn 114 = .ok (.iaload, 1) := by decide +kernel
theorem dX6_runOn_115 : decode cX6_runOn 115 = .ok (.ireturn, 1) := by decide +kernel
theorem dX6_runOn_116 : decode cX6_runOn 116 = .ok (.iload_n 3, 1) := by decide +kernel
theorem dX6_runOn_117 : decode cX6_runOn 117 = .ok (.iconst 4, 1) := by decide +kernel
theorem dX6_runOn_118 : decode cX6_runOn 118 = .ok (.if_icmp .ne 38, 3) := by decide +kernel
theorem dX6_runOn_121 : decode cX6_runOn 121 = .ok (.aload_n 0, 1) := by decide +kernel
theorem dX6_runOn_122 : decode cX6_runOn 122 = .ok (.getfield 79, 3) := by decide +kernel
theorem dX6_runOn_125 : decode cX6_runOn 125 = .ok (.iload_n 2, 1) := by decide +kernel
theorem dX6_runOn_126 : decode cX6_runOn 126 = .ok (.laload, 1) := by decide +kernel
theorem dX6_runOn_127 : decode cX6_runOn 127 = .ok (.iload_n 1, 1) := by decide +kernel
theorem dX6_runOn_128 : decode cX6_runOn 128 = .ok (.aload_n 0, 1) := by decide +kernel
theorem dX6_runOn_129 : decode cX6_runOn 129 = .ok (.getfield 73, 3) := by decide +kernel
theorem dX6_runOn_132 : decode cX6_runOn 132 = .ok (.iload_n 2, 1) := by decide +kernel
theorem dX6_runOn_133 : decode cX6_runOn 133 = .ok (.iaload, 1) := by decide +kernel
theorem dX6_runOn_134 : decode cX6_runOn 134 = .ok (.isub, 1) := by decide +kernel
theorem dX6_runOn_135 : decode cX6_runOn 135 = .ok (.lshr, 1) := by decide +kernel
theorem dX6_runOn_136 : decode cX6_runOn 136 = .ok (.lconst 1, 1) := by decide +kernel
theorem dX6_runOn_137 : decode cX6_runOn 137 = .ok (.land, 1) := by decide +kernel
theorem dX6_runOn_138 : decode cX6_runOn 138 = .ok (.lconst 1, 1) := by decide +kernel
theorem dX6_runOn_139 : decode cX6_runOn 139 = .ok (.lcmp, 1) := by decide +kernel
theorem dX6_runOn_140 : decode cX6_runOn 140 = .ok (.ifCond .ne 10, 3) := by decide +kernel
theorem dX6_runOn_143 : decode cX6_runOn 143 = .ok (.aload_n 0, 1) := by decide +kernel
theorem dX6_runOn_144 : decode cX6_runOn 144 = .ok (.getfield 76, 3) := by decide +kernel
theorem dX6_runOn_147 : decode cX6_runOn 147 = .ok (.iload_n 2, 1) := by decide +kernel
theorem dX6_runOn_148 : decode cX6_runOn 148 = .ok (.iaload, 1) := by decide +kernel
theorem dX6_runOn_149 : decode cX6_runOn 149 = .ok (.ireturn, 1) := by decide +kernel
theorem dX6_runOn_150 : decode cX6_runOn 150 = .ok (.iinc 2 1, 3) := by decide +kernel
theorem dX6_runOn_153 : decode cX6_runOn 153 = .ok (.goto 15, 3) := by decide +kernel
theorem dX6_runOn_156 : decode cX6_runOn 156 = .ok (.aload_n 0, 1) := by decide +kernel
theorem dX6_runOn_157 : decode cX6_runOn 157 = .ok (.aload_n 0, 1) := by decide +kernel
theorem dX6_runOn_158 : decode cX6_runOn 158 = .ok (.getfield 82, 3) := by decide +kernel
theorem dX6_runOn_161 : decode cX6_runOn 161 = .ok (.iload_n 2, 1) := by decide +kernel
theorem dX6_runOn_162 : decode cX6_runOn 162 = .ok (.iaload, 1) := by decide +kernel
theorem dX6_runOn_163 : decode cX6_runOn 163 = .ok (.iload_n 1, 1) := by decide +kernel
theorem dX6_runOn_164 : decode cX6_runOn 164 = .ok (.invokevirtual 205, 3) := by decide +kernel
theorem dX6_runOn_167 : decode cX6_runOn 167 = .ok (.ireturn, 1) := by decide +kernel
theorem dX6_runOn_168 : decode cX6_runOn 168 = .ok (.goto (-161), 3) := by decide +kernel
theorem dX6_stepsOf_0 : decode cX6_stepsOf 0 = .ok (.lload_n 1, 1) := by decide +kernel
theorem dX6_stepsOf_1 : decode cX6_stepsOf 1 = .ok (.ldc2_w 141, 3) := by decide +kernel
theorem dX6_stepsOf_4 : decode cX6_stepsOf 4 = .ok (.ldc2_w 192, 3) := by decide +kernel
theorem dX6_stepsOf_7 : decode cX6_stepsOf 7 = .ok (.invokestatic 110, 3) := by decide +kernel
theorem dX6_stepsOf_10 : decode cX6_stepsOf 10 = .ok (.ifCond .ne 5, 3) := by decide +kernel
theorem dX6_stepsOf_13 : decode cX6_stepsOf 13 = .ok (.iconst 0, 1) := by decide +kernel
theorem dX6_stepsOf_14 : decode cX6_stepsOf 14 = .ok (.ireturn, 1) := by decide +kernel
theorem dX6_stepsOf_15 : decode cX6_stepsOf 15 = .ok (.aload_n 0, 1) := by decide +kernel
theorem dX6_stepsOf_16 : decode cX6_stepsOf 16 = .ok (.lload_n 1, 1) := by decide +kernel
theorem dX6_stepsOf_17 : decode cX6_stepsOf 17 = .ok (.l2i, 1) := by decide +kernel
theorem dX6_stepsOf_18 : decode cX6_stepsOf 18 = .ok (.invokevirtual 208, 3) := by decide +kernel
theorem dX6_stepsOf_21 : decode cX6_stepsOf 21 = .ok (.istore_n 3, 1) := by decide +kernel
theorem dX6_stepsOf_22 : decode cX6_stepsOf 22 = .ok (.aload_n 0, 1) := by decide +kernel
theorem dX6_stepsOf_23 : decode cX6_stepsOf 23 = .ok (.getfield 202, 3) := by decide +kernel
theorem dX6_stepsOf_26 : decode cX6_stepsOf 26 = .ok (.ireturn, 1) := by decide +kernel
theorem dX6_mostSteps_0 : decode cX6_mostSteps 0 = .ok (.aload_n 0, 1) := by decide +kernel
theorem dX6_mostSteps_1 : decode cX6_mostSteps 1 = .ok (.ldc2_w 141, 3) := by decide +kernel
theorem dX6_mostSteps_4 : decode cX6_mostSteps 4 = .ok (.invokevirtual 211, 3) := by decide +kernel
theorem dX6_mostSteps_7 : decode cX6_mostSteps 7 = .ok (.istore_n 1, 1) := by decide +kernel
theorem dX6_mostSteps_8 : decode cX6_mostSteps 8 = .ok (.aload_n 0, 1) := by decide +kernel
theorem dX6_mostSteps_9 : decode cX6_mostSteps 9 = .ok (.ldc2_w 192, 3) := by decide +kernel
theorem dX6_mostSteps_12 : decode cX6_mostSteps 12 = .ok (.invokevirtual 211, 3) := by decide +kernel
theorem dX6_mostSteps_15 : decode cX6_mostSteps 15 = .ok (.istore_n 2, 1) := by decide +kernel
theorem dX6_mostSteps_16 : decode cX6_mostSteps 16 = .ok (.iload_n 2, 1) := by decide +kernel
theorem dX6_mostSteps_17 : decode cX6_mostSteps 17 = .ok (.iload_n 1, 1) := by decide +kernel
theorem dX6_mostSteps_18 : decode cX6_mostSteps 18 = .ok (.if_icmp .le 7, 3) := by decide +kernel
theorem dX6_mostSteps_21 : decode cX6_mostSteps 21 = .ok (.iload_n 2, 1) := by decide +kernel
theorem dX6_mostSteps_22 : decode cX6_mostSteps 22 = .ok (.goto 4, 3) := by decide +kernel
theorem dX6_mostSteps_25 : decode cX6_mostSteps 25 = .ok (.iload_n 1, 1) := by decide +kernel
theorem dX6_mostSteps_26 : decode cX6_mostSteps 26 = .ok (.istore_n 1, 1) := by decide +kernel
theorem dX6_mostSteps_27 : decode cX6_mostSteps 27 = .ok (.iconst 0, 1) := by decide +kernel
theorem dX6_mostSteps_28 : decode cX6_mostSteps 28 = .ok (.istore_n 3, 1) := by decide +kernel
theorem dX6_mostSteps_29 : decode cX6_mostSteps 29 = .ok (.iload_n 3, 1) := by decide +kernel
theorem dX6_mostSteps_30 : decode cX6_mostSteps 30 = .ok (.aload_n 0, 1) := by decide +kernel
theorem dX6_mostSteps_31 : decode cX6_mostSteps 31 = .ok (.getfield 138, 3) := by decide +kernel
theorem dX6_mostSteps_34 : decode cX6_mostSteps 34 = .ok (.if_icmp .ge 98, 3) := by decide +kernel
theorem dX6_mostSteps_37 : decode cX6_mostSteps 37 = .ok (.iconst 0, 1) := by decide +kernel
theorem dX6_mostSteps_38 : decode cX6_mostSteps 38 = .ok (.istore 4, 2) := by decide +kernel
theorem dX6_mostSteps_40 : decode cX6_mostSteps 40 = .ok (.iload 4, 2) := by decide +kernel
theorem dX6_mostSteps_42 : decode cX6_mostSteps 42 = .ok (.iconst 4, 1) := by decide +kernel
theorem dX6_mostSteps_43 : decode cX6_mostSteps 43 = .ok (.if_icmp .ge 83, 3) := by decide +kernel
theorem dX6_mostSteps_46 : decode cX6_mostSteps 46 = .ok (.aload_n 0, 1) := by decide +kernel
theorem dX6_mostSteps_47 : decode cX6_mostSteps 47 = .ok (.iload 4, 2) := by decide +kernel
theorem dX6_mostSteps_49 : decode cX6_mostSteps 49 = .ok (.ifCond .ne 13, 3) := by decide +kernel
theorem dX6_mostSteps_52 : decode cX6_mostSteps 52 = .ok (.aload_n 0, 1) := by decide +kernel
theorem dX6_mostSteps_53 : decode cX6_mostSteps 53 = .ok (.getfield 36, 3) := by decide +kernel
theorem dX6_mostSteps_56 : decode cX6_mostSteps 56 = .ok (.iload_n 3, 1) := by decide +kernel
theorem dX6_mostSteps_57 : decode cX6_mostSteps 57 = .ok (.iaload, 1) := by decide +kernel
theorem dX6_mostSteps_58 : decode cX6_mostSteps 58 = .ok (.i2l, 1) := by decide +kernel
theorem dX6_mostSteps_59 : decode cX6_mostSteps 59 = .ok (.goto 46, 3) := by decide +kernel
theorem dX6_mostSteps_62 : decode cX6_mostSteps 62 = .ok (.iload 4, 2) := by decide +kernel
theorem dX6_mostSteps_64 : decode cX6_mostSteps 64 = .ok (.iconst 1, 1) := by decide +kernel
theorem dX6_mostSteps_65 : decode cX6_mostSteps 65 = .ok (.if_icmp .ne 13, 3) := by decide +kernel
theorem dX6_mostSteps_68 : decode cX6_mostSteps 68 = .ok (.aload_n 0, 1) := by decide +kernel
theorem dX6_mostSteps_69 : decode cX6_mostSteps 69 = .ok (.getfield 39, 3) := by decide +kernel
theorem dX6_mostSteps_72 : decode cX6_mostSteps 72 = .ok (.iload_n 3, 1) := by decide +kernel
theorem dX6_mostSteps_73 : decode cX6_mostSteps 73 = .ok (.iaload, 1) := by decide +kernel
theorem dX6_mostSteps_74 : decode cX6_mostSteps 74 = .ok (.i2l, 1) := by decide +kernel
theorem dX6_mostSteps_75 : decode cX6_mostSteps 75 = .ok (.goto 30, 3) := by decide +kernel
theorem dX6_mostSteps_78 : decode cX6_mostSteps 78 = .ok (.iload 4, 2) := by decide +kernel
theorem dX6_mostSteps_80 : decode cX6_mostSteps 80 = .ok (.iconst 2, 1) := by decide +kernel
theorem dX6_mostSteps_81 : decode cX6_mostSteps 81 = .ok (.if_icmp .ne 15, 3) := by decide +kernel
theorem dX6_mostSteps_84 : decode cX6_mostSteps 84 = .ok (.aload_n 0, 1) := by decide +kernel
theorem dX6_mostSteps_85 : decode cX6_mostSteps 85 = .ok (.getfield 36, 3) := by decide +kernel
theorem dX6_mostSteps_88 : decode cX6_mostSteps 88 = .ok (.iload_n 3, 1) := by decide +kernel
theorem dX6_mostSteps_89 : decode cX6_mostSteps 89 = .ok (.iaload, 1) := by decide +kernel
theorem dX6_mostSteps_90 : decode cX6_mostSteps 90 = .ok (.i2l, 1) := by decide +kernel
theorem dX6_mostSteps_91 : decode cX6_mostSteps 91 = .ok (.lconst 1, 1) := by decide +kernel
theorem dX6_mostSteps_92 : decode cX6_mostSteps 92 = .ok (.lsub, 1) := by decide +kernel
theorem dX6_mostSteps_93 : decode cX6_mostSteps 93 = .ok (.goto 12, 3) := by decide +kernel
theorem dX6_mostSteps_96 : decode cX6_mostSteps 96 = .ok (.aload_n 0, 1) := by decide +kernel
theorem dX6_mostSteps_97 : decode cX6_mostSteps 97 = .ok (.getfield 39, 3) := by decide +kernel
theorem dX6_mostSteps_100 : decode cX6_mostSteps 100 = .ok (.iload_n 3, 1) := by decide +kernel
theorem dX6_mostSteps_101 : decode cX6_mostSteps 101 = .ok (.iaload, 1) := by decide +kernel
theorem dX6_mostSteps_102 : decode cX6_mostSteps 102 = .ok (.i2l, 1) := by decide +kernel
theorem dX6_mostSteps_103 : decode cX6_mostSteps 103 = .ok (.lconst 1, 1) := by decide +kernel
theorem dX6_mostSteps_104 : decode cX6_mostSteps 104 = .ok (.ladd, 1) := by decide +kernel
theorem dX6_mostSteps_105 : decode cX6_mostSteps 105 = .ok (.invokevirtual 211, 3) := by decide +kernel
theorem dX6_mostSteps_108 : decode cX6_mostSteps 108 = .ok (.istore_n 2, 1) := by decide +kernel
theorem dX6_mostSteps_109 : decode cX6_mostSteps 109 = .ok (.iload_n 2, 1) := by decide +kernel
theorem dX6_mostSteps_110 : decode cX6_mostSteps 110 = .ok (.iload_n 1, 1) := by decide +kernel
theorem dX6_mostSteps_111 : decode cX6_mostSteps 111 = .ok (.if_icmp .le 7, 3) := by decide +kernel
theorem dX6_mostSteps_114 : decode cX6_mostSteps 114 = .ok (.iload_n 2, 1) := by decide +kernel
theorem dX6_mostSteps_115 : decode cX6_mostSteps 115 = .ok (.goto 4, 3) := by decide +kernel
theorem dX6_mostSteps_118 : decode cX6_mostSteps 118 = .ok (.iload_n 1, 1) := by decide +kernel
theorem dX6_mostSteps_119 : decode cX6_mostSteps 119 = .ok (.istore_n 1, 1) := by decide +kernel
theorem dX6_mostSteps_120 : decode cX6_mostSteps 120 = .ok (.iinc 4 1, 3) := by decide +kernel
theorem dX6_mostSteps_123 : decode cX6_mostSteps 123 = .ok (.goto (-83), 3) := by decide +kernel
theorem dX6_mostSteps_126 : decode cX6_mostSteps 126 = .ok (.iinc 3 1, 3) := by decide +kernel
theorem dX6_mostSteps_129 : decode cX6_mostSteps 129 = .ok (.goto (-100), 3) := by decide +kernel
theorem dX6_mostSteps_132 : decode cX6_mostSteps 132 = .ok (.iload_n 1, 1) := by decide +kernel
theorem dX6_mostSteps_133 : decode cX6_mostSteps 133 = .ok (.ireturn, 1) := by decide +kernel
theorem dX6_go_0 : decode cX6_go 0 = .ok (.aload_n 0, 1) := by decide +kernel
theorem dX6_go_1 : decode cX6_go 1 = .ok (.invokevirtual 215, 3) := by decide +kernel
theorem dX6_go_4 : decode cX6_go 4 = .ok (.aload_n 0, 1) := by decide +kernel
theorem dX6_go_5 : decode cX6_go 5 = .ok (.iload_n 1, 1) := by decide +kernel
theorem dX6_go_6 : decode cX6_go 6 = .ok (.invokevirtual 208, 3) := by decide +kernel
theorem dX6_go_9 : decode cX6_go 9 = .ok (.ireturn, 1) := by decide +kernel
theorem dX6_steps_0 : decode cX6_steps 0 = .ok (.aload_n 0, 1) := by decide +kernel
theorem dX6_steps_1 : decode cX6_steps 1 = .ok (.invokevirtual 215, 3) := by decide +kernel
theorem dX6_steps_4 : decode cX6_steps 4 = .ok (.aload_n 0, 1) := by decide +kernel
theorem dX6_steps_5 : decode cX6_steps 5 = .ok (.iload_n 1, 1) := by decide +kernel
theorem dX6_steps_6 : decode cX6_steps 6 = .ok (.i2l, 1) := by decide +kernel
theorem dX6_steps_7 : decode cX6_steps 7 = .ok (.invokevirtual 211, 3) := by decide +kernel
theorem dX6_steps_10 : decode cX6_steps 10 = .ok (.ireturn, 1) := by decide +kernel
theorem dX6_caseOf_0 : decode cX6_caseOf 0 = .ok (.iconst (-1), 1) := by decide +kernel
theorem dX6_caseOf_1 : decode cX6_caseOf 1 = .ok (.istore_n 3, 1) := by decide +kernel
theorem dX6_caseOf_2 : decode cX6_caseOf 2 = .ok (.iconst 0, 1) := by decide +kernel
theorem dX6_caseOf_3 : decode cX6_caseOf 3 = .ok (.istore 4, 2) := by decide +kernel
theorem dX6_caseOf_5 : decode cX6_caseOf 5 = .ok (.iload 4, 2) := by decide +kernel
theorem dX6_caseOf_7 : decode cX6_caseOf 7 = .ok (.bipush 24, 2) := by decide +kernel
theorem dX6_caseOf_9 : decode cX6_caseOf 9 = .ok (.if_icmp .ge 49, 3) := by decide +kernel
theorem dX6_caseOf_12 : decode cX6_caseOf 12 = .ok (.aload_n 0, 1) := by decide +kernel
theorem dX6_caseOf_13 : decode cX6_caseOf 13 = .ok (.getfield 7, 3) := by decide +kernel
theorem dX6_caseOf_16 : decode cX6_caseOf 16 = .ok (.iload 4, 2) := by decide +kernel
theorem dX6_caseOf_18 : decode cX6_caseOf 18 = .ok (.baload, 1) := by decide +kernel
theorem dX6_caseOf_19 : decode cX6_caseOf 19 = .ok (.ifCond .eq 31, 3) := by decide +kernel
theorem dX6_caseOf_22 : decode cX6_caseOf 22 = .ok (.lload_n 1, 1) := by decide +kernel
theorem dX6_caseOf_23 : decode cX6_caseOf 23 = .ok (.aload_n 0, 1) := by decide +kernel
theorem dX6_caseOf_24 : decode cX6_caseOf 24 = .ok (.getfield 13, 3) := by decide +kernel
theorem dX6_caseOf_27 : decode cX6_caseOf 27 = .ok (.iload 4, 2) := by decide +kernel
theorem dX6_caseOf_29 : decode cX6_caseOf 29 = .ok (.iaload, 1) := by decide +kernel
theorem dX6_caseOf_30 : decode cX6_caseOf 30 = .ok (.i2l, 1) := by decide +kernel
theorem dX6_caseOf_31 : decode cX6_caseOf 31 = .ok (.aload_n 0, 1) := by decide +kernel
theorem dX6_caseOf_32 : decode cX6_caseOf 32 = .ok (.getfield 17, 3) := by decide +kernel
theorem dX6_caseOf_35 : decode cX6_caseOf 35 = .ok (.iload 4, 2) := by decide +kernel
theorem dX6_caseOf_37 : decode cX6_caseOf 37 = .ok (.iaload, 1) := by decide +kernel
theorem dX6_caseOf_38 : decode cX6_caseOf 38 = .ok (.i2l, 1) := by decide +kernel
theorem dX6_caseOf_39 : decode cX6_caseOf 39 = .ok (.invokestatic 110, 3) := by decide +kernel
theorem dX6_caseOf_42 : decode cX6_caseOf 42 = .ok (.ifCond .eq 8, 3) := by decide +kernel
theorem dX6_caseOf_45 : decode cX6_caseOf 45 = .ok (.iload 4, 2) := by decide +kernel
theorem dX6_caseOf_47 : decode cX6_caseOf 47 = .ok (.goto 4, 3) := by decide +kernel
theorem dX6_caseOf_50 : decode cX6_caseOf 50 = .ok (.iload_n 3, 1) := by decide +kernel
theorem dX6_caseOf_51 : decode cX6_caseOf 51 = .ok (.istore_n 3, 1) := by decide +kernel
theorem dX6_caseOf_52 : decode cX6_caseOf 52 = .ok (.iinc 4 1, 3) := by decide +kernel
theorem dX6_caseOf_55 : decode cX6_caseOf 55 = .ok (.goto (-50), 3) := by decide +kernel
theorem dX6_caseOf_58 : decode cX6_caseOf 58 = .ok (.iload_n 3, 1) := by decide +kernel
theorem dX6_caseOf_59 : decode cX6_caseOf 59 = .ok (.ireturn, 1) := by decide +kernel
theorem dX6_by_0 : decode cX6_by 0 = .ok (.aload_n 0, 1) := by decide +kernel
theorem dX6_by_1 : decode cX6_by 1 = .ok (.iload_n 1, 1) := by decide +kernel
theorem dX6_by_2 : decode cX6_by 2 = .ok (.i2l, 1) := by decide +kernel
theorem dX6_by_3 : decode cX6_by 3 = .ok (.invokevirtual 218, 3) := by decide +kernel
theorem dX6_by_6 : decode cX6_by 6 = .ok (.istore_n 2, 1) := by decide +kernel
theorem dX6_by_7 : decode cX6_by 7 = .ok (.iload_n 2, 1) := by decide +kernel
theorem dX6_by_8 : decode cX6_by 8 = .ok (.ifCond .ge 10, 3) := by decide +kernel
theorem dX6_by_11 : decode cX6_by 11 = .ok (.aload_n 0, 1) := by decide +kernel
theorem dX6_by_12 : decode cX6_by 12 = .ok (.getfield 125, 3) := by decide +kernel
theorem dX6_by_15 : decode cX6_by 15 = .ok (.goto 9, 3) := by decide +kernel
theorem dX6_by_18 : decode cX6_by 18 = .ok (.aload_n 0, 1) := by decide +kernel
theorem dX6_by_19 : decode cX6_by 19 = .ok (.getfield 20, 3) := by decide +kernel
theorem dX6_by_22 : decode cX6_by 22 = .ok (.iload_n 2, 1) := by decide +kernel
theorem dX6_by_23 : decode cX6_by 23 = .ok (.iaload, 1) := by decide +kernel
theorem dX6_by_24 : decode cX6_by 24 = .ok (.ireturn, 1) := by decide +kernel
theorem dX6_spent_0 : decode cX6_spent 0 = .ok (.aload_n 0, 1) := by decide +kernel
theorem dX6_spent_1 : decode cX6_spent 1 = .ok (.invokevirtual 215, 3) := by decide +kernel
theorem dX6_spent_4 : decode cX6_spent 4 = .ok (.lconst 0, 1) := by decide +kernel
theorem dX6_spent_5 : decode cX6_spent 5 = .ok (.lstore_n 1, 1) := by decide +kernel
theorem dX6_spent_6 : decode cX6_spent 6 = .ok (.iconst 0, 1) := by decide +kernel
theorem dX6_spent_7 : decode cX6_spent 7 = .ok (.istore_n 3, 1) := by decide +kernel
theorem dX6_spent_8 : decode cX6_spent 8 = .ok (.iload_n 3, 1) := by decide +kernel
theorem dX6_spent_9 : decode cX6_spent 9 = .ok (.bipush 24, 2) := by decide +kernel
theorem dX6_spent_11 : decode cX6_spent 11 = .ok (.if_icmp .ge 41, 3) := by decide +kernel
theorem dX6_spent_14 : decode cX6_spent 14 = .ok (.aload_n 0, 1) := by decide +kernel
theorem dX6_spent_15 : decode cX6_spent 15 = .ok (.getfield 7, 3) := by decide +kernel
theorem dX6_spent_18 : decode cX6_spent 18 = .ok (.iload_n 3, 1) := by decide +kernel
theorem dX6_spent_19 : decode cX6_spent 19 = .ok (.baload, 1) := by decide +kernel
theorem dX6_spent_20 : decode cX6_spent 20 = .ok (.ifCond .eq 26, 3) := by decide +kernel
theorem dX6_spent_23 : decode cX6_spent 23 = .ok (.lload_n 1, 1) := by decide +kernel
theorem dX6_spent_24 : decode cX6_spent 24 = .ok (.aload_n 0, 1) := by decide +kernel
theorem dX6_spent_25 : decode cX6_spent 25 = .ok (.getfield 23, 3) := by decide +kernel
theorem dX6_spent_28 : decode cX6_spent 28 = .ok (.iload_n 3, 1) := by decide +kernel
theorem dX6_spent_29 : decode cX6_spent 29 = .ok (.iaload, 1) := by decide +kernel
theorem dX6_spent_30 : decode cX6_spent 30 = .ok (.i2l, 1) := by decide +kernel
theorem dX6_spent_31 : decode cX6_spent 31 = .ok (.aload_n 0, 1) := by decide +kernel
theorem dX6_spent_32 : decode cX6_spent 32 = .ok (.aload_n 0, 1) := by decide +kernel
theorem dX6_spent_33 : decode cX6_spent 33 = .ok (.getfield 13, 3) := by decide +kernel
theorem dX6_spent_36 : decode cX6_spent 36 = .ok (.iload_n 3, 1) := by decide +kernel
theorem dX6_spent_37 : decode cX6_spent 37 = .ok (.iaload, 1) := by decide +kernel
theorem dX6_spent_38 : decode cX6_spent 38 = .ok (.i2l, 1) := by decide +kernel
theorem dX6_spent_39 : decode cX6_spent 39 = .ok (.invokevirtual 211, 3) := by decide +kernel
theorem dX6_spent_42 : decode cX6_spent 42 = .ok (.i2l, 1) := by decide +kernel
theorem dX6_spent_43 : decode cX6_spent 43 = .ok (.lmul, 1) := by decide +kernel
theorem dX6_spent_44 : decode cX6_spent 44 = .ok (.ladd, 1) := by decide +kernel
theorem dX6_spent_45 : decode cX6_spent 45 = .ok (.lstore_n 1, 1) := by decide +kernel
theorem dX6_spent_46 : decode cX6_spent 46 = .ok (.iinc 3 1, 3) := by decide +kernel
theorem dX6_spent_49 : decode cX6_spent 49 = .ok (.goto (-41), 3) := by decide +kernel
theorem dX6_spent_52 : decode cX6_spent 52 = .ok (.ldc2_w 141, 3) := by decide +kernel
theorem dX6_spent_55 : decode cX6_spent 55 = .ok (.lstore_n 3, 1) := by decide +kernel
theorem dX6_spent_56 : decode cX6_spent 56 = .ok (.aload_n 0, 1) := by decide +kernel
theorem dX6_spent_57 : decode cX6_spent 57 = .ok (.lload_n 3, 1) := by decide +kernel
theorem dX6_spent_58 : decode cX6_spent 58 = .ok (.invokevirtual 218, 3) := by decide +kernel
theorem dX6_spent_61 : decode cX6_spent 61 = .ok (.istore 5, 2) := by decide +kernel
theorem dX6_spent_63 : decode cX6_spent 63 = .ok (.iload 5, 2) := by decide +kernel
theorem dX6_spent_65 : decode cX6_spent 65 = .ok (.ifCond .lt 24, 3) := by decide +kernel
theorem dX6_spent_68 : decode cX6_spent 68 = .ok (.aload_n 0, 1) := by decide +kernel
theorem dX6_spent_69 : decode cX6_spent 69 = .ok (.getfield 17, 3) := by decide +kernel
theorem dX6_spent_72 : decode cX6_spent 72 = .ok (.iload 5, 2) := by decide +kernel
theorem dX6_spent_74 : decode cX6_spent 74 = .ok (.iaload, 1) := by decide +kernel
theorem dX6_spent_75 : decode cX6_spent 75 = .ok (.i2l, 1) := by decide +kernel
theorem dX6_spent_76 : decode cX6_spent 76 = .ok (.lconst 1, 1) := by decide +kernel
theorem dX6_spent_77 : decode cX6_spent 77 = .ok (.ladd, 1) := by decide +kernel
theorem dX6_spent_78 : decode cX6_spent 78 = .ok (.lstore_n 3, 1) := by decide +kernel
theorem dX6_spent_79 : decode cX6_spent 79 = .ok (.aload_n 0, 1) := by decide +kernel
theorem dX6_spent_80 : decode cX6_spent 80 = .ok (.lload_n 3, 1) := by decide +kernel
theorem dX6_spent_81 : decode cX6_spent 81 = .ok (.invokevirtual 218, 3) := by decide +kernel
theorem dX6_spent_84 : decode cX6_spent 84 = .ok (.istore 5, 2) := by decide +kernel
theorem dX6_spent_86 : decode cX6_spent 86 = .ok (.goto (-23), 3) := by decide +kernel
theorem dX6_spent_89 : decode cX6_spent 89 = .ok (.lload_n 1, 1) := by decide +kernel
theorem dX6_spent_90 : decode cX6_spent 90 = .ok (.aload_n 0, 1) := by decide +kernel
theorem dX6_spent_91 : decode cX6_spent 91 = .ok (.getfield 128, 3) := by decide +kernel
theorem dX6_spent_94 : decode cX6_spent 94 = .ok (.i2l, 1) := by decide +kernel
theorem dX6_spent_95 : decode cX6_spent 95 = .ok (.aload_n 0, 1) := by decide +kernel
theorem dX6_spent_96 : decode cX6_spent 96 = .ok (.lload_n 3, 1) := by decide +kernel
theorem dX6_spent_97 : decode cX6_spent 97 = .ok (.invokevirtual 211, 3) := by decide +kernel
theorem dX6_spent_100 : decode cX6_spent 100 = .ok (.i2l, 1) := by decide +kernel
theorem dX6_spent_101 : decode cX6_spent 101 = .ok (.lmul, 1) := by decide +kernel
theorem dX6_spent_102 : decode cX6_spent 102 = .ok (.ladd, 1) := by decide +kernel
theorem dX6_spent_103 : decode cX6_spent 103 = .ok (.lreturn, 1) := by decide +kernel
theorem dX6_numbers_0 : decode cX6_numbers 0 = .ok (.iconst 0, 1) := by decide +kernel
theorem dX6_numbers_1 : decode cX6_numbers 1 = .ok (.istore_n 1, 1) := by decide +kernel
theorem dX6_numbers_2 : decode cX6_numbers 2 = .ok (.iconst 0, 1) := by decide +kernel
theorem dX6_numbers_3 : decode cX6_numbers 3 = .ok (.istore_n 2, 1) := by decide +kernel
theorem dX6_numbers_4 : decode cX6_numbers 4 = .ok (.iload_n 2, 1) := by decide +kernel
theorem dX6_numbers_5 : decode cX6_numbers 5 = .ok (.aload_n 0, 1) := by decide +kernel
theorem dX6_numbers_6 : decode cX6_numbers 6 = .ok (.getfield 158, 3) := by decide +kernel
theorem dX6_numbers_9 : decode cX6_numbers 9 = .ok (.if_icmp .ge 32, 3) := by decide +kernel
theorem dX6_numbers_12 : decode cX6_numbers 12 = .ok (.iload_n 1, 1) := by decide +kernel
theorem dX6_numbers_13 : decode cX6_numbers 13 = .ok (.aload_n 0, 1) := by decide +kernel
theorem dX6_numbers_14 : decode cX6_numbers 14 = .ok (.getfield 70, 3) := by decide +kernel
theorem dX6_numbers_17 : decode cX6_numbers 17 = .ok (.iload_n 2, 1) := by decide +kernel
theorem dX6_numbers_18 : decode cX6_numbers 18 = .ok (.iaload, 1) := by decide +kernel
theorem dX6_numbers_19 : decode cX6_numbers 19 = .ok (.iconst 5, 1) := by decide +kernel
theorem dX6_numbers_20 : decode cX6_numbers 20 = .ok (.if_icmp .ne 12, 3) := by decide +kernel
theorem dX6_numbers_23 : decode cX6_numbers 23 = .ok (.aload_n 0, 1) := by decide +kernel
theorem dX6_numbers_24 : decode cX6_numbers 24 = .ok (.getfield 76, 3) := by decide +kernel
theorem dX6_numbers_27 : decode cX6_numbers 27 = .ok (.iload_n 2, 1) := by decide +kernel
theorem dX6_numbers_28 : decode cX6_numbers 28 = .ok (.iaload, 1) := by decide +kernel
theorem dX6_numbers_29 : decode cX6_numbers 29 = .ok (.goto 4, 3) := by decide +kernel
theorem dX6_numbers_32 : decode cX6_numbers 32 = .ok (.iconst 0, 1) := by decide +kernel
theorem dX6_numbers_33 : decode cX6_numbers 33 = .ok (.iadd, 1) := by decide +kernel
theorem dX6_numbers_34 : decode cX6_numbers 34 = .ok (.istore_n 1, 1) := by decide +kernel
theorem dX6_numbers_35 : decode cX6_numbers 35 = .ok (.iinc 2 1, 3) := by decide +kernel
theorem dX6_numbers_38 : decode cX6_numbers 38 = .ok (.goto (-34), 3) := by decide +kernel
theorem dX6_numbers_41 : decode cX6_numbers 41 = .ok (.iload_n 1, 1) := by decide +kernel
theorem dX6_numbers_42 : decode cX6_numbers 42 = .ok (.ireturn, 1) := by decide +kernel
theorem dX6_count_0 : decode cX6_count 0 = .ok (.aload_n 0, 1) := by decide +kernel
theorem dX6_count_1 : decode cX6_count 1 = .ok (.invokevirtual 215, 3) := by decide +kernel
theorem dX6_count_4 : decode cX6_count 4 = .ok (.iload_n 1, 1) := by decide +kernel
theorem dX6_count_5 : decode cX6_count 5 = .ok (.tableswitch 100 0 7 #[47, 52, 57, 62, 80, 85, 90, 95], 47) := by decide +kernel
theorem dX6_count_52 : decode cX6_count 52 = .ok (.aload_n 0, 1) := by decide +kernel
theorem dX6_count_53 : decode cX6_count 53 = .ok (.getfield 116, 3) := by decide +kernel
theorem dX6_count_56 : decode cX6_count 56 = .ok (.ireturn, 1) := by decide +kernel
theorem dX6_count_57 : decode cX6_count 57 = .ok (.aload_n 0, 1) := by decide +kernel
theorem dX6_count_58 : decode cX6_count 58 = .ok (.getfield 138, 3) := by decide +kernel
theorem dX6_count_61 : decode cX6_count 61 = .ok (.ireturn, 1) := by decide +kernel
theorem dX6_count_62 : decode cX6_count 62 = .ok (.aload_n 0, 1) := by decide +kernel
theorem dX6_count_63 : decode cX6_count 63 = .ok (.getfield 149, 3) := by decide +kernel
theorem dX6_count_66 : decode cX6_count 66 = .ok (.ireturn, 1) := by decide +kernel
theorem dX6_count_67 : decode cX6_count 67 = .ok (.aload_n 0, 1) := by decide +kernel
theorem dX6_count_68 : decode cX6_count 68 = .ok (.getfield 149, 3) := by decide +kernel
theorem dX6_count_71 : decode cX6_count 71 = .ok (.ifCond .le 12, 3) := by decide +kernel
theorem dX6_count_74 : decode cX6_count 74 = .ok (.aload_n 0, 1) := by decide +kernel
theorem dX6_count_75 : decode cX6_count 75 = .ok (.getfield 149, 3) := by decide +kernel
theorem dX6_count_78 : decode cX6_count 78 = .ok (.iconst 1, 1) := by decide +kernel
theorem dX6_count_79 : decode cX6_count 79 = .ok (.isub, 1) := by decide +kernel
theorem dX6_count_80 : decode cX6_count 80 = .ok (.goto 4, 3) := by decide +kernel
theorem dX6_count_83 : decode cX6_count 83 = .ok (.iconst 0, 1) := by decide +kernel
theorem dX6_count_84 : decode cX6_count 84 = .ok (.ireturn, 1) := by decide +kernel
theorem dX6_count_85 : decode cX6_count 85 = .ok (.aload_n 0, 1) := by decide +kernel
theorem dX6_count_86 : decode cX6_count 86 = .ok (.getfield 158, 3) := by decide +kernel
theorem dX6_count_89 : decode cX6_count 89 = .ok (.ireturn, 1) := by decide +kernel
theorem dX6_count_90 : decode cX6_count 90 = .ok (.aload_n 0, 1) := by decide +kernel
theorem dX6_count_91 : decode cX6_count 91 = .ok (.invokevirtual 221, 3) := by decide +kernel
theorem dX6_count_94 : decode cX6_count 94 = .ok (.ireturn, 1) := by decide +kernel
theorem dX6_count_95 : decode cX6_count 95 = .ok (.aload_n 0, 1) := by decide +kernel
theorem dX6_count_96 : decode cX6_count 96 = .ok (.getfield 225, 3) := by decide +kernel
theorem dX6_count_99 : decode cX6_count 99 = .ok (.ireturn, 1) := by decide +kernel
theorem dX6_count_100 : decode cX6_count 100 = .ok (.aload_n 0, 1) := by decide +kernel
theorem dX6_count_101 : decode cX6_count 101 = .ok (.invokevirtual 228, 3) := by decide +kernel
theorem dX6_count_104 : decode cX6_count 104 = .ok (.ireturn, 1) := by decide +kernel
theorem dX6_count_105 : decode cX6_count 105 = .ok (.bipush (-102), 2) := by decide +kernel
theorem dX6_count_107 : decode cX6_count 107 = .ok (.ireturn, 1) := by decide +kernel
theorem dX6_run_0 : decode cX6_run 0 = .ok (.aload_n 0, 1) := by decide +kernel
theorem dX6_run_1 : decode cX6_run 1 = .ok (.invokevirtual 215, 3) := by decide +kernel
theorem dX6_run_4 : decode cX6_run 4 = .ok (.iload_n 1, 1) := by decide +kernel
theorem dX6_run_5 : decode cX6_run 5 = .ok (.i2l, 1) := by decide +kernel
theorem dX6_run_6 : decode cX6_run 6 = .ok (.lconst 0, 1) := by decide +kernel
theorem dX6_run_7 : decode cX6_run 7 = .ok (.aload_n 0, 1) := by decide +kernel
theorem dX6_run_8 : decode cX6_run 8 = .ok (.getfield 138, 3) := by decide +kernel
theorem dX6_run_11 : decode cX6_run 11 = .ok (.iconst 1, 1) := by decide +kernel
theorem dX6_run_12 : decode cX6_run 12 = .ok (.isub, 1) := by decide +kernel
theorem dX6_run_13 : decode cX6_run 13 = .ok (.i2l, 1) := by decide +kernel
theorem dX6_run_14 : decode cX6_run 14 = .ok (.invokestatic 110, 3) := by decide +kernel
theorem dX6_run_17 : decode cX6_run 17 = .ok (.ifCond .ne 6, 3) := by decide +kernel
theorem dX6_run_20 : decode cX6_run 20 = .ok (.bipush (-101), 2) := by decide +kernel
theorem dX6_run_22 : decode cX6_run 22 = .ok (.ireturn, 1) := by decide +kernel
theorem dX6_run_23 : decode cX6_run 23 = .ok (.iload_n 2, 1) := by decide +kernel
theorem dX6_run_24 : decode cX6_run 24 = .ok (.tableswitch 60 0 3 #[32, 39, 46, 53], 32) := by decide +kernel
theorem dX6_run_56 : decode cX6_run 56 = .ok (.aload_n 0, 1) := by decide +kernel
theorem dX6_run_57 : decode cX6_run 57 = .ok (.getfield 36, 3) := by decide +kernel
theorem dX6_run_60 : decode cX6_run 60 = .ok (.iload_n 1, 1) := by decide +kernel
theorem dX6_run_61 : decode cX6_run 61 = .ok (.iaload, 1) := by decide +kernel
theorem dX6_run_62 : decode cX6_run 62 = .ok (.ireturn, 1) := by decide +kernel
theorem dX6_run_63 : decode cX6_run 63 = .ok (.aload_n 0, 1) := by decide +kernel
theorem dX6_run_64 : decode cX6_run 64 = .ok (.getfield 39, 3) := by decide +kernel
theorem dX6_run_67 : decode cX6_run 67 = .ok (.iload_n 1, 1) := by decide +kernel
theorem dX6_run_68 : decode cX6_run 68 = .ok (.iaload, 1) := by decide +kernel
theorem dX6_run_69 : decode cX6_run 69 = .ok (.ireturn, 1) := by decide +kernel
theorem dX6_run_70 : decode cX6_run 70 = .ok (.aload_n 0, 1) := by decide +kernel
theorem dX6_run_71 : decode cX6_run 71 = .ok (.getfield 42, 3) := by decide +kernel
theorem dX6_run_74 : decode cX6_run 74 = .ok (.iload_n 1, 1) := by decide +kernel
theorem dX6_run_75 : decode cX6_run 75 = .ok (.iaload, 1) := by decide +kernel
theorem dX6_run_76 : decode cX6_run 76 = .ok (.ireturn, 1) := by decide +kernel
theorem dX6_run_77 : decode cX6_run 77 = .ok (.aload_n 0, 1) := by decide +kernel
theorem dX6_run_78 : decode cX6_run 78 = .ok (.getfield 45, 3) := by decide +kernel
theorem dX6_run_81 : decode cX6_run 81 = .ok (.iload_n 1, 1) := by decide +kernel
theorem dX6_run_82 : decode cX6_run 82 = .ok (.iaload, 1) := by decide +kernel
theorem dX6_run_83 : decode cX6_run 83 = .ok (.ireturn, 1) := by decide +kernel
theorem dX6_run_84 : decode cX6_run 84 = .ok (.bipush (-102), 2) := by decide +kernel
theorem dX6_run_86 : decode cX6_run 86 = .ok (.ireturn, 1) := by decide +kernel
theorem dX6_cluster_0 : decode cX6_cluster 0 = .ok (.aload_n 0, 1) := by decide +kernel
theorem dX6_cluster_1 : decode cX6_cluster 1 = .ok (.invokevirtual 215, 3) := by decide +kernel
theorem dX6_cluster_4 : decode cX6_cluster 4 = .ok (.iload_n 1, 1) := by decide +kernel
theorem dX6_cluster_5 : decode cX6_cluster 5 = .ok (.i2l, 1) := by decide +kernel
theorem dX6_cluster_6 : decode cX6_cluster 6 = .ok (.lconst 0, 1) := by decide +kernel
theorem dX6_cluster_7 : decode cX6_cluster 7 = .ok (.aload_n 0, 1) := by decide +kernel
theorem dX6_cluster_8 : decode cX6_cluster 8 = .ok (.getfield 149, 3) := by decide +kernel
theorem dX6_cluster_11 : decode cX6_cluster 11 = .ok (.iconst 1, 1) := by decide +kernel
theorem dX6_cluster_12 : decode cX6_cluster 12 = .ok (.isub, 1) := by decide +kernel
theorem dX6_cluster_13 : decode cX6_cluster 13 = .ok (.i2l, 1) := by decide +kernel
theorem dX6_cluster_14 : decode cX6_cluster 14 = .ok (.invokestatic 110, 3) := by decide +kernel
theorem dX6_cluster_17 : decode cX6_cluster 17 = .ok (.ifCond .ne 6, 3) := by decide +kernel
theorem dX6_cluster_20 : decode cX6_cluster 20 = .ok (.bipush (-101), 2) := by decide +kernel
theorem dX6_cluster_22 : decode cX6_cluster 22 = .ok (.ireturn, 1) := by decide +kernel
theorem dX6_cluster_23 : decode cX6_cluster 23 = .ok (.iload_n 2, 1) := by decide +kernel
theorem dX6_cluster_24 : decode cX6_cluster 24 = .ok (.tableswitch 71 0 4 #[36, 43, 50, 57, 64], 36) := by decide +kernel
theorem dX6_cluster_60 : decode cX6_cluster 60 = .ok (.aload_n 0, 1) := by decide +kernel
theorem dX6_cluster_61 : decode cX6_cluster 61 = .ok (.getfield 48, 3) := by decide +kernel
theorem dX6_cluster_64 : decode cX6_cluster 64 = .ok (.iload_n 1, 1) := by decide +kernel
theorem dX6_cluster_65 : decode cX6_cluster 65 = .ok (.iaload, 1) := by decide +kernel
theorem dX6_cluster_66 : decode cX6_cluster 66 = .ok (.ireturn, 1) := by decide +kernel
theorem dX6_cluster_67 : decode cX6_cluster 67 = .ok (.aload_n 0, 1) := by decide +kernel
theorem dX6_cluster_68 : decode cX6_cluster 68 = .ok (.getfield 51, 3) := by decide +kernel
theorem dX6_cluster_71 : decode cX6_cluster 71 = .ok (.iload_n 1, 1) := by decide +kernel
theorem dX6_cluster_72 : decode cX6_cluster 72 = .ok (.iaload, 1) := by decide +kernel
theorem dX6_cluster_73 : decode cX6_cluster 73 = .ok (.ireturn, 1) := by decide +kernel
theorem dX6_cluster_74 : decode cX6_cluster 74 = .ok (.aload_n 0, 1) := by decide +kernel
theorem dX6_cluster_75 : decode cX6_cluster 75 = .ok (.getfield 54, 3) := by decide +kernel
theorem dX6_cluster_78 : decode cX6_cluster 78 = .ok (.iload_n 1, 1) := by decide +kernel
theorem dX6_cluster_79 : decode cX6_cluster 79 = .ok (.iaload, 1) := by decide +kernel
theorem dX6_cluster_80 : decode cX6_cluster 80 = .ok (.ireturn, 1) := by decide +kernel
theorem dX6_cluster_81 : decode cX6_cluster 81 = .ok (.aload_n 0, 1) := by decide +kernel
theorem dX6_cluster_82 : decode cX6_cluster 82 = .ok (.iload_n 1, 1) := by decide +kernel
theorem dX6_cluster_83 : decode cX6_cluster 83 = .ok (.invokevirtual 152, 3) := by decide +kernel
theorem dX6_cluster_86 : decode cX6_cluster 86 = .ok (.l2i, 1) := by decide +kernel
theorem dX6_cluster_87 : decode cX6_cluster 87 = .ok (.ireturn, 1) := by decide +kernel
theorem dX6_cluster_88 : decode cX6_cluster 88 = .ok (.aload_n 0, 1) := by decide +kernel
theorem dX6_cluster_89 : decode cX6_cluster 89 = .ok (.getfield 67, 3) := by decide +kernel
theorem dX6_cluster_92 : decode cX6_cluster 92 = .ok (.iload_n 1, 1) := by decide +kernel
theorem dX6_cluster_93 : decode cX6_cluster 93 = .ok (.iaload, 1) := by decide +kernel
theorem dX6_cluster_94 : decode cX6_cluster 94 = .ok (.ireturn, 1) := by decide +kernel
theorem dX6_cluster_95 : decode cX6_cluster 95 = .ok (.bipush (-102), 2) := by decide +kernel
theorem dX6_cluster_97 : decode cX6_cluster 97 = .ok (.ireturn, 1) := by decide +kernel
theorem dX6_cost_0 : decode cX6_cost 0 = .ok (.aload_n 0, 1) := by decide +kernel
theorem dX6_cost_1 : decode cX6_cost 1 = .ok (.invokevirtual 215, 3) := by decide +kernel
theorem dX6_cost_4 : decode cX6_cost 4 = .ok (.lconst 0, 1) := by decide +kernel
theorem dX6_cost_5 : decode cX6_cost 5 = .ok (.lstore_n 1, 1) := by decide +kernel
theorem dX6_cost_6 : decode cX6_cost 6 = .ok (.iconst 0, 1) := by decide +kernel
theorem dX6_cost_7 : decode cX6_cost 7 = .ok (.istore_n 3, 1) := by decide +kernel
theorem dX6_cost_8 : decode cX6_cost 8 = .ok (.iload_n 3, 1) := by decide +kernel
theorem dX6_cost_9 : decode cX6_cost 9 = .ok (.aload_n 0, 1) := by decide +kernel
theorem dX6_cost_10 : decode cX6_cost 10 = .ok (.getfield 149, 3) := by decide +kernel
theorem dX6_cost_13 : decode cX6_cost 13 = .ok (.if_icmp .ge 27, 3) := by decide +kernel
theorem dX6_cost_16 : decode cX6_cost 16 = .ok (.lload_n 1, 1) := by decide +kernel
theorem dX6_cost_17 : decode cX6_cost 17 = .ok (.aload_n 0, 1) := by decide +kernel
theorem dX6_cost_18 : decode cX6_cost 18 = .ok (.iload_n 3, 1) := by decide +kernel
theorem dX6_cost_19 : decode cX6_cost 19 = .ok (.invokevirtual 152, 3) := by decide +kernel
theorem dX6_cost_22 : decode cX6_cost 22 = .ok (.lconst 1, 1) := by decide +kernel
theorem dX6_cost_23 : decode cX6_cost 23 = .ok (.ladd, 1) := by decide +kernel
theorem dX6_cost_24 : decode cX6_cost 24 = .ok (.aload_n 0, 1) := by decide +kernel
theorem dX6_cost_25 : decode cX6_cost 25 = .ok (.getfield 67, 3) := by decide +kernel
theorem dX6_cost_28 : decode cX6_cost 28 = .ok (.iload_n 3, 1) := by decide +kernel
theorem dX6_cost_29 : decode cX6_cost 29 = .ok (.iaload, 1) := by decide +kernel
theorem dX6_cost_30 : decode cX6_cost 30 = .ok (.i2l, 1) := by decide +kernel
theorem dX6_cost_31 : decode cX6_cost 31 = .ok (.lmul, 1) := by decide +kernel
theorem dX6_cost_32 : decode cX6_cost 32 = .ok (.ladd, 1) := by decide +kernel
theorem dX6_cost_33 : decode cX6_cost 33 = .ok (.lstore_n 1, 1) := by decide +kernel
theorem dX6_cost_34 : decode cX6_cost 34 = .ok (.iinc 3 1, 3) := by decide +kernel
theorem dX6_cost_37 : decode cX6_cost 37 = .ok (.goto (-29), 3) := by decide +kernel
theorem dX6_cost_40 : decode cX6_cost 40 = .ok (.lload_n 1, 1) := by decide +kernel
theorem dX6_cost_41 : decode cX6_cost 41 = .ok (.l2i, 1) := by decide +kernel
theorem dX6_cost_42 : decode cX6_cost 42 = .ok (.ireturn, 1) := by decide +kernel
theorem dX6_noLine_0 : decode cX6_noLine 0 = .ok (.aload_n 0, 1) := by decide +kernel
theorem dX6_noLine_1 : decode cX6_noLine 1 = .ok (.invokevirtual 215, 3) := by decide +kernel
theorem dX6_noLine_4 : decode cX6_noLine 4 = .ok (.iload_n 1, 1) := by decide +kernel
theorem dX6_noLine_5 : decode cX6_noLine 5 = .ok (.i2l, 1) := by decide +kernel
theorem dX6_noLine_6 : decode cX6_noLine 6 = .ok (.lconst 0, 1) := by decide +kernel
theorem dX6_noLine_7 : decode cX6_noLine 7 = .ok (.aload_n 0, 1) := by decide +kernel
theorem dX6_noLine_8 : decode cX6_noLine 8 = .ok (.getfield 158, 3) := by decide +kernel
theorem dX6_noLine_11 : decode cX6_noLine 11 = .ok (.iconst 1, 1) := by decide +kernel
theorem dX6_noLine_12 : decode cX6_noLine 12 = .ok (.isub, 1) := by decide +kernel
theorem dX6_noLine_13 : decode cX6_noLine 13 = .ok (.i2l, 1) := by decide +kernel
theorem dX6_noLine_14 : decode cX6_noLine 14 = .ok (.invokestatic 110, 3) := by decide +kernel
theorem dX6_noLine_17 : decode cX6_noLine 17 = .ok (.ifCond .ne 7, 3) := by decide +kernel
theorem dX6_noLine_20 : decode cX6_noLine 20 = .ok (.iconst 1, 1) := by decide +kernel
theorem dX6_noLine_21 : decode cX6_noLine 21 = .ok (.goto 4, 3) := by decide +kernel
theorem dX6_noLine_24 : decode cX6_noLine 24 = .ok (.iconst 0, 1) := by decide +kernel
theorem dX6_noLine_25 : decode cX6_noLine 25 = .ok (.ireturn, 1) := by decide +kernel
theorem dX6_line_0 : decode cX6_line 0 = .ok (.aload_n 0, 1) := by decide +kernel
theorem dX6_line_1 : decode cX6_line 1 = .ok (.iload_n 1, 1) := by decide +kernel
theorem dX6_line_2 : decode cX6_line 2 = .ok (.invokevirtual 231, 3) := by decide +kernel
theorem dX6_line_5 : decode cX6_line 5 = .ok (.ifCond .eq 6, 3) := by decide +kernel
theorem dX6_line_8 : decode cX6_line 8 = .ok (.bipush (-101), 2) := by decide +kernel
theorem dX6_line_10 : decode cX6_line 10 = .ok (.ireturn, 1) := by decide +kernel
theorem dX6_line_11 : decode cX6_line 11 = .ok (.iload_n 2, 1) := by decide +kernel
theorem dX6_line_12 : decode cX6_line 12 = .ok (.ifCond .ne 12, 3) := by decide +kernel
theorem dX6_line_15 : decode cX6_line 15 = .ok (.aload_n 0, 1) := by decide +kernel
theorem dX6_line_16 : decode cX6_line 16 = .ok (.getfield 70, 3) := by decide +kernel
theorem dX6_line_19 : decode cX6_line 19 = .ok (.iload_n 1, 1) := by decide +kernel
theorem dX6_line_20 : decode cX6_line 20 = .ok (.iaload, 1) := by decide +kernel
theorem dX6_line_21 : decode cX6_line 21 = .ok (.goto 33, 3) := by decide +kernel
theorem dX6_line_24 : decode cX6_line 24 = .ok (.iload_n 2, 1) := by decide +kernel
theorem dX6_line_25 : decode cX6_line 25 = .ok (.iconst 1, 1) := by decide +kernel
theorem dX6_line_26 : decode cX6_line 26 = .ok (.if_icmp .ne 12, 3) := by decide +kernel
theorem dX6_line_29 : decode cX6_line 29 = .ok (.aload_n 0, 1) := by decide +kernel
theorem dX6_line_30 : decode cX6_line 30 = .ok (.getfield 73, 3) := by decide +kernel
theorem dX6_line_33 : decode cX6_line 33 = .ok (.iload_n 1, 1) := by decide +kernel
theorem dX6_line_34 : decode cX6_line 34 = .ok (.iaload, 1) := by decide +kernel
theorem dX6_line_35 : decode cX6_line 35 = .ok (.goto 19, 3) := by decide +kernel
theorem dX6_line_38 : decode cX6_line 38 = .ok (.iload_n 2, 1) := by decide +kernel
theorem dX6_line_39 : decode cX6_line 39 = .ok (.iconst 2, 1) := by decide +kernel
theorem dX6_line_40 : decode cX6_line 40 = .ok (.if_icmp .ne 12, 3) := by decide +kernel
theorem dX6_line_43 : decode cX6_line 43 = .ok (.aload_n 0, 1) := by decide +kernel
theorem dX6_line_44 : decode cX6_line 44 = .ok (.getfield 76, 3) := by decide +kernel
theorem dX6_line_47 : decode cX6_line 47 = .ok (.iload_n 1, 1) := by decide +kernel
theorem dX6_line_48 : decode cX6_line 48 = .ok (.iaload, 1) := by decide +kernel
theorem dX6_line_49 : decode cX6_line 49 = .ok (.goto 5, 3) := by decide +kernel
theorem dX6_line_52 : decode cX6_line 52 = .ok (.bipush (-102), 2) := by decide +kernel
theorem dX6_line_54 : decode cX6_line 54 = .ok (.ireturn, 1) := by decide +kernel
theorem dX6_bits_0 : decode cX6_bits 0 = .ok (.aload_n 0, 1) := by decide +kernel
theorem dX6_bits_1 : decode cX6_bits 1 = .ok (.iload_n 1, 1) := by decide +kernel
theorem dX6_bits_2 : decode cX6_bits 2 = .ok (.invokevirtual 231, 3) := by decide +kernel
theorem dX6_bits_5 : decode cX6_bits 5 = .ok (.ifCond .eq 9, 3) := by decide +kernel
theorem dX6_bits_8 : decode cX6_bits 8 = .ok (.ldc2_w 234, 3) := by decide +kernel
theorem dX6_bits_11 : decode cX6_bits 11 = .ok (.goto 9, 3) := by decide +kernel
theorem dX6_bits_14 : decode cX6_bits 14 = .ok (.aload_n 0, 1) := by decide +kernel
theorem dX6_bits_15 : decode cX6_bits 15 = .ok (.getfield 79, 3) := by decide +kernel
theorem dX6_bits_18 : decode cX6_bits 18 = .ok (.iload_n 1, 1) := by decide +kernel
theorem dX6_bits_19 : decode cX6_bits 19 = .ok (.laload, 1) := by decide +kernel
theorem dX6_bits_20 : decode cX6_bits 20 = .ok (.lreturn, 1) := by decide +kernel
theorem dX6_entry_0 : decode cX6_entry 0 = .ok (.aload_n 0, 1) := by decide +kernel
theorem dX6_entry_1 : decode cX6_entry 1 = .ok (.iload_n 1, 1) := by decide +kernel
theorem dX6_entry_2 : decode cX6_entry 2 = .ok (.invokevirtual 231, 3) := by decide +kernel
theorem dX6_entry_5 : decode cX6_entry 5 = .ok (.ifCond .eq 6, 3) := by decide +kernel
theorem dX6_entry_8 : decode cX6_entry 8 = .ok (.bipush (-101), 2) := by decide +kernel
theorem dX6_entry_10 : decode cX6_entry 10 = .ok (.ireturn, 1) := by decide +kernel
theorem dX6_entry_11 : decode cX6_entry 11 = .ok (.aload_n 0, 1) := by decide +kernel
theorem dX6_entry_12 : decode cX6_entry 12 = .ok (.getfield 70, 3) := by decide +kernel
theorem dX6_entry_15 : decode cX6_entry 15 = .ok (.iload_n 1, 1) := by decide +kernel
theorem dX6_entry_16 : decode cX6_entry 16 = .ok (.iaload, 1) := by decide +kernel
theorem dX6_entry_17 : decode cX6_entry 17 = .ok (.iconst 5, 1) := by decide +kernel
theorem dX6_entry_18 : decode cX6_entry 18 = .ok (.if_icmp .ne 42, 3) := by decide +kernel
theorem dX6_entry_21 : decode cX6_entry 21 = .ok (.iload_n 2, 1) := by decide +kernel
theorem dX6_entry_22 : decode cX6_entry 22 = .ok (.i2l, 1) := by decide +kernel
theorem dX6_entry_23 : decode cX6_entry 23 = .ok (.lconst 0, 1) := by decide +kernel
theorem dX6_entry_24 : decode cX6_entry 24 = .ok (.aload_n 0, 1) := by decide +kernel
theorem dX6_entry_25 : decode cX6_entry 25 = .ok (.getfield 76, 3) := by decide +kernel
theorem dX6_entry_28 : decode cX6_entry 28 = .ok (.iload_n 1, 1) := by decide +kernel
theorem dX6_entry_29 : decode cX6_entry 29 = .ok (.iaload, 1) := by decide +kernel
theorem dX6_entry_30 : decode cX6_entry 30 = .ok (.iconst 1, 1) := by decide +kernel
theorem dX6_entry_31 : decode cX6_entry 31 = .ok (.isub, 1) := by decide +kernel
theorem dX6_entry_32 : decode cX6_entry 32 = .ok (.i2l, 1) := by decide +kernel
theorem dX6_entry_33 : decode cX6_entry 33 = .ok (.invokestatic 110, 3) := by decide +kernel
theorem dX6_entry_36 : decode cX6_entry 36 = .ok (.ifCond .eq 24, 3) := by decide +kernel
theorem dX6_entry_39 : decode cX6_entry 39 = .ok (.aload_n 0, 1) := by decide +kernel
theorem dX6_entry_40 : decode cX6_entry 40 = .ok (.aload_n 0, 1) := by decide +kernel
theorem dX6_entry_41 : decode cX6_entry 41 = .ok (.getfield 82, 3) := by decide +kernel
theorem dX6_entry_44 : decode cX6_entry 44 = .ok (.iload_n 1, 1) := by decide +kernel
theorem dX6_entry_45 : decode cX6_entry 45 = .ok (.iaload, 1) := by decide +kernel
theorem dX6_entry_46 : decode cX6_entry 46 = .ok (.aload_n 0, 1) := by decide +kernel
theorem dX6_entry_47 : decode cX6_entry 47 = .ok (.getfield 73, 3) := by decide +kernel
theorem dX6_entry_50 : decode cX6_entry 50 = .ok (.iload_n 1, 1) := by decide +kernel
theorem dX6_entry_51 : decode cX6_entry 51 = .ok (.iaload, 1) := by decide +kernel
theorem dX6_entry_52 : decode cX6_entry 52 = .ok (.iload_n 2, 1) := by decide +kernel
theorem dX6_entry_53 : decode cX6_entry 53 = .ok (.iadd, 1) := by decide +kernel
theorem dX6_entry_54 : decode cX6_entry 54 = .ok (.invokevirtual 205, 3) := by decide +kernel
theorem dX6_entry_57 : decode cX6_entry 57 = .ok (.goto 4, 3) := by decide +kernel
theorem dX6_entry_60 : decode cX6_entry 60 = .ok (.iconst (-1), 1) := by decide +kernel
theorem dX6_entry_61 : decode cX6_entry 61 = .ok (.ireturn, 1) := by decide +kernel
theorem dX6_put_0 : decode cX6_put 0 = .ok (.aload_n 0, 1) := by decide +kernel
theorem dX6_put_1 : decode cX6_put 1 = .ok (.getfield 104, 3) := by decide +kernel
theorem dX6_put_4 : decode cX6_put 4 = .ok (.aload_n 0, 1) := by decide +kernel
theorem dX6_put_5 : decode cX6_put 5 = .ok (.getfield 225, 3) := by decide +kernel
theorem dX6_put_8 : decode cX6_put 8 = .ok (.iload_n 1, 1) := by decide +kernel
theorem dX6_put_9 : decode cX6_put 9 = .ok (.i2b, 1) := by decide +kernel
theorem dX6_put_10 : decode cX6_put 10 = .ok (.bastore, 1) := by decide +kernel
theorem dX6_put_11 : decode cX6_put 11 = .ok (.aload_n 0, 1) := by decide +kernel
theorem dX6_put_12 : decode cX6_put 12 = .ok (.dup, 1) := by decide +kernel
theorem dX6_put_13 : decode cX6_put 13 = .ok (.getfield 225, 3) := by decide +kernel
theorem dX6_put_16 : decode cX6_put 16 = .ok (.iconst 1, 1) := by decide +kernel
theorem dX6_put_17 : decode cX6_put 17 = .ok (.iadd, 1) := by decide +kernel
theorem dX6_put_18 : decode cX6_put 18 = .ok (.putfield 225, 3) := by decide +kernel
theorem dX6_put_21 : decode cX6_put 21 = .ok (.return_, 1) := by decide +kernel
theorem dX6_number_0 : decode cX6_number 0 = .ok (.aload_n 0, 1) := by decide +kernel
theorem dX6_number_1 : decode cX6_number 1 = .ok (.bipush 32, 2) := by decide +kernel
theorem dX6_number_3 : decode cX6_number 3 = .ok (.invokevirtual 236, 3) := by decide +kernel
theorem dX6_number_6 : decode cX6_number 6 = .ok (.lload_n 1, 1) := by decide +kernel
theorem dX6_number_7 : decode cX6_number 7 = .ok (.lconst 0, 1) := by decide +kernel
theorem dX6_number_8 : decode cX6_number 8 = .ok (.lcmp, 1) := by decide +kernel
theorem dX6_number_9 : decode cX6_number 9 = .ok (.ifCond .ge 9, 3) := by decide +kernel
theorem dX6_number_12 : decode cX6_number 12 = .ok (.aload_n 0, 1) := by decide +kernel
theorem dX6_number_13 : decode cX6_number 13 = .ok (.bipush 45, 2) := by decide +kernel
theorem dX6_number_15 : decode cX6_number 15 = .ok (.invokevirtual 236, 3) := by decide +kernel
theorem dX6_number_18 : decode cX6_number 18 = .ok (.aload_n 0, 1) := by decide +kernel
theorem dX6_number_19 : decode cX6_number 19 = .ok (.lload_n 1, 1) := by decide +kernel
theorem dX6_number_20 : decode cX6_number 20 = .ok (.lconst 0, 1) := by decide +kernel
theorem dX6_number_21 : decode cX6_number 21 = .ok (.lcmp, 1) := by decide +kernel
theorem dX6_number_22 : decode cX6_number 22 = .ok (.ifCond .ge 8, 3) := by decide +kernel
theorem dX6_number_25 : decode cX6_number 25 = .ok (.lload_n 1, 1) := by decide +kernel
theorem dX6_number_26 : decode cX6_number 26 = .ok (.lneg, 1) := by decide +kernel
theorem dX6_number_27 : decode cX6_number 27 = .ok (.goto 4, 3) := by decide +kernel
theorem dX6_number_30 : decode cX6_number 30 = .ok (.lload_n 1, 1) := by decide +kernel
theorem dX6_number_31 : decode cX6_number 31 = .ok (.invokevirtual 240, 3) := by decide +kernel
theorem dX6_number_34 : decode cX6_number 34 = .ok (.return_, 1) := by decide +kernel
theorem dX6_plain_0 : decode cX6_plain 0 = .ok (.lconst 1, 1) := by decide +kernel
theorem dX6_plain_1 : decode cX6_plain 1 = .ok (.lstore_n 3, 1) := by decide +kernel
theorem dX6_plain_2 : decode cX6_plain 2 = .ok (.lload_n 1, 1) := by decide +kernel
theorem dX6_plain_3 : decode cX6_plain 3 = .ok (.lload_n 3, 1) := by decide +kernel
theorem dX6_plain_4 : decode cX6_plain 4 = .ok (.ldiv, 1) := by decide +kernel
theorem dX6_plain_5 : decode cX6_plain 5 = .ok (.ldc2_w 244, 3) := by decide +kernel
theorem dX6_plain_8 : decode cX6_plain 8 = .ok (.lcmp, 1) := by decide +kernel
theorem dX6_plain_9 : decode cX6_plain 9 = .ok (.ifCond .le 12, 3) := by decide +kernel
theorem dX6_plain_12 : decode cX6_plain 12 = .ok (.lload_n 3, 1) := by decide +kernel
theorem dX6_plain_13 : decode cX6_plain 13 = .ok (.ldc2_w 246, 3) := by decide +kernel
theorem dX6_plain_16 : decode cX6_plain 16 = .ok (.lmul, 1) := by decide +kernel
theorem dX6_plain_17 : decode cX6_plain 17 = .ok (.lstore_n 3, 1) := by decide +kernel
theorem dX6_plain_18 : decode cX6_plain 18 = .ok (.goto (-16), 3) := by decide +kernel
theorem dX6_plain_21 : decode cX6_plain 21 = .ok (.lload_n 3, 1) := by decide +kernel
theorem dX6_plain_22 : decode cX6_plain 22 = .ok (.lconst 0, 1) := by decide +kernel
theorem dX6_plain_23 : decode cX6_plain 23 = .ok (.lcmp, 1) := by decide +kernel
theorem dX6_plain_24 : decode cX6_plain 24 = .ok (.ifCond .le 28, 3) := by decide +kernel
theorem dX6_plain_27 : decode cX6_plain 27 = .ok (.aload_n 0, 1) := by decide +kernel
theorem dX6_plain_28 : decode cX6_plain 28 = .ok (.ldc2_w 248, 3) := by decide +kernel
theorem dX6_plain_31 : decode cX6_plain 31 = .ok (.lload_n 1, 1) := by decide +kernel
theorem dX6_plain_32 : decode cX6_plain 32 = .ok (.lload_n 3, 1) := by decide +kernel
theorem dX6_plain_33 : decode cX6_plain 33 = .ok (.ldiv, 1) := by decide +kernel
theorem dX6_plain_34 : decode cX6_plain 34 = .ok (.ldc2_w 246, 3) := by decide +kernel
theorem dX6_plain_37 : decode cX6_plain 37 = .ok (.lrem, 1) := by decide +kernel
theorem dX6_plain_38 : decode cX6_plain 38 = .ok (.ladd, 1) := by decide +kernel
theorem dX6_plain_39 : decode cX6_plain 39 = .ok (.l2i, 1) := by decide +kernel
theorem dX6_plain_40 : decode cX6_plain 40 = .ok (.invokevirtual 236, 3) := by decide +kernel
theorem dX6_plain_43 : decode cX6_plain 43 = .ok (.lload_n 3, 1) := by decide +kernel
theorem dX6_plain_44 : decode cX6_plain 44 = .ok (.ldc2_w 246, 3) := by decide +kernel
theorem dX6_plain_47 : decode cX6_plain 47 = .ok (.ldiv, 1) := by decide +kernel
theorem dX6_plain_48 : decode cX6_plain 48 = .ok (.lstore_n 3, 1) := by decide +kernel
theorem dX6_plain_49 : decode cX6_plain 49 = .ok (.goto (-28), 3) := by decide +kernel
theorem dX6_plain_52 : decode cX6_plain 52 = .ok (.return_, 1) := by decide +kernel
theorem dX6_name_0 : decode cX6_name 0 = .ok (.aload_n 0, 1) := by decide +kernel
theorem dX6_name_1 : decode cX6_name 1 = .ok (.bipush 32, 2) := by decide +kernel
theorem dX6_name_3 : decode cX6_name 3 = .ok (.invokevirtual 236, 3) := by decide +kernel
theorem dX6_name_6 : decode cX6_name 6 = .ok (.aload_n 0, 1) := by decide +kernel
theorem dX6_name_7 : decode cX6_name 7 = .ok (.iload_n 1, 1) := by decide +kernel
theorem dX6_name_8 : decode cX6_name 8 = .ok (.invokevirtual 236, 3) := by decide +kernel
theorem dX6_name_11 : decode cX6_name 11 = .ok (.aload_n 0, 1) := by decide +kernel
theorem dX6_name_12 : decode cX6_name 12 = .ok (.iload_n 2, 1) := by decide +kernel
theorem dX6_name_13 : decode cX6_name 13 = .ok (.invokevirtual 236, 3) := by decide +kernel
theorem dX6_name_16 : decode cX6_name 16 = .ok (.aload_n 0, 1) := by decide +kernel
theorem dX6_name_17 : decode cX6_name 17 = .ok (.iload_n 3, 1) := by decide +kernel
theorem dX6_name_18 : decode cX6_name 18 = .ok (.invokevirtual 236, 3) := by decide +kernel
theorem dX6_name_21 : decode cX6_name 21 = .ok (.iload 4, 2) := by decide +kernel
theorem dX6_name_23 : decode cX6_name 23 = .ok (.ifCond .le 9, 3) := by decide +kernel
theorem dX6_name_26 : decode cX6_name 26 = .ok (.aload_n 0, 1) := by decide +kernel
theorem dX6_name_27 : decode cX6_name 27 = .ok (.iload 4, 2) := by decide +kernel
theorem dX6_name_29 : decode cX6_name 29 = .ok (.invokevirtual 236, 3) := by decide +kernel
theorem dX6_name_32 : decode cX6_name 32 = .ok (.iload 5, 2) := by decide +kernel
theorem dX6_name_34 : decode cX6_name 34 = .ok (.ifCond .le 9, 3) := by decide +kernel
theorem dX6_name_37 : decode cX6_name 37 = .ok (.aload_n 0, 1) := by decide +kernel
theorem dX6_name_38 : decode cX6_name 38 = .ok (.iload 5, 2) := by decide +kernel
theorem dX6_name_40 : decode cX6_name 40 = .ok (.invokevirtual 236, 3) := by decide +kernel
theorem dX6_name_43 : decode cX6_name 43 = .ok (.return_, 1) := by decide +kernel
theorem dX6_sixteen_0 : decode cX6_sixteen 0 = .ok (.aload_n 0, 1) := by decide +kernel
theorem dX6_sixteen_1 : decode cX6_sixteen 1 = .ok (.bipush 32, 2) := by decide +kernel
theorem dX6_sixteen_3 : decode cX6_sixteen 3 = .ok (.invokevirtual 236, 3) := by decide +kernel
theorem dX6_sixteen_6 : decode cX6_sixteen 6 = .ok (.bipush 60, 2) := by decide +kernel
theorem dX6_sixteen_8 : decode cX6_sixteen 8 = .ok (.istore_n 3, 1) := by decide +kernel
theorem dX6_sixteen_9 : decode cX6_sixteen 9 = .ok (.iload_n 3, 1) := by decide +kernel
theorem dX6_sixteen_10 : decode cX6_sixteen 10 = .ok (.ifCond .lt 46, 3) := by decide +kernel
theorem dX6_sixteen_13 : decode cX6_sixteen 13 = .ok (.lload_n 1, 1) := by decide +kernel
theorem dX6_sixteen_14 : decode cX6_sixteen 14 = .ok (.iload_n 3, 1) := by decide +kernel
theorem dX6_sixteen_15 : decode cX6_sixteen 15 = .ok (.lshr, 1) := by decide +kernel
theorem dX6_sixteen_16 : decode cX6_sixteen 16 = .ok (.ldc2_w 108, 3) := by decide +kernel
theorem dX6_sixteen_19 : decode cX6_sixteen 19 = .ok (.land, 1) := by decide +kernel
theorem dX6_sixteen_20 : decode cX6_sixteen 20 = .ok (.l2i, 1) := by decide +kernel
theorem dX6_sixteen_21 : decode cX6_sixteen 21 = .ok (.istore 4, 2) := by decide +kernel
theorem dX6_sixteen_23 : decode cX6_sixteen 23 = .ok (.aload_n 0, 1) := by decide +kernel
theorem dX6_sixteen_24 : decode cX6_sixteen 24 = .ok (.iload 4, 2) := by decide +kernel
theorem dX6_sixteen_26 : decode cX6_sixteen 26 = .ok (.bipush 10, 2) := by decide +kernel
theorem dX6_sixteen_28 : decode cX6_sixteen 28 = .ok (.if_icmp .ge 11, 3) := by decide +kernel
theorem dX6_sixteen_31 : decode cX6_sixteen 31 = .ok (.bipush 48, 2) := by decide +kernel
theorem dX6_sixteen_33 : decode cX6_sixteen 33 = .ok (.iload 4, 2) := by decide +kernel
theorem dX6_sixteen_35 : decode cX6_sixteen 35 = .ok (.iadd, 1) := by decide +kernel
theorem dX6_sixteen_36 : decode cX6_sixteen 36 = .ok (.goto 11, 3) := by decide +kernel
theorem dX6_sixteen_39 : decode cX6_sixteen 39 = .ok (.bipush 65, 2) := by decide +kernel
theorem dX6_sixteen_41 : decode cX6_sixteen 41 = .ok (.iload 4, 2) := by decide +kernel
theorem dX6_sixteen_43 : decode cX6_sixteen 43 = .ok (.iadd, 1) := by decide +kernel
theorem dX6_sixteen_44 : decode cX6_sixteen 44 = .ok (.bipush 10, 2) := by decide +kernel
theorem dX6_sixteen_46 : decode cX6_sixteen 46 = .ok (.isub, 1) := by decide +kernel
theorem dX6_sixteen_47 : decode cX6_sixteen 47 = .ok (.invokevirtual 236, 3) := by decide +kernel
theorem dX6_sixteen_50 : decode cX6_sixteen 50 = .ok (.iinc 3 (-4), 3) := by decide +kernel
theorem dX6_sixteen_53 : decode cX6_sixteen 53 = .ok (.goto (-44), 3) := by decide +kernel
theorem dX6_sixteen_56 : decode cX6_sixteen 56 = .ok (.return_, 1) := by decide +kernel
theorem dX6_printLine_0 : decode cX6_printLine 0 = .ok (.aload_n 0, 1) := by decide +kernel
theorem dX6_printLine_1 : decode cX6_printLine 1 = .ok (.iload_n 1, 1) := by decide +kernel
theorem dX6_printLine_2 : decode cX6_printLine 2 = .ok (.i2l, 1) := by decide +kernel
theorem dX6_printLine_3 : decode cX6_printLine 3 = .ok (.invokevirtual 240, 3) := by decide +kernel
theorem dX6_printLine_6 : decode cX6_printLine 6 = .ok (.aload_n 0, 1) := by decide +kernel
theorem dX6_printLine_7 : decode cX6_printLine 7 = .ok (.getfield 70, 3) := by decide +kernel
theorem dX6_printLine_10 : decode cX6_printLine 10 = .ok (.iload_n 1, 1) := by decide +kernel
theorem dX6_printLine_11 : decode cX6_printLine 11 = .ok (.iaload, 1) := by decide +kernel
theorem dX6_printLine_12 : decode cX6_printLine 12 = .ok (.tableswitch 114 0 4 #[36, 52, 68, 84, 99], 36) := by decide +kernel
theorem dX6_printLine_48 : decode cX6_printLine 48 = .ok (.aload_n 0, 1) := by decide +kernel
theorem dX6_printLine_49 : decode cX6_printLine 49 = .ok (.bipush 76, 2) := by decide +kernel
theorem dX6_printLine_51 : decode cX6_printLine 51 = .ok (.bipush 69, 2) := by decide +kernel
theorem dX6_printLine_53 : decode cX6_printLine 53 = .ok (.bipush 83, 2) := by decide +kernel
theorem dX6_printLine_55 : decode cX6_printLine 55 = .ok (.bipush 83, 2) := by decide +kernel
theorem dX6_printLine_57 : decode cX6_printLine 57 = .ok (.iconst 0, 1) := by decide +kernel
theorem dX6_printLine_58 : decode cX6_printLine 58 = .ok (.invokevirtual 250, 3) := by decide +kernel
theorem dX6_printLine_61 : decode cX6_printLine 61 = .ok (.goto 79, 3) := by decide +kernel
theorem dX6_printLine_64 : decode cX6_printLine 64 = .ok (.aload_n 0, 1) := by decide +kernel
theorem dX6_printLine_65 : decode cX6_printLine 65 = .ok (.bipush 77, 2) := by decide +kernel
theorem dX6_printLine_67 : decode cX6_printLine 67 = .ok (.bipush 79, 2) := by decide +kernel
theorem dX6_printLine_69 : decode cX6_printLine 69 = .ok (.bipush 82, 2) := by decide +kernel
theorem dX6_printLine_71 : decode cX6_printLine 71 = .ok (.bipush 69, 2) := by decide +kernel
theorem dX6_printLine_73 : decode cX6_printLine 73 = .ok (.iconst 0, 1) := by decide +kernel
theorem dX6_printLine_74 : decode cX6_printLine 74 = .ok (.invokevirtual 250, 3) := by decide +kernel
theorem dX6_printLine_77 : decode cX6_printLine 77 = .ok (.goto 63, 3) := by decide +kernel
theorem dX6_printLine_80 : decode cX6_printLine 80 = .ok (.aload_n 0, 1) := by decide +kernel
theorem dX6_printLine_81 : decode cX6_printLine 81 = .ok (.bipush 83, 2) := by decide +kernel
theorem dX6_printLine_83 : decode cX6_printLine 83 = .ok (.bipush 65, 2) := by decide +kernel
theorem dX6_printLine_85 : decode cX6_printLine 85 = .ok (.bipush 77, 2) := by decide +kernel
theorem dX6_printLine_87 : decode cX6_printLine 87 = .ok (.bipush 69, 2) := by decide +kernel
theorem dX6_printLine_89 : decode cX6_printLine 89 = .ok (.iconst 0, 1) := by decide +kernel
theorem dX6_printLine_90 : decode cX6_printLine 90 = .ok (.invokevirtual 250, 3) := by decide +kernel
theorem dX6_printLine_93 : decode cX6_printLine 93 = .ok (.goto 47, 3) := by decide +kernel
theorem dX6_printLine_96 : decode cX6_printLine 96 = .ok (.aload_n 0, 1) := by decide +kernel
theorem dX6_printLine_97 : decode cX6_printLine 97 = .ok (.bipush 69, 2) := by decide +kernel
theorem dX6_printLine_99 : decode cX6_printLine 99 = .ok (.bipush 78, 2) := by decide +kernel
theorem dX6_printLine_101 : decode cX6_printLine 101 = .ok (.bipush 68, 2) := by decide +kernel
theorem dX6_printLine_103 : decode cX6_printLine 103 = .ok (.iconst 0, 1) := by decide +kernel
theorem dX6_printLine_104 : decode cX6_printLine 104 = .ok (.iconst 0, 1) := by decide +kernel
theorem dX6_printLine_105 : decode cX6_printLine 105 = .ok (.invokevirtual 250, 3) := by decide +kernel
theorem dX6_printLine_108 : decode cX6_printLine 108 = .ok (.goto 32, 3) := by decide +kernel
theorem dX6_printLine_111 : decode cX6_printLine 111 = .ok (.aload_n 0, 1) := by decide +kernel
theorem dX6_printLine_112 : decode cX6_printLine 112 = .ok (.bipush 66, 2) := by decide +kernel
theorem dX6_printLine_114 : decode cX6_printLine 114 = .ok (.bipush 73, 2) := by decide +kernel
theorem dX6_printLine_116 : decode cX6_printLine 116 = .ok (.bipush 84, 2) := by decide +kernel
theorem dX6_printLine_118 : decode cX6_printLine 118 = .ok (.iconst 0, 1) := by decide +kernel
theorem dX6_printLine_119 : decode cX6_printLine 119 = .ok (.iconst 0, 1) := by decide +kernel
theorem dX6_printLine_120 : decode cX6_printLine 120 = .ok (.invokevirtual 250, 3) := by decide +kernel
theorem dX6_printLine_123 : decode cX6_printLine 123 = .ok (.goto 17, 3) := by decide +kernel
theorem dX6_printLine_126 : decode cX6_printLine 126 = .ok (.aload_n 0, 1) := by decide +kernel
theorem dX6_printLine_127 : decode cX6_printLine 127 = .ok (.bipush 84, 2) := by decide +kernel
theorem dX6_printLine_129 : decode cX6_printLine 129 = .ok (.bipush 65, 2) := by decide +kernel
theorem dX6_printLine_131 : decode cX6_printLine 131 = .ok (.bipush 66, 2) := by decide +kernel
theorem dX6_printLine_133 : decode cX6_printLine 133 = .ok (.bipush 76, 2) := by decide +kernel
theorem dX6_printLine_135 : decode cX6_printLine 135 = .ok (.bipush 69, 2) := by decide +kernel
theorem dX6_printLine_137 : decode cX6_printLine 137 = .ok (.invokevirtual 250, 3) := by decide +kernel
theorem dX6_printLine_140 : decode cX6_printLine 140 = .ok (.aload_n 0, 1) := by decide +kernel
theorem dX6_printLine_141 : decode cX6_printLine 141 = .ok (.aload_n 0, 1) := by decide +kernel
theorem dX6_printLine_142 : decode cX6_printLine 142 = .ok (.getfield 73, 3) := by decide +kernel
theorem dX6_printLine_145 : decode cX6_printLine 145 = .ok (.iload_n 1, 1) := by decide +kernel
theorem dX6_printLine_146 : decode cX6_printLine 146 = .ok (.iaload, 1) := by decide +kernel
theorem dX6_printLine_147 : decode cX6_printLine 147 = .ok (.i2l, 1) := by decide +kernel
theorem dX6_printLine_148 : decode cX6_printLine 148 = .ok (.invokevirtual 254, 3) := by decide +kernel
theorem dX6_printLine_151 : decode cX6_printLine 151 = .ok (.aload_n 0, 1) := by decide +kernel
theorem dX6_printLine_152 : decode cX6_printLine 152 = .ok (.getfield 70, 3) := by decide +kernel
theorem dX6_printLine_155 : decode cX6_printLine 155 = .ok (.iload_n 1, 1) := by decide +kernel
theorem dX6_printLine_156 : decode cX6_printLine 156 = .ok (.iaload, 1) := by decide +kernel
theorem dX6_printLine_157 : decode cX6_printLine 157 = .ok (.iconst 4, 1) := by decide +kernel
theorem dX6_printLine_158 : decode cX6_printLine 158 = .ok (.if_icmp .ne 13, 3) := by decide +kernel
theorem dX6_printLine_161 : decode cX6_printLine 161 = .ok (.aload_n 0, 1) := by decide +kernel
theorem dX6_printLine_162 : decode cX6_printLine 162 = .ok (.aload_n 0, 1) := by decide +kernel
theorem dX6_printLine_163 : decode cX6_printLine 163 = .ok (.getfield 79, 3) := by decide +kernel
theorem dX6_printLine_166 : decode cX6_printLine 166 = .ok (.iload_n 1, 1) := by decide +kernel
theorem dX6_printLine_167 : decode cX6_printLine 167 = .ok (.laload, 1) := by decide +kernel
theorem dX6_printLine_168 : decode cX6_printLine 168 = .ok (.invokevirtual 257, 3) := by decide +kernel
theorem dX6_printLine_171 : decode cX6_printLine 171 = .ok (.aload_n 0, 1) := by decide +kernel
theorem dX6_printLine_172 : decode cX6_printLine 172 = .ok (.getfield 70, 3) := by decide +kernel
theorem dX6_printLine_175 : decode cX6_printLine 175 = .ok (.iload_n 1, 1) := by decide +kernel
theorem dX6_printLine_176 : decode cX6_printLine 176 = .ok (.iaload, 1) := by decide +kernel
theorem dX6_printLine_177 : decode cX6_printLine 177 = .ok (.iconst 3, 1) := by decide +kernel
theorem dX6_printLine_178 : decode cX6_printLine 178 = .ok (.if_icmp .eq 14, 3) := by decide +kernel
theorem dX6_printLine_181 : decode cX6_printLine 181 = .ok (.aload_n 0, 1) := by decide +kernel
theorem dX6_printLine_182 : decode cX6_printLine 182 = .ok (.aload_n 0, 1) := by decide +kernel
theorem dX6_printLine_183 : decode cX6_printLine 183 = .ok (.getfield 76, 3) := by decide +kernel
theorem dX6_printLine_186 : decode cX6_printLine 186 = .ok (.iload_n 1, 1) := by decide +kernel
theorem dX6_printLine_187 : decode cX6_printLine 187 = .ok (.iaload, 1) := by decide +kernel
theorem dX6_printLine_188 : decode cX6_printLine 188 = .ok (.i2l, 1) := by decide +kernel
theorem dX6_printLine_189 : decode cX6_printLine 189 = .ok (.invokevirtual 254, 3) := by decide +kernel
theorem dX6_printLine_192 : decode cX6_printLine 192 = .ok (.iconst 0, 1) := by decide +kernel
theorem dX6_printLine_193 : decode cX6_printLine 193 = .ok (.istore_n 2, 1) := by decide +kernel
theorem dX6_printLine_194 : decode cX6_printLine 194 = .ok (.aload_n 0, 1) := by decide +kernel
theorem dX6_printLine_195 : decode cX6_printLine 195 = .ok (.getfield 70, 3) := by decide +kernel
theorem dX6_printLine_198 : decode cX6_printLine 198 = .ok (.iload_n 1, 1) := by decide +kernel
theorem dX6_printLine_199 : decode cX6_printLine 199 = .ok (.iaload, 1) := by decide +kernel
theorem dX6_printLine_200 : decode cX6_printLine 200 = .ok (.iconst 5, 1) := by decide +kernel
theorem dX6_printLine_201 : decode cX6_printLine 201 = .ok (.if_icmp .ne 42, 3) := by decide +kernel
theorem dX6_printLine_204 : decode cX6_printLine 204 = .ok (.iload_n 2, 1) := by decide +kernel
theorem dX6_printLine_205 : decode cX6_printLine 205 = .ok (.aload_n 0, 1) := by decide +kernel
theorem dX6_printLine_206 : decode cX6_printLine 206 = .ok (.getfield 76, 3) := by decide +kernel
theorem dX6_printLine_209 : decode cX6_printLine 209 = .ok (.iload_n 1, 1) := by decide +kernel
theorem dX6_printLine_210 : decode cX6_printLine 210 = .ok (.iaload, 1) := by decide +kernel
theorem dX6_printLine_211 : decode cX6_printLine 211 = .ok (.if_icmp .ge 32, 3) := by decide +kernel
theorem dX6_printLine_214 : decode cX6_printLine 214 = .ok (.aload_n 0, 1) := by decide +kernel
theorem dX6_printLine_215 : decode cX6_printLine 215 = .ok (.aload_n 0, 1) := by decide +kernel
theorem dX6_printLine_216 : decode cX6_printLine 216 = .ok (.aload_n 0, 1) := by decide +kernel
theorem dX6_printLine_217 : decode cX6_printLine 217 = .ok (.getfield 82, 3) := by decide +kernel
theorem dX6_printLine_220 : decode cX6_printLine 220 = .ok (.iload_n 1, 1) := by decide +kernel
theorem dX6_printLine_221 : decode cX6_printLine 221 = .ok (.iaload, 1) := by decide +kernel
theorem dX6_printLine_222 : decode cX6_printLine 222 = .ok (.aload_n 0, 1) := by decide +kernel
theorem dX6_printLine_223 : decode cX6_printLine 223 = .ok (.getfield 73, 3) := by decide +kernel
theorem dX6_printLine_226 : decode cX6_printLine 226 = .ok (.iload_n 1, 1) := by decide +kernel
theorem dX6_printLine_227 : decode cX6_printLine 227 = .ok (.iaload, 1) := by decide +kernel
theorem dX6_printLine_228 : decode cX6_printLine 228 = .ok (.iload_n 2, 1) := by decide +kernel
theorem dX6_printLine_229 : decode cX6_printLine 229 = .ok (.iadd, 1) := by decide +kernel
theorem dX6_printLine_230 : decode cX6_printLine 230 = .ok (.invokevirtual 205, 3) := by decide +kernel
theorem dX6_printLine_233 : decode cX6_printLine 233 = .ok (.i2l, 1) := by decide +kernel
theorem dX6_printLine_234 : decode cX6_printLine 234 = .ok (.invokevirtual 254, 3) := by decide +kernel
theorem dX6_printLine_237 : decode cX6_printLine 237 = .ok (.iinc 2 1, 3) := by decide +kernel
theorem dX6_printLine_240 : decode cX6_printLine 240 = .ok (.goto (-46), 3) := by decide +kernel
theorem dX6_printLine_243 : decode cX6_printLine 243 = .ok (.aload_n 0, 1) := by decide +kernel
theorem dX6_printLine_244 : decode cX6_printLine 244 = .ok (.bipush 10, 2) := by decide +kernel
theorem dX6_printLine_246 : decode cX6_printLine 246 = .ok (.invokevirtual 236, 3) := by decide +kernel
theorem dX6_printLine_249 : decode cX6_printLine 249 = .ok (.return_, 1) := by decide +kernel
theorem dX6_print_0 : decode cX6_print 0 = .ok (.aload_n 0, 1) := by decide +kernel
theorem dX6_print_1 : decode cX6_print 1 = .ok (.invokevirtual 215, 3) := by decide +kernel
theorem dX6_print_4 : decode cX6_print 4 = .ok (.aload_n 0, 1) := by decide +kernel
theorem dX6_print_5 : decode cX6_print 5 = .ok (.iconst 0, 1) := by decide +kernel
theorem dX6_print_6 : decode cX6_print 6 = .ok (.putfield 225, 3) := by decide +kernel
theorem dX6_print_9 : decode cX6_print 9 = .ok (.iconst 0, 1) := by decide +kernel
theorem dX6_print_10 : decode cX6_print 10 = .ok (.istore_n 1, 1) := by decide +kernel
theorem dX6_print_11 : decode cX6_print 11 = .ok (.iload_n 1, 1) := by decide +kernel
theorem dX6_print_12 : decode cX6_print 12 = .ok (.aload_n 0, 1) := by decide +kernel
theorem dX6_print_13 : decode cX6_print 13 = .ok (.getfield 158, 3) := by decide +kernel
theorem dX6_print_16 : decode cX6_print 16 = .ok (.if_icmp .ge 14, 3) := by decide +kernel
theorem dX6_print_19 : decode cX6_print 19 = .ok (.aload_n 0, 1) := by decide +kernel
theorem dX6_print_20 : decode cX6_print 20 = .ok (.iload_n 1, 1) := by decide +kernel
theorem dX6_print_21 : decode cX6_print 21 = .ok (.invokevirtual 260, 3) := by decide +kernel
theorem dX6_print_24 : decode cX6_print 24 = .ok (.iinc 1 1, 3) := by decide +kernel
theorem dX6_print_27 : decode cX6_print 27 = .ok (.goto (-16), 3) := by decide +kernel
theorem dX6_print_30 : decode cX6_print 30 = .ok (.aload_n 0, 1) := by decide +kernel
theorem dX6_print_31 : decode cX6_print 31 = .ok (.getfield 225, 3) := by decide +kernel
theorem dX6_print_34 : decode cX6_print 34 = .ok (.ireturn, 1) := by decide +kernel
theorem dX6_out_0 : decode cX6_out 0 = .ok (.iload_n 1, 1) := by decide +kernel
theorem dX6_out_1 : decode cX6_out 1 = .ok (.i2l, 1) := by decide +kernel
theorem dX6_out_2 : decode cX6_out 2 = .ok (.lconst 0, 1) := by decide +kernel
theorem dX6_out_3 : decode cX6_out 3 = .ok (.aload_n 0, 1) := by decide +kernel
theorem dX6_out_4 : decode cX6_out 4 = .ok (.getfield 225, 3) := by decide +kernel
theorem dX6_out_7 : decode cX6_out 7 = .ok (.iconst 1, 1) := by decide +kernel
theorem dX6_out_8 : decode cX6_out 8 = .ok (.isub, 1) := by decide +kernel
theorem dX6_out_9 : decode cX6_out 9 = .ok (.i2l, 1) := by decide +kernel
theorem dX6_out_10 : decode cX6_out 10 = .ok (.invokestatic 110, 3) := by decide +kernel
theorem dX6_out_13 : decode cX6_out 13 = .ok (.ifCond .eq 12, 3) := by decide +kernel
theorem dX6_out_16 : decode cX6_out 16 = .ok (.aload_n 0, 1) := by decide +kernel
theorem dX6_out_17 : decode cX6_out 17 = .ok (.getfield 104, 3) := by decide +kernel
theorem dX6_out_20 : decode cX6_out 20 = .ok (.iload_n 1, 1) := by decide +kernel
theorem dX6_out_21 : decode cX6_out 21 = .ok (.baload, 1) := by decide +kernel
theorem dX6_out_22 : decode cX6_out 22 = .ok (.goto 4, 3) := by decide +kernel
theorem dX6_out_25 : decode cX6_out 25 = .ok (.iconst (-1), 1) := by decide +kernel
theorem dX6_out_26 : decode cX6_out 26 = .ok (.ireturn, 1) := by decide +kernel
theorem dJ6_bitCount_0f7a4_0 : decode cJ6_bitCount_0f7a4 0 = .ok (.iload_n 0, 1) := by decide +kernel
theorem dJ6_bitCount_0f7a4_1 : decode cJ6_bitCount_0f7a4 1 = .ok (.iload_n 0, 1) := by decide +kernel
theorem dJ6_bitCount_0f7a4_2 : decode cJ6_bitCount_0f7a4 2 = .ok (.iconst 1, 1) := by decide +kernel
theorem dJ6_bitCount_0f7a4_3 : decode cJ6_bitCount_0f7a4 3 = .ok (.iushr, 1) := by decide +kernel
theorem dJ6_bitCount_0f7a4_4 : decode cJ6_bitCount_0f7a4 4 = .ok (.ldc_w 265, 3) := by decide +kernel
theorem dJ6_bitCount_0f7a4_7 : decode cJ6_bitCount_0f7a4 7 = .ok (.iand, 1) := by decide +kernel
theorem dJ6_bitCount_0f7a4_8 : decode cJ6_bitCount_0f7a4 8 = .ok (.isub, 1) := by decide +kernel
theorem dJ6_bitCount_0f7a4_9 : decode cJ6_bitCount_0f7a4 9 = .ok (.istore_n 0, 1) := by decide +kernel
theorem dJ6_bitCount_0f7a4_10 : decode cJ6_bitCount_0f7a4 10 = .ok (.iload_n 0, 1) := by decide +kernel
theorem dJ6_bitCount_0f7a4_11 : decode cJ6_bitCount_0f7a4 11 = .ok (.ldc_w 266, 3) := by decide +kernel
theorem dJ6_bitCount_0f7a4_14 : decode cJ6_bitCount_0f7a4 14 = .ok (.iand, 1) := by decide +kernel
theorem dJ6_bitCount_0f7a4_15 : decode cJ6_bitCount_0f7a4 15 = .ok (.iload_n 0, 1) := by decide +kernel
theorem dJ6_bitCount_0f7a4_16 : decode cJ6_bitCount_0f7a4 16 = .ok (.iconst 2, 1) := by decide +kernel
theorem dJ6_bitCount_0f7a4_17 : decode cJ6_bitCount_0f7a4 17 = .ok (.iushr, 1) := by decide +kernel
theorem dJ6_bitCount_0f7a4_18 : decode cJ6_bitCount_0f7a4 18 = .ok (.ldc_w 266, 3) := by decide +kernel
theorem dJ6_bitCount_0f7a4_21 : decode cJ6_bitCount_0f7a4 21 = .ok (.iand, 1) := by decide +kernel
theorem dJ6_bitCount_0f7a4_22 : decode cJ6_bitCount_0f7a4 22 = .ok (.iadd, 1) := by decide +kernel
theorem dJ6_bitCount_0f7a4_23 : decode cJ6_bitCount_0f7a4 23 = .ok (.istore_n 0, 1) := by decide +kernel
theorem dJ6_bitCount_0f7a4_24 : decode cJ6_bitCount_0f7a4 24 = .ok (.iload_n 0, 1) := by decide +kernel
theorem dJ6_bitCount_0f7a4_25 : decode cJ6_bitCount_0f7a4 25 = .ok (.iload_n 0, 1) := by decide +kernel
theorem dJ6_bitCount_0f7a4_26 : decode cJ6_bitCount_0f7a4 26 = .ok (.iconst 4, 1) := by decide +kernel
theorem dJ6_bitCount_0f7a4_27 : decode cJ6_bitCount_0f7a4 27 = .ok (.iushr, 1) := by decide +kernel
theorem dJ6_bitCount_0f7a4_28 : decode cJ6_bitCount_0f7a4 28 = .ok (.iadd, 1) := by decide +kernel
theorem dJ6_bitCount_0f7a4_29 : decode cJ6_bitCount_0f7a4 29 = .ok (.ldc_w 267, 3) := by decide +kernel
theorem dJ6_bitCount_0f7a4_32 : decode cJ6_bitCount_0f7a4 32 = .ok (.iand, 1) := by decide +kernel
theorem dJ6_bitCount_0f7a4_33 : decode cJ6_bitCount_0f7a4 33 = .ok (.istore_n 0, 1) := by decide +kernel
theorem dJ6_bitCount_0f7a4_34 : decode cJ6_bitCount_0f7a4 34 = .ok (.iload_n 0, 1) := by decide +kernel
theorem dJ6_bitCount_0f7a4_35 : decode cJ6_bitCount_0f7a4 35 = .ok (.iload_n 0, 1) := by decide +kernel
theorem dJ6_bitCount_0f7a4_36 : decode cJ6_bitCount_0f7a4 36 = .ok (.bipush 8, 2) := by decide +kernel
theorem dJ6_bitCount_0f7a4_38 : decode cJ6_bitCount_0f7a4 38 = .ok (.iushr, 1) := by decide +kernel
theorem dJ6_bitCount_0f7a4_39 : decode cJ6_bitCount_0f7a4 39 = .ok (.iadd, 1) := by decide +kernel
theorem dJ6_bitCount_0f7a4_40 : decode cJ6_bitCount_0f7a4 40 = .ok (.istore_n 0, 1) := by decide +kernel
theorem dJ6_bitCount_0f7a4_41 : decode cJ6_bitCount_0f7a4 41 = .ok (.iload_n 0, 1) := by decide +kernel
theorem dJ6_bitCount_0f7a4_42 : decode cJ6_bitCount_0f7a4 42 = .ok (.iload_n 0, 1) := by decide +kernel
theorem dJ6_bitCount_0f7a4_43 : decode cJ6_bitCount_0f7a4 43 = .ok (.bipush 16, 2) := by decide +kernel
theorem dJ6_bitCount_0f7a4_45 : decode cJ6_bitCount_0f7a4 45 = .ok (.iushr, 1) := by decide +kernel
theorem dJ6_bitCount_0f7a4_46 : decode cJ6_bitCount_0f7a4 46 = .ok (.iadd, 1) := by decide +kernel
theorem dJ6_bitCount_0f7a4_47 : decode cJ6_bitCount_0f7a4 47 = .ok (.istore_n 0, 1) := by decide +kernel
theorem dJ6_bitCount_0f7a4_48 : decode cJ6_bitCount_0f7a4 48 = .ok (.iload_n 0, 1) := by decide +kernel
theorem dJ6_bitCount_0f7a4_49 : decode cJ6_bitCount_0f7a4 49 = .ok (.bipush 63, 2) := by decide +kernel
theorem dJ6_bitCount_0f7a4_51 : decode cJ6_bitCount_0f7a4 51 = .ok (.iand, 1) := by decide +kernel
theorem dJ6_bitCount_0f7a4_52 : decode cJ6_bitCount_0f7a4 52 = .ok (.ireturn, 1) := by decide +kernel
theorem dJ9_max_7cf53_0 : decode cJ9_max_7cf53 0 = .ok (.iload_n 0, 1) := by decide +kernel
theorem dJ9_max_7cf53_1 : decode cJ9_max_7cf53 1 = .ok (.iload_n 1, 1) := by decide +kernel
theorem dJ9_max_7cf53_2 : decode cJ9_max_7cf53 2 = .ok (.if_icmp .lt 7, 3) := by decide +kernel
theorem dJ9_max_7cf53_5 : decode cJ9_max_7cf53 5 = .ok (.iload_n 0, 1) := by decide +kernel
theorem dJ9_max_7cf53_6 : decode cJ9_max_7cf53 6 = .ok (.goto 4, 3) := by decide +kernel
theorem dJ9_max_7cf53_9 : decode cJ9_max_7cf53 9 = .ok (.iload_n 1, 1) := by decide +kernel
theorem dJ9_max_7cf53_10 : decode cJ9_max_7cf53 10 = .ok (.ireturn, 1) := by decide +kernel
theorem dJ9_min_7cf53_0 : decode cJ9_min_7cf53 0 = .ok (.iload_n 0, 1) := by decide +kernel
theorem dJ9_min_7cf53_1 : decode cJ9_min_7cf53 1 = .ok (.iload_n 1, 1) := by decide +kernel
theorem dJ9_min_7cf53_2 : decode cJ9_min_7cf53 2 = .ok (.if_icmp .gt 7, 3) := by decide +kernel
theorem dJ9_min_7cf53_5 : decode cJ9_min_7cf53 5 = .ok (.iload_n 0, 1) := by decide +kernel
theorem dJ9_min_7cf53_6 : decode cJ9_min_7cf53 6 = .ok (.goto 4, 3) := by decide +kernel
theorem dJ9_min_7cf53_9 : decode cJ9_min_7cf53 9 = .ok (.iload_n 1, 1) := by decide +kernel
theorem dJ9_min_7cf53_10 : decode cJ9_min_7cf53 10 = .ok (.ireturn, 1) := by decide +kernel
theorem dJ9_min_f86c9_0 : decode cJ9_min_f86c9 0 = .ok (.lload_n 0, 1) := by decide +kernel
theorem dJ9_min_f86c9_1 : decode cJ9_min_f86c9 1 = .ok (.lload_n 2, 1) := by decide +kernel
theorem dJ9_min_f86c9_2 : decode cJ9_min_f86c9 2 = .ok (.lcmp, 1) := by decide +kernel
theorem dJ9_min_f86c9_3 : decode cJ9_min_f86c9 3 = .ok (.ifCond .gt 7, 3) := by decide +kernel
theorem dJ9_min_f86c9_6 : decode cJ9_min_f86c9 6 = .ok (.lload_n 0, 1) := by decide +kernel
theorem dJ9_min_f86c9_7 : decode cJ9_min_f86c9 7 = .ok (.goto 4, 3) := by decide +kernel
theorem dJ9_min_f86c9_10 : decode cJ9_min_f86c9 10 = .ok (.lload_n 2, 1) := by decide +kernel
theorem dJ9_min_f86c9_11 : decode cJ9_min_f86c9 11 = .ok (.lreturn, 1) := by decide +kernel
theorem dJ0_length_8abf5_0 : decode cJ0_length_8abf5 0 = .ok (.aload_n 0, 1) := by decide +kernel
theorem dJ0_length_8abf5_1 : decode cJ0_length_8abf5 1 = .ok (.getfield 9, 3) := by decide +kernel
theorem dJ0_length_8abf5_4 : decode cJ0_length_8abf5 4 = .ok (.arraylength, 1) := by decide +kernel
theorem dJ0_length_8abf5_5 : decode cJ0_length_8abf5 5 = .ok (.aload_n 0, 1) := by decide +kernel
theorem dJ0_length_8abf5_6 : decode cJ0_length_8abf5 6 = .ok (.invokevirtual 335, 3) := by decide +kernel
theorem dJ0_length_8abf5_9 : decode cJ0_length_8abf5 9 = .ok (.ishr, 1) := by decide +kernel
theorem dJ0_length_8abf5_10 : decode cJ0_length_8abf5 10 = .ok (.ireturn, 1) := by decide +kernel
theorem dJ0_charAt_5068e_0 : decode cJ0_charAt_5068e 0 = .ok (.aload_n 0, 1) := by decide +kernel
theorem dJ0_charAt_5068e_1 : decode cJ0_charAt_5068e 1 = .ok (.invokevirtual 492, 3) := by decide +kernel
theorem dJ0_charAt_5068e_4 : decode cJ0_charAt_5068e 4 = .ok (.ifCond .eq 12, 3) := by decide +kernel
theorem dJ0_charAt_5068e_7 : decode cJ0_charAt_5068e 7 = .ok (.aload_n 0, 1) := by decide +kernel
theorem dJ0_charAt_5068e_8 : decode cJ0_charAt_5068e 8 = .ok (.getfield 9, 3) := by decide +kernel
theorem dJ0_charAt_5068e_11 : decode cJ0_charAt_5068e 11 = .ok (.iload_n 1, 1) := by decide +kernel
theorem dJ0_charAt_5068e_12 : decode cJ0_charAt_5068e 12 = .ok (.invokestatic 495, 3) := by decide +kernel
theorem dJ0_charAt_5068e_15 : decode cJ0_charAt_5068e 15 = .ok (.ireturn, 1) := by decide +kernel
theorem dJ0_charAt_5068e_16 : decode cJ0_charAt_5068e 16 = .ok (.aload_n 0, 1) := by decide +kernel
theorem dJ0_charAt_5068e_17 : decode cJ0_charAt_5068e 17 = .ok (.getfield 9, 3) := by decide +kernel
theorem dJ0_charAt_5068e_20 : decode cJ0_charAt_5068e 20 = .ok (.iload_n 1, 1) := by decide +kernel
theorem dJ0_charAt_5068e_21 : decode cJ0_charAt_5068e 21 = .ok (.invokestatic 498, 3) := by decide +kernel
theorem dJ0_charAt_5068e_24 : decode cJ0_charAt_5068e 24 = .ok (.ireturn, 1) := by decide +kernel
theorem dJ0_coder_7d493_0 : decode cJ0_coder_7d493 0 = .ok (.getstatic 38, 3) := by decide +kernel
theorem dJ0_coder_7d493_3 : decode cJ0_coder_7d493 3 = .ok (.ifCond .eq 10, 3) := by decide +kernel
theorem dJ0_coder_7d493_6 : decode cJ0_coder_7d493 6 = .ok (.aload_n 0, 1) := by decide +kernel
theorem dJ0_coder_7d493_7 : decode cJ0_coder_7d493 7 = .ok (.getfield 15, 3) := by decide +kernel
theorem dJ0_coder_7d493_10 : decode cJ0_coder_7d493 10 = .ok (.goto 4, 3) := by decide +kernel
theorem dJ0_coder_7d493_13 : decode cJ0_coder_7d493 13 = .ok (.iconst 1, 1) := by decide +kernel
theorem dJ0_coder_7d493_14 : decode cJ0_coder_7d493 14 = .ok (.ireturn, 1) := by decide +kernel
theorem dJ0_isLatin1_aae02_0 : decode cJ0_isLatin1_aae02 0 = .ok (.getstatic 38, 3) := by decide +kernel
theorem dJ0_isLatin1_aae02_3 : decode cJ0_isLatin1_aae02 3 = .ok (.ifCond .eq 14, 3) := by decide +kernel
theorem dJ0_isLatin1_aae02_6 : decode cJ0_isLatin1_aae02 6 = .ok (.aload_n 0, 1) := by decide +kernel
theorem dJ0_isLatin1_aae02_7 : decode cJ0_isLatin1_aae02 7 = .ok (.getfield 15, 3) := by decide +kernel
theorem dJ0_isLatin1_aae02_10 : decode cJ0_isLatin1_aae02 10 = .ok (.ifCond .ne 7, 3) := by decide +kernel
theorem dJ0_isLatin1_aae02_13 : decode cJ0_isLatin1_aae02 13 = .ok (.iconst 1, 1) := by decide +kernel
theorem dJ0_isLatin1_aae02_14 : decode cJ0_isLatin1_aae02 14 = .ok (.goto 4, 3) := by decide +kernel
theorem dJ0_isLatin1_aae02_17 : decode cJ0_isLatin1_aae02 17 = .ok (.iconst 0, 1) := by decide +kernel
theorem dJ0_isLatin1_aae02_18 : decode cJ0_isLatin1_aae02 18 = .ok (.ireturn, 1) := by decide +kernel
theorem dJ0_checkIndex_df160_0 : decode cJ0_checkIndex_df160 0 = .ok (.iload_n 0, 1) := by decide +kernel
theorem dJ0_checkIndex_df160_1 : decode cJ0_checkIndex_df160 1 = .ok (.iload_n 1, 1) := by decide +kernel
theorem dJ0_checkIndex_df160_2 : decode cJ0_checkIndex_df160 2 = .ok (.getstatic 1053, 3) := by decide +kernel
theorem dJ0_checkIndex_df160_5 : decode cJ0_checkIndex_df160 5 = .ok (.invokestatic 1059, 3) := by decide +kernel
theorem dJ0_checkIndex_df160_8 : decode cJ0_checkIndex_df160 8 = .ok (.pop, 1) := by decide +kernel
theorem dJ0_checkIndex_df160_9 : decode cJ0_checkIndex_df160 9 = .ok (.return_, 1) := by decide +kernel
theorem dJ1_charAt_3b067_0 : decode cJ1_charAt_3b067 0 = .ok (.iload_n 1, 1) := by decide +kernel
theorem dJ1_charAt_3b067_1 : decode cJ1_charAt_3b067 1 = .ok (.aload_n 0, 1) := by decide +kernel
theorem dJ1_charAt_3b067_2 : decode cJ1_charAt_3b067 2 = .ok (.arraylength, 1) := by decide +kernel
theorem dJ1_charAt_3b067_3 : decode cJ1_charAt_3b067 3 = .ok (.invokestatic 9, 3) := by decide +kernel
theorem dJ1_charAt_3b067_6 : decode cJ1_charAt_3b067 6 = .ok (.aload_n 0, 1) := by decide +kernel
theorem dJ1_charAt_3b067_7 : decode cJ1_charAt_3b067 7 = .ok (.iload_n 1, 1) := by decide +kernel
theorem dJ1_charAt_3b067_8 : decode cJ1_charAt_3b067 8 = .ok (.baload, 1) := by decide +kernel
theorem dJ1_charAt_3b067_9 : decode cJ1_charAt_3b067 9 = .ok (.sipush 255, 3) := by decide +kernel
theorem dJ1_charAt_3b067_12 : decode cJ1_charAt_3b067 12 = .ok (.iand, 1) := by decide +kernel
theorem dJ1_charAt_3b067_13 : decode cJ1_charAt_3b067 13 = .ok (.i2c, 1) := by decide +kernel
theorem dJ1_charAt_3b067_14 : decode cJ1_charAt_3b067 14 = .ok (.ireturn, 1) := by decide +kernel
theorem dJ2_getChar_3b067_0 : decode cJ2_getChar_3b067 0 = .ok (.getstatic 44, 3) := by decide +kernel
theorem dJ2_getChar_3b067_3 : decode cJ2_getChar_3b067 3 = .ok (.ifCond .ne 25, 3) := by decide +kernel
theorem dJ2_getChar_3b067_6 : decode cJ2_getChar_3b067 6 = .ok (.iload_n 1, 1) := by decide +kernel
theorem dJ2_getChar_3b067_7 : decode cJ2_getChar_3b067 7 = .ok (.ifCond .lt 11, 3) := by decide +kernel
theorem dJ2_getChar_3b067_10 : decode cJ2_getChar_3b067 10 = .ok (.iload_n 1, 1) := by decide +kernel
theorem dJ2_getChar_3b067_11 : decode cJ2_getChar_3b067 11 = .ok (.aload_n 0, 1) := by decide +kernel
theorem dJ2_getChar_3b067_12 : decode cJ2_getChar_3b067 12 = .ok (.invokestatic 48, 3) := by decide +kernel
theorem dJ2_getChar_3b067_15 : decode cJ2_getChar_3b067 15 = .ok (.if_icmp .lt 13, 3) := by decide +kernel
theorem dJ2_getChar_3b067_18 : decode cJ2_getChar_3b067 18 = .ok (.new 52, 3) := by decide +kernel
theorem dJ2_getChar_3b067_21 : decode cJ2_getChar_3b067 21 = .ok (.dup, 1) := by decide +kernel
theorem dJ2_getChar_3b067_22 : decode cJ2_getChar_3b067 22 = .ok (.ldc 54, 2) := by decide +kernel
theorem dJ2_getChar_3b067_24 : decode cJ2_getChar_3b067 24 = .ok (.invokespecial 56, 3) := by decide +kernel
theorem dJ2_getChar_3b067_27 : decode cJ2_getChar_3b067 27 = .ok (.athrow, 1) := by decide +kernel
theorem dJ2_getChar_3b067_28 : decode cJ2_getChar_3b067 28 = .ok (.iload_n 1, 1) := by decide +kernel
theorem dJ2_getChar_3b067_29 : decode cJ2_getChar_3b067 29 = .ok (.iconst 1, 1) := by decide +kernel
theorem dJ2_getChar_3b067_30 : decode cJ2_getChar_3b067 30 = .ok (.ishl, 1) := by decide +kernel
theorem dJ2_getChar_3b067_31 : decode cJ2_getChar_3b067 31 = .ok (.istore_n 1, 1) := by decide +kernel
theorem dJ2_getChar_3b067_32 : decode cJ2_getChar_3b067 32 = .ok (.aload_n 0, 1) := by decide +kernel
theorem dJ2_getChar_3b067_33 : decode cJ2_getChar_3b067 33 = .ok (.iload_n 1, 1) := by decide +kernel
theorem dJ2_getChar_3b067_34 : decode cJ2_getChar_3b067 34 = .ok (.iinc 1 1, 3) := by decide +kernel
theorem dJ2_getChar_3b067_37 : decode cJ2_getChar_3b067 37 = .ok (.baload, 1) := by decide +kernel
theorem dJ2_getChar_3b067_38 : decode cJ2_getChar_3b067 38 = .ok (.sipush 255, 3) := by decide +kernel
theorem dJ2_getChar_3b067_41 : decode cJ2_getChar_3b067 41 = .ok (.iand, 1) := by decide +kernel
theorem dJ2_getChar_3b067_42 : decode cJ2_getChar_3b067 42 = .ok (.getstatic 59, 3) := by decide +kernel
theorem dJ2_getChar_3b067_45 : decode cJ2_getChar_3b067 45 = .ok (.ishl, 1) := by decide +kernel
theorem dJ2_getChar_3b067_46 : decode cJ2_getChar_3b067 46 = .ok (.aload_n 0, 1) := by decide +kernel
theorem dJ2_getChar_3b067_47 : decode cJ2_getChar_3b067 47 = .ok (.iload_n 1, 1) := by decide +kernel
theorem dJ2_getChar_3b067_48 : decode cJ2_getChar_3b067 48 = .ok (.baload, 1) := by decide +kernel
theorem dJ2_getChar_3b067_49 : decode cJ2_getChar_3b067 49 = .ok (.sipush 255, 3) := by decide +kernel
theorem dJ2_getChar_3b067_52 : decode cJ2_getChar_3b067 52 = .ok (.iand, 1) := by decide +kernel
theorem dJ2_getChar_3b067_53 : decode cJ2_getChar_3b067 53 = .ok (.getstatic 63, 3) := by decide +kernel
theorem dJ2_getChar_3b067_56 : decode cJ2_getChar_3b067 56 = .ok (.ishl, 1) := by decide +kernel
theorem dJ2_getChar_3b067_57 : decode cJ2_getChar_3b067 57 = .ok (.ior, 1) := by decide +kernel
theorem dJ2_getChar_3b067_58 : decode cJ2_getChar_3b067 58 = .ok (.i2c, 1) := by decide +kernel
theorem dJ2_getChar_3b067_59 : decode cJ2_getChar_3b067 59 = .ok (.ireturn, 1) := by decide +kernel
theorem dJ2_length_9d52b_0 : decode cJ2_length_9d52b 0 = .ok (.aload_n 0, 1) := by decide +kernel
theorem dJ2_length_9d52b_1 : decode cJ2_length_9d52b 1 = .ok (.arraylength, 1) := by decide +kernel
theorem dJ2_length_9d52b_2 : decode cJ2_length_9d52b 2 = .ok (.iconst 1, 1) := by decide +kernel
theorem dJ2_length_9d52b_3 : decode cJ2_length_9d52b 3 = .ok (.ishr, 1) := by decide +kernel
theorem dJ2_length_9d52b_4 : decode cJ2_length_9d52b 4 = .ok (.ireturn, 1) := by decide +kernel
theorem dJ2_charAt_3b067_0 : decode cJ2_charAt_3b067 0 = .ok (.iload_n 1, 1) := by decide +kernel
theorem dJ2_charAt_3b067_1 : decode cJ2_charAt_3b067 1 = .ok (.aload_n 0, 1) := by decide +kernel
theorem dJ2_charAt_3b067_2 : decode cJ2_charAt_3b067 2 = .ok (.invokestatic 67, 3) := by decide +kernel
theorem dJ2_charAt_3b067_5 : decode cJ2_charAt_3b067 5 = .ok (.aload_n 0, 1) := by decide +kernel
theorem dJ2_charAt_3b067_6 : decode cJ2_charAt_3b067 6 = .ok (.iload_n 1, 1) := by decide +kernel
theorem dJ2_charAt_3b067_7 : decode cJ2_charAt_3b067 7 = .ok (.invokestatic 71, 3) := by decide +kernel
theorem dJ2_charAt_3b067_10 : decode cJ2_charAt_3b067 10 = .ok (.ireturn, 1) := by decide +kernel
theorem dJ2_checkIndex_2214a_0 : decode cJ2_checkIndex_2214a 0 = .ok (.iload_n 0, 1) := by decide +kernel
theorem dJ2_checkIndex_2214a_1 : decode cJ2_checkIndex_2214a 1 = .ok (.aload_n 1, 1) := by decide +kernel
theorem dJ2_checkIndex_2214a_2 : decode cJ2_checkIndex_2214a 2 = .ok (.invokestatic 48, 3) := by decide +kernel
theorem dJ2_checkIndex_2214a_5 : decode cJ2_checkIndex_2214a 5 = .ok (.invokestatic 414, 3) := by decide +kernel
theorem dJ2_checkIndex_2214a_8 : decode cJ2_checkIndex_2214a 8 = .ok (.return_, 1) := by decide +kernel
theorem dJ7_fill_53178_0 : decode cJ7_fill_53178 0 = .ok (.iconst 0, 1) := by decide +kernel
theorem dJ7_fill_53178_1 : decode cJ7_fill_53178 1 = .ok (.istore_n 2, 1) := by decide +kernel
theorem dJ7_fill_53178_2 : decode cJ7_fill_53178 2 = .ok (.aload_n 0, 1) := by decide +kernel
theorem dJ7_fill_53178_3 : decode cJ7_fill_53178 3 = .ok (.arraylength, 1) := by decide +kernel
theorem dJ7_fill_53178_4 : decode cJ7_fill_53178 4 = .ok (.istore_n 3, 1) := by decide +kernel
theorem dJ7_fill_53178_5 : decode cJ7_fill_53178 5 = .ok (.iload_n 2, 1) := by decide +kernel
theorem dJ7_fill_53178_6 : decode cJ7_fill_53178 6 = .ok (.iload_n 3, 1) := by decide +kernel
theorem dJ7_fill_53178_7 : decode cJ7_fill_53178 7 = .ok (.if_icmp .ge 13, 3) := by decide +kernel
theorem dJ7_fill_53178_10 : decode cJ7_fill_53178 10 = .ok (.aload_n 0, 1) := by decide +kernel
theorem dJ7_fill_53178_11 : decode cJ7_fill_53178 11 = .ok (.iload_n 2, 1) := by decide +kernel
theorem dJ7_fill_53178_12 : decode cJ7_fill_53178 12 = .ok (.iload_n 1, 1) := by decide +kernel
theorem dJ7_fill_53178_13 : decode cJ7_fill_53178 13 = .ok (.iastore, 1) := by decide +kernel
theorem dJ7_fill_53178_14 : decode cJ7_fill_53178 14 = .ok (.iinc 2 1, 3) := by decide +kernel
theorem dJ7_fill_53178_17 : decode cJ7_fill_53178 17 = .ok (.goto (-12), 3) := by decide +kernel
theorem dJ7_fill_53178_20 : decode cJ7_fill_53178 20 = .ok (.return_, 1) := by decide +kernel
theorem dJ7_copyOf_9075b_0 : decode cJ7_copyOf_9075b 0 = .ok (.iload_n 1, 1) := by decide +kernel
theorem dJ7_copyOf_9075b_1 : decode cJ7_copyOf_9075b 1 = .ok (.aload_n 0, 1) := by decide +kernel
theorem dJ7_copyOf_9075b_2 : decode cJ7_copyOf_9075b 2 = .ok (.arraylength, 1) := by decide +kernel
theorem dJ7_copyOf_9075b_3 : decode cJ7_copyOf_9075b 3 = .ok (.if_icmp .ne 11, 3) := by decide +kernel
theorem dJ7_copyOf_9075b_6 : decode cJ7_copyOf_9075b 6 = .ok (.aload_n 0, 1) := by decide +kernel
theorem dJ7_copyOf_9075b_7 : decode cJ7_copyOf_9075b 7 = .ok (.invokevirtual 310, 3) := by decide +kernel
theorem dJ7_copyOf_9075b_10 : decode cJ7_copyOf_9075b 10 = .ok (.checkcast 311, 3) := by decide +kernel
theorem dJ7_copyOf_9075b_13 : decode cJ7_copyOf_9075b 13 = .ok (.areturn, 1) := by decide +kernel
theorem dJ7_copyOf_9075b_14 : decode cJ7_copyOf_9075b 14 = .ok (.iload_n 1, 1) := by decide +kernel
theorem dJ7_copyOf_9075b_15 : decode cJ7_copyOf_9075b 15 = .ok (.newarray .byte, 2) := by decide +kernel
theorem dJ7_copyOf_9075b_17 : decode cJ7_copyOf_9075b 17 = .ok (.astore_n 2, 1) := by decide +kernel
theorem dJ7_copyOf_9075b_18 : decode cJ7_copyOf_9075b 18 = .ok (.aload_n 0, 1) := by decide +kernel
theorem dJ7_copyOf_9075b_19 : decode cJ7_copyOf_9075b 19 = .ok (.iconst 0, 1) := by decide +kernel
theorem dJ7_copyOf_9075b_20 : decode cJ7_copyOf_9075b 20 = .ok (.aload_n 2, 1) := by decide +kernel
theorem dJ7_copyOf_9075b_21 : decode cJ7_copyOf_9075b 21 = .ok (.iconst 0, 1) := by decide +kernel
theorem dJ7_copyOf_9075b_22 : decode cJ7_copyOf_9075b 22 = .ok (.aload_n 0, 1) := by decide +kernel
theorem dJ7_copyOf_9075b_23 : decode cJ7_copyOf_9075b 23 = .ok (.arraylength, 1) := by decide +kernel
theorem dJ7_copyOf_9075b_24 : decode cJ7_copyOf_9075b 24 = .ok (.iload_n 1, 1) := by decide +kernel
theorem dJ7_copyOf_9075b_25 : decode cJ7_copyOf_9075b 25 = .ok (.invokestatic 304, 3) := by decide +kernel
theorem dJ7_copyOf_9075b_28 : decode cJ7_copyOf_9075b 28 = .ok (.invokestatic 150, 3) := by decide +kernel
theorem dJ7_copyOf_9075b_31 : decode cJ7_copyOf_9075b 31 = .ok (.aload_n 2, 1) := by decide +kernel
theorem dJ7_copyOf_9075b_32 : decode cJ7_copyOf_9075b 32 = .ok (.areturn, 1) := by decide +kernel
theorem dJ3_checkIndex_8e157_0 : decode cJ3_checkIndex_8e157 0 = .ok (.iload_n 0, 1) := by decide +kernel
theorem dJ3_checkIndex_8e157_1 : decode cJ3_checkIndex_8e157 1 = .ok (.ifCond .lt 8, 3) := by decide +kernel
theorem dJ3_checkIndex_8e157_4 : decode cJ3_checkIndex_8e157 4 = .ok (.iload_n 0, 1) := by decide +kernel
theorem dJ3_checkIndex_8e157_5 : decode cJ3_checkIndex_8e157 5 = .ok (.iload_n 1, 1) := by decide +kernel
theorem dJ3_checkIndex_8e157_6 : decode cJ3_checkIndex_8e157 6 = .ok (.if_icmp .lt 10, 3) := by decide +kernel
theorem dJ3_checkIndex_8e157_9 : decode cJ3_checkIndex_8e157 9 = .ok (.aload_n 2, 1) := by decide +kernel
theorem dJ3_checkIndex_8e157_10 : decode cJ3_checkIndex_8e157 10 = .ok (.iload_n 0, 1) := by decide +kernel
theorem dJ3_checkIndex_8e157_11 : decode cJ3_checkIndex_8e157 11 = .ok (.iload_n 1, 1) := by decide +kernel
theorem dJ3_checkIndex_8e157_12 : decode cJ3_checkIndex_8e157 12 = .ok (.invokestatic 95, 3) := by decide +kernel
theorem dJ3_checkIndex_8e157_15 : decode cJ3_checkIndex_8e157 15 = .ok (.athrow, 1) := by decide +kernel
theorem dJ3_checkIndex_8e157_16 : decode cJ3_checkIndex_8e157 16 = .ok (.iload_n 0, 1) := by decide +kernel
theorem dJ3_checkIndex_8e157_17 : decode cJ3_checkIndex_8e157 17 = .ok (.ireturn, 1) := by decide +kernel
theorem dL_law_0 : decode cL_law 0 = .ok (.new 7, 3) := by decide +kernel
theorem dL_law_3 : decode cL_law 3 = .ok (.dup, 1) := by decide +kernel
theorem dL_law_4 : decode cL_law 4 = .ok (.invokespecial 9, 3) := by decide +kernel
theorem dL_law_7 : decode cL_law 7 = .ok (.astore_n 1, 1) := by decide +kernel
theorem dL_law_8 : decode cL_law 8 = .ok (.new 10, 3) := by decide +kernel
theorem dL_law_11 : decode cL_law 11 = .ok (.dup, 1) := by decide +kernel
theorem dL_law_12 : decode cL_law 12 = .ok (.invokespecial 12, 3) := by decide +kernel
theorem dL_law_15 : decode cL_law 15 = .ok (.astore_n 2, 1) := by decide +kernel
theorem dL_law_16 : decode cL_law 16 = .ok (.iconst 0, 1) := by decide +kernel
theorem dL_law_17 : decode cL_law 17 = .ok (.istore_n 3, 1) := by decide +kernel
theorem dL_law_18 : decode cL_law 18 = .ok (.iload_n 3, 1) := by decide +kernel
theorem dL_law_19 : decode cL_law 19 = .ok (.aload_n 0, 1) := by decide +kernel
theorem dL_law_20 : decode cL_law 20 = .ok (.arraylength, 1) := by decide +kernel
theorem dL_law_21 : decode cL_law 21 = .ok (.iconst 5, 1) := by decide +kernel
theorem dL_law_22 : decode cL_law 22 = .ok (.isub, 1) := by decide +kernel
theorem dL_law_23 : decode cL_law 23 = .ok (.if_icmp .gt 633, 3) := by decide +kernel
theorem dL_law_26 : decode cL_law 26 = .ok (.aload_n 0, 1) := by decide +kernel
theorem dL_law_27 : decode cL_law 27 = .ok (.iload_n 3, 1) := by decide +kernel
theorem dL_law_28 : decode cL_law 28 = .ok (.iaload, 1) := by decide +kernel
theorem dL_law_29 : decode cL_law 29 = .ok (.bipush 31, 2) := by decide +kernel
theorem dL_law_31 : decode cL_law 31 = .ok (.iand, 1) := by decide +kernel
theorem dL_law_32 : decode cL_law 32 = .ok (.tableswitch 618 0 19 #[96, 149, 162, 185, 218, 251, 274, 307, 330, 363, 396, 409, 442, 466, 499, 522, 545, 568, 582, 595], 96) := by decide +kernel
theorem dL_law_128 : decode cL_law 128 = .ok (.aload_n 1, 1) := by decide +kernel
theorem dL_law_129 : decode cL_law 129 = .ok (.aload_n 0, 1) := by decide +kernel
theorem dL_law_130 : decode cL_law 130 = .ok (.iload_n 3, 1) := by decide +kernel
theorem dL_law_131 : decode cL_law 131 = .ok (.iconst 1, 1) := by decide +kernel
theorem dL_law_132 : decode cL_law 132 = .ok (.iadd, 1) := by decide +kernel
theorem dL_law_133 : decode cL_law 133 = .ok (.iaload, 1) := by decide +kernel
theorem dL_law_134 : decode cL_law 134 = .ok (.aload_n 0, 1) := by decide +kernel
theorem dL_law_135 : decode cL_law 135 = .ok (.iload_n 3, 1) := by decide +kernel
theorem dL_law_136 : decode cL_law 136 = .ok (.iconst 2, 1) := by decide +kernel
theorem dL_law_137 : decode cL_law 137 = .ok (.iadd, 1) := by decide +kernel
theorem dL_law_138 : decode cL_law 138 = .ok (.iaload, 1) := by decide +kernel
theorem dL_law_139 : decode cL_law 139 = .ok (.aload_n 0, 1) := by decide +kernel
theorem dL_law_140 : decode cL_law 140 = .ok (.iload_n 3, 1) := by decide +kernel
theorem dL_law_141 : decode cL_law 141 = .ok (.iconst 3, 1) := by decide +kernel
theorem dL_law_142 : decode cL_law 142 = .ok (.iadd, 1) := by decide +kernel
theorem dL_law_143 : decode cL_law 143 = .ok (.iaload, 1) := by decide +kernel
theorem dL_law_144 : decode cL_law 144 = .ok (.aload_n 0, 1) := by decide +kernel
theorem dL_law_145 : decode cL_law 145 = .ok (.iload_n 3, 1) := by decide +kernel
theorem dL_law_146 : decode cL_law 146 = .ok (.iconst 4, 1) := by decide +kernel
theorem dL_law_147 : decode cL_law 147 = .ok (.iadd, 1) := by decide +kernel
theorem dL_law_148 : decode cL_law 148 = .ok (.iaload, 1) := by decide +kernel
theorem dL_law_149 : decode cL_law 149 = .ok (.invokevirtual 13, 3) := by decide +kernel
theorem dL_law_152 : decode cL_law 152 = .ok (.aload_n 2, 1) := by decide +kernel
theorem dL_law_153 : decode cL_law 153 = .ok (.aload_n 0, 1) := by decide +kernel
theorem dL_law_154 : decode cL_law 154 = .ok (.iload_n 3, 1) := by decide +kernel
theorem dL_law_155 : decode cL_law 155 = .ok (.iconst 1, 1) := by decide +kernel
theorem dL_law_156 : decode cL_law 156 = .ok (.iadd, 1) := by decide +kernel
theorem dL_law_157 : decode cL_law 157 = .ok (.iaload, 1) := by decide +kernel
theorem dL_law_158 : decode cL_law 158 = .ok (.aload_n 0, 1) := by decide +kernel
theorem dL_law_159 : decode cL_law 159 = .ok (.iload_n 3, 1) := by decide +kernel
theorem dL_law_160 : decode cL_law 160 = .ok (.iconst 2, 1) := by decide +kernel
theorem dL_law_161 : decode cL_law 161 = .ok (.iadd, 1) := by decide +kernel
theorem dL_law_162 : decode cL_law 162 = .ok (.iaload, 1) := by decide +kernel
theorem dL_law_163 : decode cL_law 163 = .ok (.aload_n 0, 1) := by decide +kernel
theorem dL_law_164 : decode cL_law 164 = .ok (.iload_n 3, 1) := by decide +kernel
theorem dL_law_165 : decode cL_law 165 = .ok (.iconst 3, 1) := by decide +kernel
theorem dL_law_166 : decode cL_law 166 = .ok (.iadd, 1) := by decide +kernel
theorem dL_law_167 : decode cL_law 167 = .ok (.iaload, 1) := by decide +kernel
theorem dL_law_168 : decode cL_law 168 = .ok (.aload_n 0, 1) := by decide +kernel
theorem dL_law_169 : decode cL_law 169 = .ok (.iload_n 3, 1) := by decide +kernel
theorem dL_law_170 : decode cL_law 170 = .ok (.iconst 4, 1) := by decide +kernel
theorem dL_law_171 : decode cL_law 171 = .ok (.iadd, 1) := by decide +kernel
theorem dL_law_172 : decode cL_law 172 = .ok (.iaload, 1) := by decide +kernel
theorem dL_law_173 : decode cL_law 173 = .ok (.invokevirtual 17, 3) := by decide +kernel
theorem dL_law_176 : decode cL_law 176 = .ok (.if_icmp .eq 474, 3) := by decide +kernel
theorem dL_law_179 : decode cL_law 179 = .ok (.iconst 0, 1) := by decide +kernel
theorem dL_law_180 : decode cL_law 180 = .ok (.ireturn, 1) := by decide +kernel
theorem dL_law_181 : decode cL_law 181 = .ok (.aload_n 1, 1) := by decide +kernel
theorem dL_law_182 : decode cL_law 182 = .ok (.invokevirtual 18, 3) := by decide +kernel
theorem dL_law_185 : decode cL_law 185 = .ok (.aload_n 2, 1) := by decide +kernel
theorem dL_law_186 : decode cL_law 186 = .ok (.invokevirtual 22, 3) := by decide +kernel
theorem dL_law_189 : decode cL_law 189 = .ok (.if_icmp .eq 461, 3) := by decide +kernel
theorem dL_law_192 : decode cL_law 192 = .ok (.iconst 0, 1) := by decide +kernel
theorem dL_law_193 : decode cL_law 193 = .ok (.ireturn, 1) := by decide +kernel
theorem dL_law_194 : decode cL_law 194 = .ok (.aload_n 1, 1) := by decide +kernel
theorem dL_law_195 : decode cL_law 195 = .ok (.aload_n 0, 1) := by decide +kernel
theorem dL_law_196 : decode cL_law 196 = .ok (.iload_n 3, 1) := by decide +kernel
theorem dL_law_197 : decode cL_law 197 = .ok (.iconst 1, 1) := by decide +kernel
theorem dL_law_198 : decode cL_law 198 = .ok (.iadd, 1) := by decide +kernel
theorem dL_law_199 : decode cL_law 199 = .ok (.iaload, 1) := by decide +kernel
theorem dL_law_200 : decode cL_law 200 = .ok (.invokevirtual 23, 3) := by decide +kernel
theorem dL_law_203 : decode cL_law 203 = .ok (.aload_n 2, 1) := by decide +kernel
theorem dL_law_204 : decode cL_law 204 = .ok (.aload_n 0, 1) := by decide +kernel
theorem dL_law_205 : decode cL_law 205 = .ok (.iload_n 3, 1) := by decide +kernel
theorem dL_law_206 : decode cL_law 206 = .ok (.iconst 1, 1) := by decide +kernel
theorem dL_law_207 : decode cL_law 207 = .ok (.iadd, 1) := by decide +kernel
theorem dL_law_208 : decode cL_law 208 = .ok (.iaload, 1) := by decide +kernel
theorem dL_law_209 : decode cL_law 209 = .ok (.invokevirtual 27, 3) := by decide +kernel
theorem dL_law_212 : decode cL_law 212 = .ok (.if_icmp .eq 438, 3) := by decide +kernel
theorem dL_law_215 : decode cL_law 215 = .ok (.iconst 0, 1) := by decide +kernel
theorem dL_law_216 : decode cL_law 216 = .ok (.ireturn, 1) := by decide +kernel
theorem dL_law_217 : decode cL_law 217 = .ok (.aload_n 1, 1) := by decide +kernel
theorem dL_law_218 : decode cL_law 218 = .ok (.aload_n 0, 1) := by decide +kernel
theorem dL_law_219 : decode cL_law 219 = .ok (.iload_n 3, 1) := by decide +kernel
theorem dL_law_220 : decode cL_law 220 = .ok (.iconst 1, 1) := by decide +kernel
theorem dL_law_221 : decode cL_law 221 = .ok (.iadd, 1) := by decide +kernel
theorem dL_law_222 : decode cL_law 222 = .ok (.iaload, 1) := by decide +kernel
theorem dL_law_223 : decode cL_law 223 = .ok (.aload_n 0, 1) := by decide +kernel
theorem dL_law_224 : decode cL_law 224 = .ok (.iload_n 3, 1) := by decide +kernel
theorem dL_law_225 : decode cL_law 225 = .ok (.iconst 2, 1) := by decide +kernel
theorem dL_law_226 : decode cL_law 226 = .ok (.iadd, 1) := by decide +kernel
theorem dL_law_227 : decode cL_law 227 = .ok (.iaload, 1) := by decide +kernel
theorem dL_law_228 : decode cL_law 228 = .ok (.invokevirtual 28, 3) := by decide +kernel
theorem dL_law_231 : decode cL_law 231 = .ok (.aload_n 2, 1) := by decide +kernel
theorem dL_law_232 : decode cL_law 232 = .ok (.aload_n 0, 1) := by decide +kernel
theorem dL_law_233 : decode cL_law 233 = .ok (.iload_n 3, 1) := by decide +kernel
theorem dL_law_234 : decode cL_law 234 = .ok (.iconst 1, 1) := by decide +kernel
theorem dL_law_235 : decode cL_law 235 = .ok (.iadd, 1) := by decide +kernel
theorem dL_law_236 : decode cL_law 236 = .ok (.iaload, 1) := by decide +kernel
theorem dL_law_237 : decode cL_law 237 = .ok (.aload_n 0, 1) := by decide +kernel
theorem dL_law_238 : decode cL_law 238 = .ok (.iload_n 3, 1) := by decide +kernel
theorem dL_law_239 : decode cL_law 239 = .ok (.iconst 2, 1) := by decide +kernel
theorem dL_law_240 : decode cL_law 240 = .ok (.iadd, 1) := by decide +kernel
theorem dL_law_241 : decode cL_law 241 = .ok (.iaload, 1) := by decide +kernel
theorem dL_law_242 : decode cL_law 242 = .ok (.invokevirtual 32, 3) := by decide +kernel
theorem dL_law_245 : decode cL_law 245 = .ok (.if_icmp .eq 405, 3) := by decide +kernel
theorem dL_law_248 : decode cL_law 248 = .ok (.iconst 0, 1) := by decide +kernel
theorem dL_law_249 : decode cL_law 249 = .ok (.ireturn, 1) := by decide +kernel
theorem dL_law_250 : decode cL_law 250 = .ok (.aload_n 1, 1) := by decide +kernel
theorem dL_law_251 : decode cL_law 251 = .ok (.aload_n 0, 1) := by decide +kernel
theorem dL_law_252 : decode cL_law 252 = .ok (.iload_n 3, 1) := by decide +kernel
theorem dL_law_253 : decode cL_law 253 = .ok (.iconst 1, 1) := by decide +kernel
theorem dL_law_254 : decode cL_law 254 = .ok (.iadd, 1) := by decide +kernel
theorem dL_law_255 : decode cL_law 255 = .ok (.iaload, 1) := by decide +kernel
theorem dL_law_256 : decode cL_law 256 = .ok (.aload_n 0, 1) := by decide +kernel
theorem dL_law_257 : decode cL_law 257 = .ok (.iload_n 3, 1) := by decide +kernel
theorem dL_law_258 : decode cL_law 258 = .ok (.iconst 2, 1) := by decide +kernel
theorem dL_law_259 : decode cL_law 259 = .ok (.iadd, 1) := by decide +kernel
theorem dL_law_260 : decode cL_law 260 = .ok (.iaload, 1) := by decide +kernel
theorem dL_law_261 : decode cL_law 261 = .ok (.invokevirtual 33, 3) := by decide +kernel
theorem dL_law_264 : decode cL_law 264 = .ok (.aload_n 2, 1) := by decide +kernel
theorem dL_law_265 : decode cL_law 265 = .ok (.aload_n 0, 1) := by decide +kernel
theorem dL_law_266 : decode cL_law 266 = .ok (.iload_n 3, 1) := by decide +kernel
theorem dL_law_267 : decode cL_law 267 = .ok (.iconst 1, 1) := by decide +kernel
theorem dL_law_268 : decode cL_law 268 = .ok (.iadd, 1) := by decide +kernel
theorem dL_law_269 : decode cL_law 269 = .ok (.iaload, 1) := by decide +kernel
theorem dL_law_270 : decode cL_law 270 = .ok (.aload_n 0, 1) := by decide +kernel
theorem dL_law_271 : decode cL_law 271 = .ok (.iload_n 3, 1) := by decide +kernel
theorem dL_law_272 : decode cL_law 272 = .ok (.iconst 2, 1) := by decide +kernel
theorem dL_law_273 : decode cL_law 273 = .ok (.iadd, 1) := by decide +kernel
theorem dL_law_274 : decode cL_law 274 = .ok (.iaload, 1) := by decide +kernel
theorem dL_law_275 : decode cL_law 275 = .ok (.invokevirtual 36, 3) := by decide +kernel
theorem dL_law_278 : decode cL_law 278 = .ok (.if_icmp .eq 372, 3) := by decide +kernel
theorem dL_law_281 : decode cL_law 281 = .ok (.iconst 0, 1) := by decide +kernel
theorem dL_law_282 : decode cL_law 282 = .ok (.ireturn, 1) := by decide +kernel
theorem dL_law_283 : decode cL_law 283 = .ok (.aload_n 1, 1) := by decide +kernel
theorem dL_law_284 : decode cL_law 284 = .ok (.aload_n 0, 1) := by decide +kernel
theorem dL_law_285 : decode cL_law 285 = .ok (.iload_n 3, 1) := by decide +kernel
theorem dL_law_286 : decode cL_law 286 = .ok (.iconst 1, 1) := by decide +kernel
theorem dL_law_287 : decode cL_law 287 = .ok (.iadd, 1) := by decide +kernel
theorem dL_law_288 : decode cL_law 288 = .ok (.iaload, 1) := by decide +kernel
theorem dL_law_289 : decode cL_law 289 = .ok (.invokevirtual 37, 3) := by decide +kernel
theorem dL_law_292 : decode cL_law 292 = .ok (.aload_n 2, 1) := by decide +kernel
theorem dL_law_293 : decode cL_law 293 = .ok (.aload_n 0, 1) := by decide +kernel
theorem dL_law_294 : decode cL_law 294 = .ok (.iload_n 3, 1) := by decide +kernel
theorem dL_law_295 : decode cL_law 295 = .ok (.iconst 1, 1) := by decide +kernel
theorem dL_law_296 : decode cL_law 296 = .ok (.iadd, 1) := by decide +kernel
theorem dL_law_297 : decode cL_law 297 = .ok (.iaload, 1) := by decide +kernel
theorem dL_law_298 : decode cL_law 298 = .ok (.invokevirtual 40, 3) := by decide +kernel
theorem dL_law_301 : decode cL_law 301 = .ok (.if_icmp .eq 349, 3) := by decide +kernel
theorem dL_law_304 : decode cL_law 304 = .ok (.iconst 0, 1) := by decide +kernel
theorem dL_law_305 : decode cL_law 305 = .ok (.ireturn, 1) := by decide +kernel
theorem dL_law_306 : decode cL_law 306 = .ok (.aload_n 1, 1) := by decide +kernel
theorem dL_law_307 : decode cL_law 307 = .ok (.aload_n 0, 1) := by decide +kernel
theorem dL_law_308 : decode cL_law 308 = .ok (.iload_n 3, 1) := by decide +kernel
theorem dL_law_309 : decode cL_law 309 = .ok (.iconst 1, 1) := by decide +kernel
theorem dL_law_310 : decode cL_law 310 = .ok (.iadd, 1) := by decide +kernel
theorem dL_law_311 : decode cL_law 311 = .ok (.iaload, 1) := by decide +kernel
theorem dL_law_312 : decode cL_law 312 = .ok (.aload_n 0, 1) := by decide +kernel
theorem dL_law_313 : decode cL_law 313 = .ok (.iload_n 3, 1) := by decide +kernel
theorem dL_law_314 : decode cL_law 314 = .ok (.iconst 2, 1) := by decide +kernel
theorem dL_law_315 : decode cL_law 315 = .ok (.iadd, 1) := by decide +kernel
theorem dL_law_316 : decode cL_law 316 = .ok (.iaload, 1) := by decide +kernel
theorem dL_law_317 : decode cL_law 317 = .ok (.invokevirtual 41, 3) := by decide +kernel
theorem dL_law_320 : decode cL_law 320 = .ok (.aload_n 2, 1) := by decide +kernel
theorem dL_law_321 : decode cL_law 321 = .ok (.aload_n 0, 1) := by decide +kernel
theorem dL_law_322 : decode cL_law 322 = .ok (.iload_n 3, 1) := by decide +kernel
theorem dL_law_323 : decode cL_law 323 = .ok (.iconst 1, 1) := by decide +kernel
theorem dL_law_324 : decode cL_law 324 = .ok (.iadd, 1) := by decide +kernel
theorem dL_law_325 : decode cL_law 325 = .ok (.iaload, 1) := by decide +kernel
theorem dL_law_326 : decode cL_law 326 = .ok (.aload_n 0, 1) := by decide +kernel
theorem dL_law_327 : decode cL_law 327 = .ok (.iload_n 3, 1) := by decide +kernel
theorem dL_law_328 : decode cL_law 328 = .ok (.iconst 2, 1) := by decide +kernel
theorem dL_law_329 : decode cL_law 329 = .ok (.iadd, 1) := by decide +kernel
theorem dL_law_330 : decode cL_law 330 = .ok (.iaload, 1) := by decide +kernel
theorem dL_law_331 : decode cL_law 331 = .ok (.invokevirtual 44, 3) := by decide +kernel
theorem dL_law_334 : decode cL_law 334 = .ok (.if_icmp .eq 316, 3) := by decide +kernel
theorem dL_law_337 : decode cL_law 337 = .ok (.iconst 0, 1) := by decide +kernel
theorem dL_law_338 : decode cL_law 338 = .ok (.ireturn, 1) := by decide +kernel
theorem dL_law_339 : decode cL_law 339 = .ok (.aload_n 1, 1) := by decide +kernel
theorem dL_law_340 : decode cL_law 340 = .ok (.aload_n 0, 1) := by decide +kernel
theorem dL_law_341 : decode cL_law 341 = .ok (.iload_n 3, 1) := by decide +kernel
theorem dL_law_342 : decode cL_law 342 = .ok (.iconst 1, 1) := by decide +kernel
theorem dL_law_343 : decode cL_law 343 = .ok (.iadd, 1) := by decide +kernel
theorem dL_law_344 : decode cL_law 344 = .ok (.iaload, 1) := by decide +kernel
theorem dL_law_345 : decode cL_law 345 = .ok (.invokevirtual 45, 3) := by decide +kernel
theorem dL_law_348 : decode cL_law 348 = .ok (.aload_n 2, 1) := by decide +kernel
theorem dL_law_349 : decode cL_law 349 = .ok (.aload_n 0, 1) := by decide +kernel
theorem dL_law_350 : decode cL_law 350 = .ok (.iload_n 3, 1) := by decide +kernel
theorem dL_law_351 : decode cL_law 351 = .ok (.iconst 1, 1) := by decide +kernel
theorem dL_law_352 : decode cL_law 352 = .ok (.iadd, 1) := by decide +kernel
theorem dL_law_353 : decode cL_law 353 = .ok (.iaload, 1) := by decide +kernel
theorem dL_law_354 : decode cL_law 354 = .ok (.invokevirtual 48, 3) := by decide +kernel
theorem dL_law_357 : decode cL_law 357 = .ok (.if_icmp .eq 293, 3) := by decide +kernel
theorem dL_law_360 : decode cL_law 360 = .ok (.iconst 0, 1) := by decide +kernel
theorem dL_law_361 : decode cL_law 361 = .ok (.ireturn, 1) := by decide +kernel
theorem dL_law_362 : decode cL_law 362 = .ok (.aload_n 1, 1) := by decide +kernel
theorem dL_law_363 : decode cL_law 363 = .ok (.aload_n 0, 1) := by decide +kernel
theorem dL_law_364 : decode cL_law 364 = .ok (.iload_n 3, 1) := by decide +kernel
theorem dL_law_365 : decode cL_law 365 = .ok (.iconst 1, 1) := by decide +kernel
theorem dL_law_366 : decode cL_law 366 = .ok (.iadd, 1) := by decide +kernel
theorem dL_law_367 : decode cL_law 367 = .ok (.iaload, 1) := by decide +kernel
theorem dL_law_368 : decode cL_law 368 = .ok (.aload_n 0, 1) := by decide +kernel
theorem dL_law_369 : decode cL_law 369 = .ok (.iload_n 3, 1) := by decide +kernel
theorem dL_law_370 : decode cL_law 370 = .ok (.iconst 2, 1) := by decide +kernel
theorem dL_law_371 : decode cL_law 371 = .ok (.iadd, 1) := by decide +kernel
theorem dL_law_372 : decode cL_law 372 = .ok (.iaload, 1) := by decide +kernel
theorem dL_law_373 : decode cL_law 373 = .ok (.invokevirtual 49, 3) := by decide +kernel
theorem dL_law_376 : decode cL_law 376 = .ok (.aload_n 2, 1) := by decide +kernel
theorem dL_law_377 : decode cL_law 377 = .ok (.aload_n 0, 1) := by decide +kernel
theorem dL_law_378 : decode cL_law 378 = .ok (.iload_n 3, 1) := by decide +kernel
theorem dL_law_379 : decode cL_law 379 = .ok (.iconst 1, 1) := by decide +kernel
theorem dL_law_380 : decode cL_law 380 = .ok (.iadd, 1) := by decide +kernel
theorem dL_law_381 : decode cL_law 381 = .ok (.iaload, 1) := by decide +kernel
theorem dL_law_382 : decode cL_law 382 = .ok (.aload_n 0, 1) := by decide +kernel
theorem dL_law_383 : decode cL_law 383 = .ok (.iload_n 3, 1) := by decide +kernel
theorem dL_law_384 : decode cL_law 384 = .ok (.iconst 2, 1) := by decide +kernel
theorem dL_law_385 : decode cL_law 385 = .ok (.iadd, 1) := by decide +kernel
theorem dL_law_386 : decode cL_law 386 = .ok (.iaload, 1) := by decide +kernel
theorem dL_law_387 : decode cL_law 387 = .ok (.invokevirtual 52, 3) := by decide +kernel
theorem dL_law_390 : decode cL_law 390 = .ok (.if_icmp .eq 260, 3) := by decide +kernel
theorem dL_law_393 : decode cL_law 393 = .ok (.iconst 0, 1) := by decide +kernel
theorem dL_law_394 : decode cL_law 394 = .ok (.ireturn, 1) := by decide +kernel
theorem dL_law_395 : decode cL_law 395 = .ok (.aload_n 1, 1) := by decide +kernel
theorem dL_law_396 : decode cL_law 396 = .ok (.aload_n 0, 1) := by decide +kernel
theorem dL_law_397 : decode cL_law 397 = .ok (.iload_n 3, 1) := by decide +kernel
theorem dL_law_398 : decode cL_law 398 = .ok (.iconst 1, 1) := by decide +kernel
theorem dL_law_399 : decode cL_law 399 = .ok (.iadd, 1) := by decide +kernel
theorem dL_law_400 : decode cL_law 400 = .ok (.iaload, 1) := by decide +kernel
theorem dL_law_401 : decode cL_law 401 = .ok (.aload_n 0, 1) := by decide +kernel
theorem dL_law_402 : decode cL_law 402 = .ok (.iload_n 3, 1) := by decide +kernel
theorem dL_law_403 : decode cL_law 403 = .ok (.iconst 2, 1) := by decide +kernel
theorem dL_law_404 : decode cL_law 404 = .ok (.iadd, 1) := by decide +kernel
theorem dL_law_405 : decode cL_law 405 = .ok (.iaload, 1) := by decide +kernel
theorem dL_law_406 : decode cL_law 406 = .ok (.invokevirtual 53, 3) := by decide +kernel
theorem dL_law_409 : decode cL_law 409 = .ok (.aload_n 2, 1) := by decide +kernel
theorem dL_law_410 : decode cL_law 410 = .ok (.aload_n 0, 1) := by decide +kernel
theorem dL_law_411 : decode cL_law 411 = .ok (.iload_n 3, 1) := by decide +kernel
theorem dL_law_412 : decode cL_law 412 = .ok (.iconst 1, 1) := by decide +kernel
theorem dL_law_413 : decode cL_law 413 = .ok (.iadd, 1) := by decide +kernel
theorem dL_law_414 : decode cL_law 414 = .ok (.iaload, 1) := by decide +kernel
theorem dL_law_415 : decode cL_law 415 = .ok (.aload_n 0, 1) := by decide +kernel
theorem dL_law_416 : decode cL_law 416 = .ok (.iload_n 3, 1) := by decide +kernel
theorem dL_law_417 : decode cL_law 417 = .ok (.iconst 2, 1) := by decide +kernel
theorem dL_law_418 : decode cL_law 418 = .ok (.iadd, 1) := by decide +kernel
theorem dL_law_419 : decode cL_law 419 = .ok (.iaload, 1) := by decide +kernel
theorem dL_law_420 : decode cL_law 420 = .ok (.invokevirtual 56, 3) := by decide +kernel
theorem dL_law_423 : decode cL_law 423 = .ok (.if_icmp .eq 227, 3) := by decide +kernel
theorem dL_law_426 : decode cL_law 426 = .ok (.iconst 0, 1) := by decide +kernel
theorem dL_law_427 : decode cL_law 427 = .ok (.ireturn, 1) := by decide +kernel
theorem dL_law_428 : decode cL_law 428 = .ok (.aload_n 1, 1) := by decide +kernel
theorem dL_law_429 : decode cL_law 429 = .ok (.invokevirtual 57, 3) := by decide +kernel
theorem dL_law_432 : decode cL_law 432 = .ok (.aload_n 2, 1) := by decide +kernel
theorem dL_law_433 : decode cL_law 433 = .ok (.invokevirtual 60, 3) := by decide +kernel
theorem dL_law_436 : decode cL_law 436 = .ok (.if_icmp .eq 214, 3) := by decide +kernel
theorem dL_law_439 : decode cL_law 439 = .ok (.iconst 0, 1) := by decide +kernel
theorem dL_law_440 : decode cL_law 440 = .ok (.ireturn, 1) := by decide +kernel
theorem dL_law_441 : decode cL_law 441 = .ok (.aload_n 1, 1) := by decide +kernel
theorem dL_law_442 : decode cL_law 442 = .ok (.aload_n 0, 1) := by decide +kernel
theorem dL_law_443 : decode cL_law 443 = .ok (.iload_n 3, 1) := by decide +kernel
theorem dL_law_444 : decode cL_law 444 = .ok (.iconst 1, 1) := by decide +kernel
theorem dL_law_445 : decode cL_law 445 = .ok (.iadd, 1) := by decide +kernel
theorem dL_law_446 : decode cL_law 446 = .ok (.iaload, 1) := by decide +kernel
theorem dL_law_447 : decode cL_law 447 = .ok (.aload_n 0, 1) := by decide +kernel
theorem dL_law_448 : decode cL_law 448 = .ok (.iload_n 3, 1) := by decide +kernel
theorem dL_law_449 : decode cL_law 449 = .ok (.iconst 2, 1) := by decide +kernel
theorem dL_law_450 : decode cL_law 450 = .ok (.iadd, 1) := by decide +kernel
theorem dL_law_451 : decode cL_law 451 = .ok (.iaload, 1) := by decide +kernel
theorem dL_law_452 : decode cL_law 452 = .ok (.invokevirtual 61, 3) := by decide +kernel
theorem dL_law_455 : decode cL_law 455 = .ok (.aload_n 2, 1) := by decide +kernel
theorem dL_law_456 : decode cL_law 456 = .ok (.aload_n 0, 1) := by decide +kernel
theorem dL_law_457 : decode cL_law 457 = .ok (.iload_n 3, 1) := by decide +kernel
theorem dL_law_458 : decode cL_law 458 = .ok (.iconst 1, 1) := by decide +kernel
theorem dL_law_459 : decode cL_law 459 = .ok (.iadd, 1) := by decide +kernel
theorem dL_law_460 : decode cL_law 460 = .ok (.iaload, 1) := by decide +kernel
theorem dL_law_461 : decode cL_law 461 = .ok (.aload_n 0, 1) := by decide +kernel
theorem dL_law_462 : decode cL_law 462 = .ok (.iload_n 3, 1) := by decide +kernel
theorem dL_law_463 : decode cL_law 463 = .ok (.iconst 2, 1) := by decide +kernel
theorem dL_law_464 : decode cL_law 464 = .ok (.iadd, 1) := by decide +kernel
theorem dL_law_465 : decode cL_law 465 = .ok (.iaload, 1) := by decide +kernel
theorem dL_law_466 : decode cL_law 466 = .ok (.invokevirtual 64, 3) := by decide +kernel
theorem dL_law_469 : decode cL_law 469 = .ok (.if_icmp .eq 181, 3) := by decide +kernel
theorem dL_law_472 : decode cL_law 472 = .ok (.iconst 0, 1) := by decide +kernel
theorem dL_law_473 : decode cL_law 473 = .ok (.ireturn, 1) := by decide +kernel
theorem dL_law_474 : decode cL_law 474 = .ok (.aload_n 1, 1) := by decide +kernel
theorem dL_law_475 : decode cL_law 475 = .ok (.aload_n 0, 1) := by decide +kernel
theorem dL_law_476 : decode cL_law 476 = .ok (.iload_n 3, 1) := by decide +kernel
theorem dL_law_477 : decode cL_law 477 = .ok (.iconst 1, 1) := by decide +kernel
theorem dL_law_478 : decode cL_law 478 = .ok (.iadd, 1) := by decide +kernel
theorem dL_law_479 : decode cL_law 479 = .ok (.iaload, 1) := by decide +kernel
theorem dL_law_480 : decode cL_law 480 = .ok (.invokevirtual 65, 3) := by decide +kernel
theorem dL_law_483 : decode cL_law 483 = .ok (.aload_n 2, 1) := by decide +kernel
theorem dL_law_484 : decode cL_law 484 = .ok (.aload_n 0, 1) := by decide +kernel
theorem dL_law_485 : decode cL_law 485 = .ok (.iload_n 3, 1) := by decide +kernel
theorem dL_law_486 : decode cL_law 486 = .ok (.iconst 1, 1) := by decide +kernel
theorem dL_law_487 : decode cL_law 487 = .ok (.iadd, 1) := by decide +kernel
theorem dL_law_488 : decode cL_law 488 = .ok (.iaload, 1) := by decide +kernel
theorem dL_law_489 : decode cL_law 489 = .ok (.invokevirtual 69, 3) := by decide +kernel
theorem dL_law_492 : decode cL_law 492 = .ok (.lcmp, 1) := by decide +kernel
theorem dL_law_493 : decode cL_law 493 = .ok (.ifCond .eq 157, 3) := by decide +kernel
theorem dL_law_496 : decode cL_law 496 = .ok (.iconst 0, 1) := by decide +kernel
theorem dL_law_497 : decode cL_law 497 = .ok (.ireturn, 1) := by decide +kernel
theorem dL_law_498 : decode cL_law 498 = .ok (.aload_n 1, 1) := by decide +kernel
theorem dL_law_499 : decode cL_law 499 = .ok (.aload_n 0, 1) := by decide +kernel
theorem dL_law_500 : decode cL_law 500 = .ok (.iload_n 3, 1) := by decide +kernel
theorem dL_law_501 : decode cL_law 501 = .ok (.iconst 1, 1) := by decide +kernel
theorem dL_law_502 : decode cL_law 502 = .ok (.iadd, 1) := by decide +kernel
theorem dL_law_503 : decode cL_law 503 = .ok (.iaload, 1) := by decide +kernel
theorem dL_law_504 : decode cL_law 504 = .ok (.aload_n 0, 1) := by decide +kernel
theorem dL_law_505 : decode cL_law 505 = .ok (.iload_n 3, 1) := by decide +kernel
theorem dL_law_506 : decode cL_law 506 = .ok (.iconst 2, 1) := by decide +kernel
theorem dL_law_507 : decode cL_law 507 = .ok (.iadd, 1) := by decide +kernel
theorem dL_law_508 : decode cL_law 508 = .ok (.iaload, 1) := by decide +kernel
theorem dL_law_509 : decode cL_law 509 = .ok (.invokevirtual 70, 3) := by decide +kernel
theorem dL_law_512 : decode cL_law 512 = .ok (.aload_n 2, 1) := by decide +kernel
theorem dL_law_513 : decode cL_law 513 = .ok (.aload_n 0, 1) := by decide +kernel
theorem dL_law_514 : decode cL_law 514 = .ok (.iload_n 3, 1) := by decide +kernel
theorem dL_law_515 : decode cL_law 515 = .ok (.iconst 1, 1) := by decide +kernel
theorem dL_law_516 : decode cL_law 516 = .ok (.iadd, 1) := by decide +kernel
theorem dL_law_517 : decode cL_law 517 = .ok (.iaload, 1) := by decide +kernel
theorem dL_law_518 : decode cL_law 518 = .ok (.aload_n 0, 1) := by decide +kernel
theorem dL_law_519 : decode cL_law 519 = .ok (.iload_n 3, 1) := by decide +kernel
theorem dL_law_520 : decode cL_law 520 = .ok (.iconst 2, 1) := by decide +kernel
theorem dL_law_521 : decode cL_law 521 = .ok (.iadd, 1) := by decide +kernel
theorem dL_law_522 : decode cL_law 522 = .ok (.iaload, 1) := by decide +kernel
theorem dL_law_523 : decode cL_law 523 = .ok (.invokevirtual 73, 3) := by decide +kernel
theorem dL_law_526 : decode cL_law 526 = .ok (.if_icmp .eq 124, 3) := by decide +kernel
theorem dL_law_529 : decode cL_law 529 = .ok (.iconst 0, 1) := by decide +kernel
theorem dL_law_530 : decode cL_law 530 = .ok (.ireturn, 1) := by decide +kernel
theorem dL_law_531 : decode cL_law 531 = .ok (.aload_n 1, 1) := by decide +kernel
theorem dL_law_532 : decode cL_law 532 = .ok (.aload_n 0, 1) := by decide +kernel
theorem dL_law_533 : decode cL_law 533 = .ok (.iload_n 3, 1) := by decide +kernel
theorem dL_law_534 : decode cL_law 534 = .ok (.iconst 1, 1) := by decide +kernel
theorem dL_law_535 : decode cL_law 535 = .ok (.iadd, 1) := by decide +kernel
theorem dL_law_536 : decode cL_law 536 = .ok (.iaload, 1) := by decide +kernel
theorem dL_law_537 : decode cL_law 537 = .ok (.invokevirtual 74, 3) := by decide +kernel
theorem dL_law_540 : decode cL_law 540 = .ok (.aload_n 2, 1) := by decide +kernel
theorem dL_law_541 : decode cL_law 541 = .ok (.aload_n 0, 1) := by decide +kernel
theorem dL_law_542 : decode cL_law 542 = .ok (.iload_n 3, 1) := by decide +kernel
theorem dL_law_543 : decode cL_law 543 = .ok (.iconst 1, 1) := by decide +kernel
theorem dL_law_544 : decode cL_law 544 = .ok (.iadd, 1) := by decide +kernel
theorem dL_law_545 : decode cL_law 545 = .ok (.iaload, 1) := by decide +kernel
theorem dL_law_546 : decode cL_law 546 = .ok (.invokevirtual 77, 3) := by decide +kernel
theorem dL_law_549 : decode cL_law 549 = .ok (.if_icmp .eq 101, 3) := by decide +kernel
theorem dL_law_552 : decode cL_law 552 = .ok (.iconst 0, 1) := by decide +kernel
theorem dL_law_553 : decode cL_law 553 = .ok (.ireturn, 1) := by decide +kernel
theorem dL_law_554 : decode cL_law 554 = .ok (.aload_n 1, 1) := by decide +kernel
theorem dL_law_555 : decode cL_law 555 = .ok (.aload_n 0, 1) := by decide +kernel
theorem dL_law_556 : decode cL_law 556 = .ok (.iload_n 3, 1) := by decide +kernel
theorem dL_law_557 : decode cL_law 557 = .ok (.iconst 1, 1) := by decide +kernel
theorem dL_law_558 : decode cL_law 558 = .ok (.iadd, 1) := by decide +kernel
theorem dL_law_559 : decode cL_law 559 = .ok (.iaload, 1) := by decide +kernel
theorem dL_law_560 : decode cL_law 560 = .ok (.invokevirtual 78, 3) := by decide +kernel
theorem dL_law_563 : decode cL_law 563 = .ok (.aload_n 2, 1) := by decide +kernel
theorem dL_law_564 : decode cL_law 564 = .ok (.aload_n 0, 1) := by decide +kernel
theorem dL_law_565 : decode cL_law 565 = .ok (.iload_n 3, 1) := by decide +kernel
theorem dL_law_566 : decode cL_law 566 = .ok (.iconst 1, 1) := by decide +kernel
theorem dL_law_567 : decode cL_law 567 = .ok (.iadd, 1) := by decide +kernel
theorem dL_law_568 : decode cL_law 568 = .ok (.iaload, 1) := by decide +kernel
theorem dL_law_569 : decode cL_law 569 = .ok (.invokevirtual 81, 3) := by decide +kernel
theorem dL_law_572 : decode cL_law 572 = .ok (.if_icmp .eq 78, 3) := by decide +kernel
theorem dL_law_575 : decode cL_law 575 = .ok (.iconst 0, 1) := by decide +kernel
theorem dL_law_576 : decode cL_law 576 = .ok (.ireturn, 1) := by decide +kernel
theorem dL_law_577 : decode cL_law 577 = .ok (.aload_n 1, 1) := by decide +kernel
theorem dL_law_578 : decode cL_law 578 = .ok (.aload_n 0, 1) := by decide +kernel
theorem dL_law_579 : decode cL_law 579 = .ok (.iload_n 3, 1) := by decide +kernel
theorem dL_law_580 : decode cL_law 580 = .ok (.iconst 1, 1) := by decide +kernel
theorem dL_law_581 : decode cL_law 581 = .ok (.iadd, 1) := by decide +kernel
theorem dL_law_582 : decode cL_law 582 = .ok (.iaload, 1) := by decide +kernel
theorem dL_law_583 : decode cL_law 583 = .ok (.invokevirtual 82, 3) := by decide +kernel
theorem dL_law_586 : decode cL_law 586 = .ok (.aload_n 2, 1) := by decide +kernel
theorem dL_law_587 : decode cL_law 587 = .ok (.aload_n 0, 1) := by decide +kernel
theorem dL_law_588 : decode cL_law 588 = .ok (.iload_n 3, 1) := by decide +kernel
theorem dL_law_589 : decode cL_law 589 = .ok (.iconst 1, 1) := by decide +kernel
theorem dL_law_590 : decode cL_law 590 = .ok (.iadd, 1) := by decide +kernel
theorem dL_law_591 : decode cL_law 591 = .ok (.iaload, 1) := by decide +kernel
theorem dL_law_592 : decode cL_law 592 = .ok (.invokevirtual 85, 3) := by decide +kernel
theorem dL_law_595 : decode cL_law 595 = .ok (.if_icmp .eq 55, 3) := by decide +kernel
theorem dL_law_598 : decode cL_law 598 = .ok (.iconst 0, 1) := by decide +kernel
theorem dL_law_599 : decode cL_law 599 = .ok (.ireturn, 1) := by decide +kernel
theorem dL_law_600 : decode cL_law 600 = .ok (.aload_n 1, 1) := by decide +kernel
theorem dL_law_601 : decode cL_law 601 = .ok (.invokevirtual 86, 3) := by decide +kernel
theorem dL_law_604 : decode cL_law 604 = .ok (.aload_n 2, 1) := by decide +kernel
theorem dL_law_605 : decode cL_law 605 = .ok (.invokevirtual 90, 3) := by decide +kernel
theorem dL_law_608 : decode cL_law 608 = .ok (.lcmp, 1) := by decide +kernel
theorem dL_law_609 : decode cL_law 609 = .ok (.ifCond .eq 41, 3) := by decide +kernel
theorem dL_law_612 : decode cL_law 612 = .ok (.iconst 0, 1) := by decide +kernel
theorem dL_law_613 : decode cL_law 613 = .ok (.ireturn, 1) := by decide +kernel
theorem dL_law_614 : decode cL_law 614 = .ok (.aload_n 1, 1) := by decide +kernel
theorem dL_law_615 : decode cL_law 615 = .ok (.invokevirtual 91, 3) := by decide +kernel
theorem dL_law_618 : decode cL_law 618 = .ok (.aload_n 2, 1) := by decide +kernel
theorem dL_law_619 : decode cL_law 619 = .ok (.invokevirtual 94, 3) := by decide +kernel
theorem dL_law_622 : decode cL_law 622 = .ok (.if_icmp .eq 28, 3) := by decide +kernel
theorem dL_law_625 : decode cL_law 625 = .ok (.iconst 0, 1) := by decide +kernel
theorem dL_law_626 : decode cL_law 626 = .ok (.ireturn, 1) := by decide +kernel
theorem dL_law_627 : decode cL_law 627 = .ok (.aload_n 1, 1) := by decide +kernel
theorem dL_law_628 : decode cL_law 628 = .ok (.aload_n 0, 1) := by decide +kernel
theorem dL_law_629 : decode cL_law 629 = .ok (.iload_n 3, 1) := by decide +kernel
theorem dL_law_630 : decode cL_law 630 = .ok (.iconst 1, 1) := by decide +kernel
theorem dL_law_631 : decode cL_law 631 = .ok (.iadd, 1) := by decide +kernel
theorem dL_law_632 : decode cL_law 632 = .ok (.iaload, 1) := by decide +kernel
theorem dL_law_633 : decode cL_law 633 = .ok (.invokevirtual 95, 3) := by decide +kernel
theorem dL_law_636 : decode cL_law 636 = .ok (.aload_n 2, 1) := by decide +kernel
theorem dL_law_637 : decode cL_law 637 = .ok (.aload_n 0, 1) := by decide +kernel
theorem dL_law_638 : decode cL_law 638 = .ok (.iload_n 3, 1) := by decide +kernel
theorem dL_law_639 : decode cL_law 639 = .ok (.iconst 1, 1) := by decide +kernel
theorem dL_law_640 : decode cL_law 640 = .ok (.iadd, 1) := by decide +kernel
theorem dL_law_641 : decode cL_law 641 = .ok (.iaload, 1) := by decide +kernel
theorem dL_law_642 : decode cL_law 642 = .ok (.invokevirtual 98, 3) := by decide +kernel
theorem dL_law_645 : decode cL_law 645 = .ok (.if_icmp .eq 5, 3) := by decide +kernel
theorem dL_law_648 : decode cL_law 648 = .ok (.iconst 0, 1) := by decide +kernel
theorem dL_law_649 : decode cL_law 649 = .ok (.ireturn, 1) := by decide +kernel
theorem dL_law_650 : decode cL_law 650 = .ok (.iinc 3 5, 3) := by decide +kernel
theorem dL_law_653 : decode cL_law 653 = .ok (.goto (-635), 3) := by decide +kernel
theorem dL_law_656 : decode cL_law 656 = .ok (.iconst 1, 1) := by decide +kernel
theorem dL_law_657 : decode cL_law 657 = .ok (.ireturn, 1) := by decide +kernel
abbrev vwCl : List vw_C := [(RX0, TX0, 10), (RX1, TX1, 14), (RX2, TX2, 5), (RX3, TX3, 2), (RX4, TX4, 4), (RX5, TX5, 13), (RX6, TX6, 41)]
end
section
/-! an abstract machine over the kit's rows: cells by number, locals as a list, a contract a method -/
abbrev xC : Type := (Nat × Nat × (Nat → Int32)) ⊕ ((Nat × (Nat → Int64)) ⊕ (Nat × List Value))
abbrev xH : Type := (Nat → xC) × Nat
abbrev xG : Type := Launch × Heap × va_G × (Nat → ClassId) × (Nat → Nat) × Nat × (Nat → Int32)
abbrev xM : Type := String × MethodName × ByteArray × Nat × Option FieldType
abbrev cI (t n : Nat) (f : Nat → Int32) : xC := .inl (t, n, f)
abbrev cJ (n : Nat) (f : Nat → Int64) : xC := .inr (.inl (n, f))
abbrev cO (ci : Nat) (fs : List Value) : xC := .inr (.inr (ci, fs))
def x_B (G : xG) : Nat := G.2.1.size
def x_a (G : xG) (a : Nat) : Nat := if a < 1000000 then x_B G + a else G.2.2.2.2.1 (a - 1000000)
def x_v (G : xG) : Value → Value
  | .ref a => .ref (x_a G a)
  | v => v
def x_t : Nat → FieldType
  | 0 => .int
  | 1 => .byte
  | 2 => .boolean
  | _ => .long
def x_e (G : xG) : xC → va_E
  | .inl (t, n, f) => .inl (G.2.2.2.1 t, n, .inl f)
  | .inr (.inl (n, f)) => .inl (G.2.2.2.1 3, n, .inr (.inl f))
  | .inr (.inr (ci, fs)) => .inr (ci, fs.map (x_v G))
def x_R (G : xG) (h : xH) (H : Heap) : Prop := H.size = x_B G + h.2 ∧ h.2 ≤ 1000000 ∧ (∀ i, i < h.2 → va_at G.2.2.1 vwCl (x_B G + i, x_e G (h.1 i)) H) ∧ (∀ i, h.2 ≤ i → h.1 i = cO 99 []) ∧ ∀ q, q < x_B G → H[q]? = G.2.1[q]?
def x_ty (G : xG) : List (ClassId × FieldType) := [(G.2.2.2.1 0, .int), (G.2.2.2.1 1, .byte), (G.2.2.2.1 2, .boolean), (G.2.2.2.1 3, .long)]
def xsLen : List Nat := [6, 6, 6, 5, 7, 5, 1, 1]
def xsByt : List (List Int32) := [[32, 76, 69, 83, 83, 32], [32, 77, 79, 82, 69, 32], [32, 83, 65, 77, 69, 32], [32, 66, 73, 84, 32], [32, 84, 65, 66, 76, 69, 32], [32, 69, 78, 68, 32], [32], [10]]
def xsTx : List String := [" LESS ", " MORE ", " SAME ", " BIT ", " TABLE ", " END ", " ", "\n"]
def xsIx : List Nat := [197, 199, 201, 203, 205, 207, 186, 195]
/-- what the Statement gives of the script and of the texts -/
def x_S (G : xG) (U : State) : Prop :=
  va_X (G.2.2.2.2.1 0) G.2.2.2.2.2.1 G.2.2.2.2.2.2 U G.2.1 ∧ G.2.2.2.2.1 0 < x_B G ∧
  vk_S 8 xsLen xsByt (fun k => G.2.2.2.2.1 (k + 1)) (fun k => G.2.2.2.2.1 (k + 101)) (fun q => x_B G ≤ q) U G.2.1 ∧
  (∀ k, k < 8 → vk_R RX1 (xsIx.getD k 0) (xsTx.getD k "") (G.2.2.2.2.1 (k + 1)) U) ∧
  va_Z "java/lang/String" "COMPACT_STRINGS" "Z" (.int 1) (fun q => x_B G ≤ q) U G.2.1 ∧
  (va_Z "jdk/internal/util/Preconditions" "SIOOBE_FORMATTER" "Ljava/util/function/BiFunction;" .null (fun q => x_B G ≤ q) U G.2.1 ∨ va_Z "jdk/internal/util/Preconditions" "SIOOBE_FORMATTER" "Ljava/util/function/BiFunction;" (.ref (G.2.2.2.2.1 50)) (fun q => x_B G ≤ q) U G.2.1) ∧
  va_Nw (.methodLinkNest RX5 48 yX3_init "ChoiceCode") U
def x_K (G : xG) (U : State) : Prop := va_K G.2.2.1 vwCl (x_ty G) U ∧ x_S G U
def x_L (G : xG) (n : Nat) (L : List Value) (ls : Array Slot) : Prop := ls.size = n ∧ lv_wf ls ∧ ∀ (i : Nat) (v : Value), L[i]? = some v → v ≠ .null → ls[i]? = some (.val (x_v G v))
def lw_good : List Cond := lw_tbl.filter goodWord
def x_Ctx (G : xG) (M : xM) (d : Nat) (p : Program) (R : Room) (s : State) (m : MethodId) (args : Array Value) (meth : Method) (c : Code) : Prop :=
  p.tables.exec = Jvm.exec ∧ c.code = M.2.2.1 ∧ c.maxLocals = M.2.2.2.1 ∧ meth.sig.returnType = M.2.2.2.2 ∧ meth.locks = false ∧ (M.2.1.name = "<init>" → meth.name = "<init>") ∧ s.vm.findClass M.1 = some m.cls ∧ (∀ w ∈ lw_good, w.before args s = true) ∧ x_K G s ∧ d ≤ R.frames ∧ 64 * d ≤ R.locals
/-- a return instruction with its value -/
def x_Ret (M : xM) (pc : Nat) (st : List Value) (r : Option Value) : Prop :=
  (decode M.2.2.1 pc = .ok (.return_, 1) ∧ M.2.2.2.2 = none ∧ st = [] ∧ r = none) ∨
  (∃ (v : Int32) (ty : FieldType), decode M.2.2.1 pc = .ok (.ireturn, 1) ∧ M.2.2.2.2 = some ty ∧ narrow ty (.int v) = .int v ∧ st = [.int v] ∧ r = some (.int v)) ∨
  (∃ v : Int64, decode M.2.2.1 pc = .ok (.lreturn, 1) ∧ M.2.2.2.2 = some .long ∧ st = [.long v] ∧ r = some (.long v)) ∨
  (∃ (a : Nat) (ty : FieldType), decode M.2.2.1 pc = .ok (.areturn, 1) ∧ M.2.2.2.2 = some ty ∧ ((∃ n, ty = .object n) ∨ ∃ t, ty = .array t) ∧ st = [.ref a] ∧ r = some (.ref a))
def Ax (G : xG) (M : xM) (d b pc : Nat) (L st : List Value) (h : xH) (Q : Option Value → xH → Prop) : Prop :=
  ∀ (p : Program) (e : Env) (R : Room) (s : State) (m : MethodId) (args : Array Value) (below : List Frame) (meth : Method) (c : Code) (H : Heap) (locs : List Loc) (cells slots : Nat) (ls : Array Slot) (Z : State → Prop),
    x_Ctx G M d p R s m args meth c → x_R G h H → x_L G M.2.2.2.1 L ls → (∀ q ∈ locs, x_B G ≤ q.base) → cells + b ≤ R.cells → slots + b ≤ R.slots →
    (∀ (pc' : Nat) (ls' : Array Slot) (st' : List Value) (H' : Heap) (locs' : List Loc) (cells' slots' : Nat) (r : Option Value) (h' : xH), x_Ret M pc' st' r → x_R G h' H' → Q r h' → (∀ q ∈ locs', x_B G ≤ q.base) → cells' ≤ R.cells → slots' ≤ R.slots →
      W p G.1 e R s m args below meth c H' locs' cells' slots' Z (F0 m pc' ls' (st'.map (x_v G)))) →
    W p G.1 e R s m args below meth c H locs cells slots Z (F0 m pc ls (st.map (x_v G)))
def x_rm (d b : Nat) : Room := { frames := d, cells := b, slots := b, locals := 64 * d }
def AM (G : xG) (M : xM) (d b : Nat) (as : List Value) (h : xH) (Q : Option Value → xH → Prop) : Prop :=
  Met G.1 M.2.1 (Cond.code M.2.1 M.2.2.1 M.2.2.2.1 M.2.2.2.2 :: lw_good) (x_rm d b) (va_Pc (as.map (x_v G)) (fun U => x_R G h U.heap ∧ x_K G U))
    (fun _ _ o t => ∃ (r : Option Value) (h' : xH), o = .returned (r.map (x_v G)) ∧ Q r h' ∧ x_R G h' t.heap) b b (fun q => x_B G ≤ q)
section
variable {G : xG} {M : xM} {d b pc : Nat} {L st : List Value} {h : xH} {Q : Option Value → xH → Prop}
theorem x_v_int (x : Int32) : x_v G (.int x) = .int x := rfl
theorem x_v_cat (v : Value) : (x_v G v).category = v.category := by cases v <;> rfl
theorem x_K.moved {u U : State} (hvm : u.vm.Alike U.vm) (hW : ∀ (own tx : String) (k a : Nat), vk_R own k tx a u → vk_R own k tx a U) (hN : va_Nw (.methodLinkNest RX5 48 yX3_init "ChoiceCode") u → va_Nw (.methodLinkNest RX5 48 yX3_init "ChoiceCode") U) (h : x_K G u) : x_K G U := by
  obtain ⟨h0, h1, h2, h3, h4, h5, h6, h7⟩ := h
  exact ⟨va_K.moved hvm h0, va_X.moved hvm h1, h2, vk_S.moved hvm h3, fun k hk => hW _ _ _ _ (h4 k hk), va_Z.moved hvm h5, h6.imp (va_Z.moved hvm) (va_Z.moved hvm), hN h7⟩
theorem x_K.warm {s U : State} (hW : s.WarmedH U.vm) (h : x_K G s) : x_K G U := x_K.moved hW.alike (fun _ _ _ _ h => vk_R.warm hW h) (fun h => va_Nw.warmM hW h) h
theorem x_K.same {u U : State} (hv : U.vm = u.vm) (h : x_K G u) : x_K G U := x_K.moved (by rw [hv]; exact Vm.Alike.refl _) (fun _ _ _ _ h => vk_R.same hv h) (fun h => va_Nw.same rfl hv.symm h) h
theorem x_Pc.blind {as : List Value} : FrameBlind (va_Pc (as.map (x_v G)) (fun U => x_R G h U.heap ∧ x_K G U)) := by
  intro a U g mk q
  exact ⟨q.1, q.2.1, x_K.same (u := U) (U := U.calling g mk a) rfl q.2.2⟩
theorem Ax_b {b' : Nat} (hb : b' ≤ b) (k : Ax G M d b' pc L st h Q) : Ax G M d b pc L st h Q := by
  intro p e R s m args below meth c H locs cells slots ls Z C hR hL hl hc hs hend
  exact k p e R s m args below meth c H locs cells slots ls Z C hR hL hl (by omega) (by omega) hend
theorem Ax_post {Q' : Option Value → xH → Prop} (hQ : ∀ r h', Q' r h' → Q r h') (k : Ax G M d b pc L st h Q') : Ax G M d b pc L st h Q := by
  intro p e R s m args below meth c H locs cells slots ls Z C hR hL hl hc hs hend
  exact k p e R s m args below meth c H locs cells slots ls Z C hR hL hl hc hs (fun pc' ls' st' H' locs' cells' slots' r h' g1 g2 g3 => hend pc' ls' st' H' locs' cells' slots' r h' g1 g2 (hQ _ _ g3))
theorem Met_post {l : Launch} {y : MethodName} {ws : List Cond} {rm : Room} {Pc : Array Value → State → Prop} {Qc Qd : Array Value → State → Outcome → State → Prop} {mc ms : Nat} {free : Addr → Prop} (hQ : ∀ a st o t, Qc a st o t → Qd a st o t) (k : Met l y ws rm Pc Qc mc ms free) : Met l y ws rm Pc Qd mc ms free := by
  intro p e ha hc hk s m args below hf hA hP hK
  obtain ⟨k', o, h1, h2, h3, hq, hF⟩ := k p e ha hc hk s m args below hf hA hP hK
  exact ⟨k', o, h1, h2, h3, hQ _ _ _ _ hq, hF⟩
theorem AM_post {as : List Value} {Q' : Option Value → xH → Prop} (hQ : ∀ r h', Q' r h' → Q r h') (k : AM G M d b as h Q') : AM G M d b as h Q :=
  Met_post (fun _ _ _ _ ⟨r, h', e1, e2, e3⟩ => ⟨r, h', e1, hQ _ _ e2, e3⟩) k
theorem Ax_go {pc' : Nat} {st' : List Value}
    (hg : ∀ (p : Program) (e : Env) (R : Room) (s : State) (m : MethodId) (args : Array Value) (below : List Frame) (meth : Method) (c : Code) (H : Heap) (locs : List Loc) (cells slots : Nat) (ls : Array Slot) (Z : State → Prop), x_Ctx G M d p R s m args meth c → x_R G h H → x_L G M.2.2.2.1 L ls →
      W p G.1 e R s m args below meth c H locs cells slots Z (F0 m pc' ls (st'.map (x_v G))) → W p G.1 e R s m args below meth c H locs cells slots Z (F0 m pc ls (st.map (x_v G))))
    (k : Ax G M d b pc' L st' h Q) : Ax G M d b pc L st h Q := by
  intro p e R s m args below meth c H locs cells slots ls Z C hR hL hl hc hs hend
  exact hg p e R s m args below meth c H locs cells slots ls Z C hR hL (k p e R s m args below meth c H locs cells slots ls Z C hR hL hl hc hs hend)
/-! ends -/
theorem Ax_ret (hd : decode M.2.2.1 pc = .ok (.return_, 1)) (hr : M.2.2.2.2 = none) (hQ : Q none h) : Ax G M d b pc L [] h Q := by
  intro p e R s m args below meth c H locs cells slots ls Z C hR hL hl hc hs hend
  exact hend pc ls [] H locs cells slots none h (Or.inl ⟨hd, hr, rfl, rfl⟩) hR hQ hl (by omega) (by omega)
theorem Ax_iret {v : Int32} {ty : FieldType} (hd : decode M.2.2.1 pc = .ok (.ireturn, 1)) (hr : M.2.2.2.2 = some ty) (hn : narrow ty (.int v) = .int v) (hQ : Q (some (.int v)) h) : Ax G M d b pc L [.int v] h Q := by
  intro p e R s m args below meth c H locs cells slots ls Z C hR hL hl hc hs hend
  exact hend pc ls [.int v] H locs cells slots _ h (Or.inr (Or.inl ⟨v, ty, hd, hr, hn, rfl, rfl⟩)) hR hQ hl (by omega) (by omega)
theorem Ax_lret {v : Int64} (hd : decode M.2.2.1 pc = .ok (.lreturn, 1)) (hr : M.2.2.2.2 = some .long) (hQ : Q (some (.long v)) h) : Ax G M d b pc L [.long v] h Q := by
  intro p e R s m args below meth c H locs cells slots ls Z C hR hL hl hc hs hend
  exact hend pc ls [.long v] H locs cells slots _ h (Or.inr (Or.inr (Or.inl ⟨v, hd, hr, rfl, rfl⟩))) hR hQ hl (by omega) (by omega)
theorem Ax_aret {a : Nat} {ty : FieldType} (hd : decode M.2.2.1 pc = .ok (.areturn, 1)) (hr : M.2.2.2.2 = some ty) (ht : (∃ n, ty = .object n) ∨ ∃ t, ty = .array t) (hQ : Q (some (.ref a)) h) : Ax G M d b pc L [.ref a] h Q := by
  intro p e R s m args below meth c H locs cells slots ls Z C hR hL hl hc hs hend
  exact hend pc ls [.ref a] H locs cells slots _ h (Or.inr (Or.inr (Or.inr ⟨a, ty, hd, hr, ht, rfl, rfl⟩))) hR hQ hl (by omega) (by omega)
/-! locals -/
theorem x_L.at {n i : Nat} {v : Value} {ls : Array Slot} (hL : x_L G n L ls) (hi : L[i]? = some v) (hv : v ≠ .null) : ls[i]? = some (.val (x_v G v)) := hL.2.2 i v hi hv
def x_prs (G : xG) : Nat → List Value → List (Nat × Value)
  | _, [] => []
  | i, v :: t => (if v = .null then [] else [(i, x_v G v)]) ++ x_prs G (i + 1) t
theorem x_prs_mem {j : Nat} {w : Value} : ∀ (L : List Value) (i : Nat), (j, w) ∈ x_prs G i L ↔ ∃ v, i ≤ j ∧ L[j - i]? = some v ∧ v ≠ .null ∧ w = x_v G v
  | [], i => by simp [x_prs]
  | v :: t, i => by
    rw [x_prs, List.mem_append, x_prs_mem t (i + 1)]
    constructor
    · rintro (h | ⟨u, h1, h2, h3, h4⟩)
      · by_cases hv : v = .null
        · rw [if_pos hv] at h; exact absurd h List.not_mem_nil
        · rw [if_neg hv, List.mem_singleton, Prod.mk.injEq] at h
          obtain ⟨rfl, rfl⟩ := h
          exact ⟨v, Nat.le_refl _, by simp, hv, rfl⟩
      · refine ⟨u, by omega, ?_, h3, h4⟩
        rw [show j - i = (j - (i + 1)) + 1 by omega, List.getElem?_cons_succ]
        exact h2
    · rintro ⟨u, h1, h2, h3, h4⟩
      by_cases hij : j = i
      · subst hij
        rw [Nat.sub_self, List.getElem?_cons_zero] at h2
        cases h2
        left
        rw [if_neg h3, h4]
        exact List.mem_singleton.mpr rfl
      · right
        refine ⟨u, by omega, ?_, h3, h4⟩
        rw [show j - i = (j - (i + 1)) + 1 by omega, List.getElem?_cons_succ] at h2
        exact h2
theorem x_L.has {n : Nat} {ls : Array Slot} (hL : x_L G n L ls) : lv_has ls n (x_prs G 0 L) := by
  refine ⟨hL.1, hL.2.1, fun q hq => ?_⟩
  obtain ⟨v, -, h2, h3, h4⟩ := (x_prs_mem L 0).mp hq
  rw [h4]
  exact hL.2.2 _ _ (by simpa using h2) h3
/-- a store of a value of one word -/
theorem x_L.set1 {n i : Nat} {v : Value} {ls' : Array Slot} (hp : ∀ j w, i = j + 1 → L[j]? = some w → w.category ≠ 2)
    (h : lv_has ls' n ((i, x_v G v) :: (x_prs G 0 L).filter (fun q => !(q.1 == i) && !(q.1 + 1 == i && q.2.category == 2)))) : x_L G n (L.set i v) ls' := by
  refine ⟨h.1, h.2.1, fun j w hj hw => ?_⟩
  by_cases hij : j = i
  · subst hij
    have hl : j < L.length := by
      have := (List.getElem?_eq_some_iff.mp hj).1
      simpa using this
    rw [List.getElem?_set_self hl] at hj
    cases hj
    exact h.2.2 (j, x_v G v) List.mem_cons_self
  · rw [List.getElem?_set_ne (Ne.symm hij)] at hj
    refine h.2.2 (j, x_v G w) (List.mem_cons_of_mem _ (List.mem_filter.mpr ⟨(x_prs_mem L 0).mpr ⟨w, Nat.zero_le _, by simpa using hj, hw, rfl⟩, ?_⟩))
    simp only [x_v_cat, Bool.and_eq_true, Bool.not_eq_true', beq_eq_false_iff_ne, ne_eq, hij, not_false_eq_true, true_and, Bool.and_eq_false_iff]
    by_cases h2 : j + 1 = i
    · right
      simpa using hp j w h2.symm hj
    · left
      simpa using h2
/-- a store of a value of two words -/
theorem x_L.set2 {n i : Nat} {v : Value} {ls' : Array Slot} (hp : ∀ j w, i = j + 1 → L[j]? = some w → w.category ≠ 2)
    (h : lv_has ls' n ((i, x_v G v) :: (x_prs G 0 L).filter (fun q => !(q.1 == i) && (!(q.1 == i + 1) && !(q.1 + 1 == i && q.2.category == 2))))) : x_L G n ((L.set i v).set (i + 1) .null) ls' := by
  refine ⟨h.1, h.2.1, fun j w hj hw => ?_⟩
  by_cases hi1 : j = i + 1
  · subst hi1
    have hl : i + 1 < (L.set i v).length := by
      have := (List.getElem?_eq_some_iff.mp hj).1
      simpa using this
    rw [List.getElem?_set_self hl] at hj
    cases hj
    exact absurd rfl hw
  · rw [List.getElem?_set_ne (Ne.symm hi1)] at hj
    by_cases hij : j = i
    · subst hij
      have hl : j < L.length := by
        have := (List.getElem?_eq_some_iff.mp hj).1
        simpa using this
      rw [List.getElem?_set_self hl] at hj
      cases hj
      exact h.2.2 (j, x_v G v) List.mem_cons_self
    · rw [List.getElem?_set_ne (Ne.symm hij)] at hj
      refine h.2.2 (j, x_v G w) (List.mem_cons_of_mem _ (List.mem_filter.mpr ⟨(x_prs_mem L 0).mpr ⟨w, Nat.zero_le _, by simpa using hj, hw, rfl⟩, ?_⟩))
      simp only [x_v_cat, Bool.and_eq_true, Bool.not_eq_true', beq_eq_false_iff_ne, ne_eq, hij, hi1, not_false_eq_true, true_and, Bool.and_eq_false_iff]
      by_cases h2 : j + 1 = i
      · right
        simpa using hp j w h2.symm hj
      · left
        simpa using h2
/-- what is known of a place may be forgotten -/
theorem x_L.sub {n : Nat} {L' : List Value} {ls : Array Slot} (hL : x_L G n L ls) (hs : ∀ (i : Nat) (v : Value), L'[i]? = some v → v = .null ∨ L[i]? = some v) : x_L G n L' ls :=
  ⟨hL.1, hL.2.1, fun i v hi hv => (hs i v hi).elim (fun e => absurd e hv) (fun e => hL.2.2 i v e hv)⟩
def x_sub : List Value → List Value → Prop
  | [], _ => True
  | a :: l, [] => False
  | a :: l, b :: m => (a = .null ∨ a = b) ∧ x_sub l m
theorem x_sub_at : ∀ (L' L : List Value), x_sub L' L → ∀ (i : Nat) (v : Value), L'[i]? = some v → v = .null ∨ L[i]? = some v
  | [], _, _, i, v, h => by simp at h
  | a :: l, [], h, _, _, _ => h.elim
  | a :: l, b :: m, h, 0, v, hv => by
    rw [List.getElem?_cons_zero] at hv
    cases hv
    rcases h.1 with e | e
    · exact Or.inl e
    · right; rw [e]; rfl
  | a :: l, b :: m, h, i + 1, v, hv => by
    rw [List.getElem?_cons_succ] at hv ⊢
    exact x_sub_at l m h.2 i v hv
theorem Ax_L {L' : List Value} (hs : x_sub L' L) (k : Ax G M d b pc L' st h Q) : Ax G M d b pc L st h Q := by
  intro p e R s m args below meth c H locs cells slots ls Z C hR hL hl hc hs' hend
  exact k p e R s m args below meth c H locs cells slots ls Z C hR (hL.sub (x_sub_at _ _ hs)) hl hc hs' hend
theorem Ax_sto1 {pc' i : Nat} {v : Value}
    (hg : ∀ (p : Program) (e : Env) (R : Room) (s : State) (m : MethodId) (args : Array Value) (below : List Frame) (meth : Method) (c : Code) (H : Heap) (locs : List Loc) (cells slots : Nat) (ls : Array Slot) (Z : State → Prop) (lv : List (Nat × Value)), x_Ctx G M d p R s m args meth c → x_L G M.2.2.2.1 L ls → lv_has ls M.2.2.2.1 lv →
      (∀ ls' : Array Slot, lv_has ls' M.2.2.2.1 ((i, x_v G v) :: lv.filter (fun q => !(q.1 == i) && !(q.1 + 1 == i && q.2.category == 2))) → W p G.1 e R s m args below meth c H locs cells slots Z (F0 m pc' ls' (st.map (x_v G)))) →
      W p G.1 e R s m args below meth c H locs cells slots Z (F0 m pc ls ((v :: st).map (x_v G))))
    (hp : ∀ j w, i = j + 1 → L[j]? = some w → w.category ≠ 2) (k : Ax G M d b pc' (L.set i v) st h Q) : Ax G M d b pc L (v :: st) h Q := by
  intro p e R s m args below meth c H locs cells slots ls Z C hR hL hl hc hs hend
  exact hg p e R s m args below meth c H locs cells slots ls Z _ C hL hL.has (fun ls' h' => k p e R s m args below meth c H locs cells slots ls' Z C hR (x_L.set1 hp h') hl hc hs hend)
theorem Ax_sto2 {pc' i : Nat} {v : Value}
    (hg : ∀ (p : Program) (e : Env) (R : Room) (s : State) (m : MethodId) (args : Array Value) (below : List Frame) (meth : Method) (c : Code) (H : Heap) (locs : List Loc) (cells slots : Nat) (ls : Array Slot) (Z : State → Prop) (lv : List (Nat × Value)), x_Ctx G M d p R s m args meth c → x_L G M.2.2.2.1 L ls → lv_has ls M.2.2.2.1 lv →
      (∀ ls' : Array Slot, lv_has ls' M.2.2.2.1 ((i, x_v G v) :: lv.filter (fun q => !(q.1 == i) && (!(q.1 == i + 1) && !(q.1 + 1 == i && q.2.category == 2)))) → W p G.1 e R s m args below meth c H locs cells slots Z (F0 m pc' ls' (st.map (x_v G)))) →
      W p G.1 e R s m args below meth c H locs cells slots Z (F0 m pc ls ((v :: st).map (x_v G))))
    (hp : ∀ j w, i = j + 1 → L[j]? = some w → w.category ≠ 2) (k : Ax G M d b pc' ((L.set i v).set (i + 1) .null) st h Q) : Ax G M d b pc L (v :: st) h Q := by
  intro p e R s m args below meth c H locs cells slots ls Z C hR hL hl hc hs hend
  exact hg p e R s m args below meth c H locs cells slots ls Z _ C hL hL.has (fun ls' h' => k p e R s m args below meth c H locs cells slots ls' Z C hR (x_L.set2 hp h') hl hc hs hend)
theorem Ax_inc {i : Nat} {n : Int} {x v : Int32} (hd : decode M.2.2.1 pc = .ok (.iinc i n, 3)) (hn : i < M.2.2.2.1) (hi : L[i]? = some (.int x)) (hv : x + Int32.ofInt n = v) (hp : ∀ j w, i = j + 1 → L[j]? = some w → w.category ≠ 2)
    (k : Ax G M d b (pc + 3) (L.set i (.int v)) st h Q) : Ax G M d b pc L st h Q := by
  intro p e R s m args below meth c H locs cells slots ls Z C hR hL hl hc hs hend
  have hm : (i, Value.int x) ∈ x_prs G 0 L := (x_prs_mem L 0).mpr ⟨.int x, Nat.zero_le _, by simpa using hi, by simp, rfl⟩
  obtain ⟨k0, hk0⟩ := List.getElem?_of_mem hm
  exact lv_iinc C.1 C.2.1 hd hL.has hk0 hv hn rfl (fun ls' h' => k p e R s m args below meth c H locs cells slots ls' Z C hR (x_L.set1 (v := .int v) hp h') hl hc hs hend)
theorem Ax_iadd {x y : Int32} (hd : decode M.2.2.1 pc = .ok (.iadd, 1)) (k : Ax G M d b (pc + 1) L (.int (x + y) :: st) h Q) : Ax G M d b pc L (.int y :: .int x :: st) h Q :=
  Ax_go (fun p e R s m args below meth c H locs cells slots ls Z C hR hL K => lv_iadd C.1 C.2.1 hd K) k
theorem Ax_isub {x y : Int32} (hd : decode M.2.2.1 pc = .ok (.isub, 1)) (k : Ax G M d b (pc + 1) L (.int (x - y) :: st) h Q) : Ax G M d b pc L (.int y :: .int x :: st) h Q :=
  Ax_go (fun p e R s m args below meth c H locs cells slots ls Z C hR hL K => lv_isub C.1 C.2.1 hd K) k
theorem Ax_imul {x y : Int32} (hd : decode M.2.2.1 pc = .ok (.imul, 1)) (k : Ax G M d b (pc + 1) L (.int (x * y) :: st) h Q) : Ax G M d b pc L (.int y :: .int x :: st) h Q :=
  Ax_go (fun p e R s m args below meth c H locs cells slots ls Z C hR hL K => lv_imul C.1 C.2.1 hd K) k
theorem Ax_iand {x y : Int32} (hd : decode M.2.2.1 pc = .ok (.iand, 1)) (k : Ax G M d b (pc + 1) L (.int (x &&& y) :: st) h Q) : Ax G M d b pc L (.int y :: .int x :: st) h Q :=
  Ax_go (fun p e R s m args below meth c H locs cells slots ls Z C hR hL K => lv_iand C.1 C.2.1 hd K) k
theorem Ax_ior {x y : Int32} (hd : decode M.2.2.1 pc = .ok (.ior, 1)) (k : Ax G M d b (pc + 1) L (.int (x ||| y) :: st) h Q) : Ax G M d b pc L (.int y :: .int x :: st) h Q :=
  Ax_go (fun p e R s m args below meth c H locs cells slots ls Z C hR hL K => lv_ior C.1 C.2.1 hd K) k
theorem Ax_idiv {x y : Int32} (hd : decode M.2.2.1 pc = .ok (.idiv, 1)) (hne : ¬ y = 0) (k : Ax G M d b (pc + 1) L (.int (x / y) :: st) h Q) : Ax G M d b pc L (.int y :: .int x :: st) h Q :=
  Ax_go (fun p e R s m args below meth c H locs cells slots ls Z C hR hL K => lv_idiv C.1 C.2.1 hd hne K) k
theorem Ax_ladd {x y : Int64} (hd : decode M.2.2.1 pc = .ok (.ladd, 1)) (k : Ax G M d b (pc + 1) L (.long (x + y) :: st) h Q) : Ax G M d b pc L (.long y :: .long x :: st) h Q :=
  Ax_go (fun p e R s m args below meth c H locs cells slots ls Z C hR hL K => lv_ladd C.1 C.2.1 hd K) k
theorem Ax_lsub {x y : Int64} (hd : decode M.2.2.1 pc = .ok (.lsub, 1)) (k : Ax G M d b (pc + 1) L (.long (x - y) :: st) h Q) : Ax G M d b pc L (.long y :: .long x :: st) h Q :=
  Ax_go (fun p e R s m args below meth c H locs cells slots ls Z C hR hL K => lv_lsub C.1 C.2.1 hd K) k
theorem Ax_lmul {x y : Int64} (hd : decode M.2.2.1 pc = .ok (.lmul, 1)) (k : Ax G M d b (pc + 1) L (.long (x * y) :: st) h Q) : Ax G M d b pc L (.long y :: .long x :: st) h Q :=
  Ax_go (fun p e R s m args below meth c H locs cells slots ls Z C hR hL K => lv_lmul C.1 C.2.1 hd K) k
theorem Ax_land {x y : Int64} (hd : decode M.2.2.1 pc = .ok (.land, 1)) (k : Ax G M d b (pc + 1) L (.long (x &&& y) :: st) h Q) : Ax G M d b pc L (.long y :: .long x :: st) h Q :=
  Ax_go (fun p e R s m args below meth c H locs cells slots ls Z C hR hL K => lv_land C.1 C.2.1 hd K) k
theorem Ax_lor {x y : Int64} (hd : decode M.2.2.1 pc = .ok (.lor, 1)) (k : Ax G M d b (pc + 1) L (.long (x ||| y) :: st) h Q) : Ax G M d b pc L (.long y :: .long x :: st) h Q :=
  Ax_go (fun p e R s m args below meth c H locs cells slots ls Z C hR hL K => lv_lor C.1 C.2.1 hd K) k
theorem Ax_ldiv {x y : Int64} (hd : decode M.2.2.1 pc = .ok (.ldiv, 1)) (hne : ¬ y = 0) (k : Ax G M d b (pc + 1) L (.long (x / y) :: st) h Q) : Ax G M d b pc L (.long y :: .long x :: st) h Q :=
  Ax_go (fun p e R s m args below meth c H locs cells slots ls Z C hR hL K => lv_ldiv C.1 C.2.1 hd hne K) k
theorem Ax_lrem {x y : Int64} (hd : decode M.2.2.1 pc = .ok (.lrem, 1)) (hne : ¬ y = 0) (k : Ax G M d b (pc + 1) L (.long (x - x / y * y) :: st) h Q) : Ax G M d b pc L (.long y :: .long x :: st) h Q :=
  Ax_go (fun p e R s m args below meth c H locs cells slots ls Z C hR hL K => lv_lrem C.1 C.2.1 hd hne K) k
theorem Ax_lneg {x : Int64} (hd : decode M.2.2.1 pc = .ok (.lneg, 1)) (k : Ax G M d b (pc + 1) L (.long (-x) :: st) h Q) : Ax G M d b pc L (.long x :: st) h Q :=
  Ax_go (fun p e R s m args below meth c H locs cells slots ls Z C hR hL K => lv_lneg C.1 C.2.1 hd K) k
theorem Ax_ishl {x y : Int32} (hd : decode M.2.2.1 pc = .ok (.ishl, 1)) (k : Ax G M d b (pc + 1) L (.int (x <<< (y &&& 31)) :: st) h Q) : Ax G M d b pc L (.int y :: .int x :: st) h Q :=
  Ax_go (fun p e R s m args below meth c H locs cells slots ls Z C hR hL K => lv_ishl C.1 C.2.1 hd K) k
theorem Ax_ishr {x y : Int32} (hd : decode M.2.2.1 pc = .ok (.ishr, 1)) (k : Ax G M d b (pc + 1) L (.int (x >>> (y &&& 31)) :: st) h Q) : Ax G M d b pc L (.int y :: .int x :: st) h Q :=
  Ax_go (fun p e R s m args below meth c H locs cells slots ls Z C hR hL K => lv_ishr C.1 C.2.1 hd K) k
theorem Ax_iushr {x y : Int32} (hd : decode M.2.2.1 pc = .ok (.iushr, 1)) (k : Ax G M d b (pc + 1) L (.int ((x.toUInt32 >>> (y.toUInt32 &&& Int32.toUInt32 31)).toInt32) :: st) h Q) : Ax G M d b pc L (.int y :: .int x :: st) h Q :=
  Ax_go (fun p e R s m args below meth c H locs cells slots ls Z C hR hL K => lv_iushr C.1 C.2.1 hd rfl K) k
theorem Ax_lushr {x : Int64} {y : Int32} (hd : decode M.2.2.1 pc = .ok (.lushr, 1)) (k : Ax G M d b (pc + 1) L (.long ((x.toUInt64 >>> (y.toInt64.toUInt64 &&& Int64.toUInt64 63)).toInt64) :: st) h Q) : Ax G M d b pc L (.int y :: .long x :: st) h Q :=
  Ax_go (fun p e R s m args below meth c H locs cells slots ls Z C hR hL K => lv_lushr C.1 C.2.1 hd rfl K) k
theorem Ax_lshl {x : Int64} {y : Int32} (hd : decode M.2.2.1 pc = .ok (.lshl, 1)) (k : Ax G M d b (pc + 1) L (.long (x <<< (y.toInt64 &&& 63)) :: st) h Q) : Ax G M d b pc L (.int y :: .long x :: st) h Q :=
  Ax_go (fun p e R s m args below meth c H locs cells slots ls Z C hR hL K => lv_lshl C.1 C.2.1 hd rfl K) k
theorem Ax_lshr {x : Int64} {y : Int32} (hd : decode M.2.2.1 pc = .ok (.lshr, 1)) (k : Ax G M d b (pc + 1) L (.long (x >>> (y.toInt64 &&& 63)) :: st) h Q) : Ax G M d b pc L (.int y :: .long x :: st) h Q :=
  Ax_go (fun p e R s m args below meth c H locs cells slots ls Z C hR hL K => lv_lshr C.1 C.2.1 hd rfl K) k
theorem Ax_i2l {x : Int32} (hd : decode M.2.2.1 pc = .ok (.i2l, 1)) (k : Ax G M d b (pc + 1) L (.long x.toInt64 :: st) h Q) : Ax G M d b pc L (.int x :: st) h Q :=
  Ax_go (fun p e R s m args below meth c H locs cells slots ls Z C hR hL K => lv_i2l C.1 C.2.1 hd rfl K) k
theorem Ax_l2i {x : Int64} (hd : decode M.2.2.1 pc = .ok (.l2i, 1)) (k : Ax G M d b (pc + 1) L (.int x.toInt32 :: st) h Q) : Ax G M d b pc L (.long x :: st) h Q :=
  Ax_go (fun p e R s m args below meth c H locs cells slots ls Z C hR hL K => lv_l2i C.1 C.2.1 hd rfl K) k
theorem Ax_i2b {x : Int32} (hd : decode M.2.2.1 pc = .ok (.i2b, 1)) (k : Ax G M d b (pc + 1) L (.int x.toInt8.toInt32 :: st) h Q) : Ax G M d b pc L (.int x :: st) h Q :=
  Ax_go (fun p e R s m args below meth c H locs cells slots ls Z C hR hL K => lv_i2b C.1 C.2.1 hd rfl K) k
theorem Ax_i2c {x : Int32} (hd : decode M.2.2.1 pc = .ok (.i2c, 1)) (k : Ax G M d b (pc + 1) L (.int (x.toUInt32 % 65536).toInt32 :: st) h Q) : Ax G M d b pc L (.int x :: st) h Q :=
  Ax_go (fun p e R s m args below meth c H locs cells slots ls Z C hR hL K => lv_i2c C.1 C.2.1 hd rfl K) k
theorem Ax_lcmp {x y : Int64} (hd : decode M.2.2.1 pc = .ok (.lcmp, 1)) (k : Ax G M d b (pc + 1) L (.int (lg_cmp x y) :: st) h Q) : Ax G M d b pc L (.long y :: .long x :: st) h Q :=
  Ax_go (fun p e R s m args below meth c H locs cells slots ls Z C hR hL K => W.lcmp C.1 C.2.1 hd K) k
theorem Ax_dup {v : Value} (hd : decode M.2.2.1 pc = .ok (.dup, 1)) (hv : v.category = 1) (k : Ax G M d b (pc + 1) L (v :: v :: st) h Q) : Ax G M d b pc L (v :: st) h Q :=
  Ax_go (fun p e R s m args below meth c H locs cells slots ls Z C hR hL K => lv_dup C.1 C.2.1 hd (by rw [x_v_cat]; exact hv) K) k
theorem Ax_pop {v : Value} (hd : decode M.2.2.1 pc = .ok (.pop, 1)) (hv : v.category = 1) (k : Ax G M d b (pc + 1) L (st) h Q) : Ax G M d b pc L (v :: st) h Q :=
  Ax_go (fun p e R s m args below meth c H locs cells slots ls Z C hR hL K => lv_pop C.1 C.2.1 hd (by rw [x_v_cat]; exact hv) K) k
theorem Ax_dup_x1 {v w : Value} (hd : decode M.2.2.1 pc = .ok (.dup_x1, 1)) (hv : v.category = 1) (hw : w.category = 1) (k : Ax G M d b (pc + 1) L (v :: w :: v :: st) h Q) : Ax G M d b pc L (v :: w :: st) h Q :=
  Ax_go (fun p e R s m args below meth c H locs cells slots ls Z C hR hL K => lv_dup_x1 C.1 C.2.1 hd (by rw [x_v_cat]; exact hv) (by rw [x_v_cat]; exact hw) K) k
theorem Ax_dup2 {v w : Value} (hd : decode M.2.2.1 pc = .ok (.dup2, 1)) (hv : v.category = 1) (hw : w.category = 1) (k : Ax G M d b (pc + 1) L (v :: w :: v :: w :: st) h Q) : Ax G M d b pc L (v :: w :: st) h Q :=
  Ax_go (fun p e R s m args below meth c H locs cells slots ls Z C hR hL K => lv_dup2_11 C.1 C.2.1 hd (by rw [x_v_cat]; exact hv) (by rw [x_v_cat]; exact hw) K) k
theorem Ax_dup2L {v : Value} (hd : decode M.2.2.1 pc = .ok (.dup2, 1)) (hv : v.category = 2) (k : Ax G M d b (pc + 1) L (v :: v :: st) h Q) : Ax G M d b pc L (v :: st) h Q :=
  Ax_go (fun p e R s m args below meth c H locs cells slots ls Z C hR hL K => lv_dup2_2 C.1 C.2.1 hd (by rw [x_v_cat]; exact hv) K) k
theorem Ax_icm1 (hd : decode M.2.2.1 pc = .ok (.iconst (-1), 1)) (k : Ax G M d b (pc + 1) L (.int ((-1)) :: st) h Q) : Ax G M d b pc L (st) h Q :=
  Ax_go (fun p e R s m args below meth c H locs cells slots ls Z C hR hL K => lv_iconst C.1 C.2.1 hd (by decide) K) k
theorem Ax_ic0 (hd : decode M.2.2.1 pc = .ok (.iconst 0, 1)) (k : Ax G M d b (pc + 1) L (.int (nI 0) :: st) h Q) : Ax G M d b pc L (st) h Q :=
  Ax_go (fun p e R s m args below meth c H locs cells slots ls Z C hR hL K => lv_iconst C.1 C.2.1 hd (by decide) K) k
theorem Ax_ic1 (hd : decode M.2.2.1 pc = .ok (.iconst 1, 1)) (k : Ax G M d b (pc + 1) L (.int (nI 1) :: st) h Q) : Ax G M d b pc L (st) h Q :=
  Ax_go (fun p e R s m args below meth c H locs cells slots ls Z C hR hL K => lv_iconst C.1 C.2.1 hd (by decide) K) k
theorem Ax_ic2 (hd : decode M.2.2.1 pc = .ok (.iconst 2, 1)) (k : Ax G M d b (pc + 1) L (.int (nI 2) :: st) h Q) : Ax G M d b pc L (st) h Q :=
  Ax_go (fun p e R s m args below meth c H locs cells slots ls Z C hR hL K => lv_iconst C.1 C.2.1 hd (by decide) K) k
theorem Ax_ic3 (hd : decode M.2.2.1 pc = .ok (.iconst 3, 1)) (k : Ax G M d b (pc + 1) L (.int (nI 3) :: st) h Q) : Ax G M d b pc L (st) h Q :=
  Ax_go (fun p e R s m args below meth c H locs cells slots ls Z C hR hL K => lv_iconst C.1 C.2.1 hd (by decide) K) k
theorem Ax_ic4 (hd : decode M.2.2.1 pc = .ok (.iconst 4, 1)) (k : Ax G M d b (pc + 1) L (.int (nI 4) :: st) h Q) : Ax G M d b pc L (st) h Q :=
  Ax_go (fun p e R s m args below meth c H locs cells slots ls Z C hR hL K => lv_iconst C.1 C.2.1 hd (by decide) K) k
theorem Ax_ic5 (hd : decode M.2.2.1 pc = .ok (.iconst 5, 1)) (k : Ax G M d b (pc + 1) L (.int (nI 5) :: st) h Q) : Ax G M d b pc L (st) h Q :=
  Ax_go (fun p e R s m args below meth c H locs cells slots ls Z C hR hL K => lv_iconst C.1 C.2.1 hd (by decide) K) k
theorem Ax_lc0 (hd : decode M.2.2.1 pc = .ok (.lconst 0, 1)) (k : Ax G M d b (pc + 1) L (.long (lN 0) :: st) h Q) : Ax G M d b pc L (st) h Q :=
  Ax_go (fun p e R s m args below meth c H locs cells slots ls Z C hR hL K => lv_lconst C.1 C.2.1 hd (by decide) K) k
theorem Ax_lc1 (hd : decode M.2.2.1 pc = .ok (.lconst 1, 1)) (k : Ax G M d b (pc + 1) L (.long (lN 1) :: st) h Q) : Ax G M d b pc L (st) h Q :=
  Ax_go (fun p e R s m args below meth c H locs cells slots ls Z C hR hL K => lv_lconst C.1 C.2.1 hd (by decide) K) k
theorem Ax_bpm104 (hd : decode M.2.2.1 pc = .ok (.bipush (-104), 2)) (k : Ax G M d b (pc + 2) L (.int (-104) :: st) h Q) : Ax G M d b pc L (st) h Q :=
  Ax_go (fun p e R s m args below meth c H locs cells slots ls Z C hR hL K => lv_bipush C.1 C.2.1 hd (by decide) K) k
theorem Ax_bpm103 (hd : decode M.2.2.1 pc = .ok (.bipush (-103), 2)) (k : Ax G M d b (pc + 2) L (.int (-103) :: st) h Q) : Ax G M d b pc L (st) h Q :=
  Ax_go (fun p e R s m args below meth c H locs cells slots ls Z C hR hL K => lv_bipush C.1 C.2.1 hd (by decide) K) k
theorem Ax_bpm102 (hd : decode M.2.2.1 pc = .ok (.bipush (-102), 2)) (k : Ax G M d b (pc + 2) L (.int (-102) :: st) h Q) : Ax G M d b pc L (st) h Q :=
  Ax_go (fun p e R s m args below meth c H locs cells slots ls Z C hR hL K => lv_bipush C.1 C.2.1 hd (by decide) K) k
theorem Ax_bpm101 (hd : decode M.2.2.1 pc = .ok (.bipush (-101), 2)) (k : Ax G M d b (pc + 2) L (.int (-101) :: st) h Q) : Ax G M d b pc L (st) h Q :=
  Ax_go (fun p e R s m args below meth c H locs cells slots ls Z C hR hL K => lv_bipush C.1 C.2.1 hd (by decide) K) k
theorem Ax_bp8 (hd : decode M.2.2.1 pc = .ok (.bipush 8, 2)) (k : Ax G M d b (pc + 2) L (.int (nI 8) :: st) h Q) : Ax G M d b pc L (st) h Q :=
  Ax_go (fun p e R s m args below meth c H locs cells slots ls Z C hR hL K => lv_bipush C.1 C.2.1 hd (by decide) K) k
theorem Ax_bp10 (hd : decode M.2.2.1 pc = .ok (.bipush 10, 2)) (k : Ax G M d b (pc + 2) L (.int (nI 10) :: st) h Q) : Ax G M d b pc L (st) h Q :=
  Ax_go (fun p e R s m args below meth c H locs cells slots ls Z C hR hL K => lv_bipush C.1 C.2.1 hd (by decide) K) k
theorem Ax_bp15 (hd : decode M.2.2.1 pc = .ok (.bipush 15, 2)) (k : Ax G M d b (pc + 2) L (.int (nI 15) :: st) h Q) : Ax G M d b pc L (st) h Q :=
  Ax_go (fun p e R s m args below meth c H locs cells slots ls Z C hR hL K => lv_bipush C.1 C.2.1 hd (by decide) K) k
theorem Ax_bp16 (hd : decode M.2.2.1 pc = .ok (.bipush 16, 2)) (k : Ax G M d b (pc + 2) L (.int (nI 16) :: st) h Q) : Ax G M d b pc L (st) h Q :=
  Ax_go (fun p e R s m args below meth c H locs cells slots ls Z C hR hL K => lv_bipush C.1 C.2.1 hd (by decide) K) k
theorem Ax_bp24 (hd : decode M.2.2.1 pc = .ok (.bipush 24, 2)) (k : Ax G M d b (pc + 2) L (.int (nI 24) :: st) h Q) : Ax G M d b pc L (st) h Q :=
  Ax_go (fun p e R s m args below meth c H locs cells slots ls Z C hR hL K => lv_bipush C.1 C.2.1 hd (by decide) K) k
theorem Ax_bp25 (hd : decode M.2.2.1 pc = .ok (.bipush 25, 2)) (k : Ax G M d b (pc + 2) L (.int (nI 25) :: st) h Q) : Ax G M d b pc L (st) h Q :=
  Ax_go (fun p e R s m args below meth c H locs cells slots ls Z C hR hL K => lv_bipush C.1 C.2.1 hd (by decide) K) k
theorem Ax_bp31 (hd : decode M.2.2.1 pc = .ok (.bipush 31, 2)) (k : Ax G M d b (pc + 2) L (.int (nI 31) :: st) h Q) : Ax G M d b pc L (st) h Q :=
  Ax_go (fun p e R s m args below meth c H locs cells slots ls Z C hR hL K => lv_bipush C.1 C.2.1 hd (by decide) K) k
theorem Ax_bp32 (hd : decode M.2.2.1 pc = .ok (.bipush 32, 2)) (k : Ax G M d b (pc + 2) L (.int (nI 32) :: st) h Q) : Ax G M d b pc L (st) h Q :=
  Ax_go (fun p e R s m args below meth c H locs cells slots ls Z C hR hL K => lv_bipush C.1 C.2.1 hd (by decide) K) k
theorem Ax_bp40 (hd : decode M.2.2.1 pc = .ok (.bipush 40, 2)) (k : Ax G M d b (pc + 2) L (.int (nI 40) :: st) h Q) : Ax G M d b pc L (st) h Q :=
  Ax_go (fun p e R s m args below meth c H locs cells slots ls Z C hR hL K => lv_bipush C.1 C.2.1 hd (by decide) K) k
theorem Ax_bp45 (hd : decode M.2.2.1 pc = .ok (.bipush 45, 2)) (k : Ax G M d b (pc + 2) L (.int (nI 45) :: st) h Q) : Ax G M d b pc L (st) h Q :=
  Ax_go (fun p e R s m args below meth c H locs cells slots ls Z C hR hL K => lv_bipush C.1 C.2.1 hd (by decide) K) k
theorem Ax_bp48 (hd : decode M.2.2.1 pc = .ok (.bipush 48, 2)) (k : Ax G M d b (pc + 2) L (.int (nI 48) :: st) h Q) : Ax G M d b pc L (st) h Q :=
  Ax_go (fun p e R s m args below meth c H locs cells slots ls Z C hR hL K => lv_bipush C.1 C.2.1 hd (by decide) K) k
theorem Ax_bp60 (hd : decode M.2.2.1 pc = .ok (.bipush 60, 2)) (k : Ax G M d b (pc + 2) L (.int (nI 60) :: st) h Q) : Ax G M d b pc L (st) h Q :=
  Ax_go (fun p e R s m args below meth c H locs cells slots ls Z C hR hL K => lv_bipush C.1 C.2.1 hd (by decide) K) k
theorem Ax_bp63 (hd : decode M.2.2.1 pc = .ok (.bipush 63, 2)) (k : Ax G M d b (pc + 2) L (.int (nI 63) :: st) h Q) : Ax G M d b pc L (st) h Q :=
  Ax_go (fun p e R s m args below meth c H locs cells slots ls Z C hR hL K => lv_bipush C.1 C.2.1 hd (by decide) K) k
theorem Ax_bp64 (hd : decode M.2.2.1 pc = .ok (.bipush 64, 2)) (k : Ax G M d b (pc + 2) L (.int (nI 64) :: st) h Q) : Ax G M d b pc L (st) h Q :=
  Ax_go (fun p e R s m args below meth c H locs cells slots ls Z C hR hL K => lv_bipush C.1 C.2.1 hd (by decide) K) k
theorem Ax_bp65 (hd : decode M.2.2.1 pc = .ok (.bipush 65, 2)) (k : Ax G M d b (pc + 2) L (.int (nI 65) :: st) h Q) : Ax G M d b pc L (st) h Q :=
  Ax_go (fun p e R s m args below meth c H locs cells slots ls Z C hR hL K => lv_bipush C.1 C.2.1 hd (by decide) K) k
theorem Ax_bp66 (hd : decode M.2.2.1 pc = .ok (.bipush 66, 2)) (k : Ax G M d b (pc + 2) L (.int (nI 66) :: st) h Q) : Ax G M d b pc L (st) h Q :=
  Ax_go (fun p e R s m args below meth c H locs cells slots ls Z C hR hL K => lv_bipush C.1 C.2.1 hd (by decide) K) k
theorem Ax_bp68 (hd : decode M.2.2.1 pc = .ok (.bipush 68, 2)) (k : Ax G M d b (pc + 2) L (.int (nI 68) :: st) h Q) : Ax G M d b pc L (st) h Q :=
  Ax_go (fun p e R s m args below meth c H locs cells slots ls Z C hR hL K => lv_bipush C.1 C.2.1 hd (by decide) K) k
theorem Ax_bp69 (hd : decode M.2.2.1 pc = .ok (.bipush 69, 2)) (k : Ax G M d b (pc + 2) L (.int (nI 69) :: st) h Q) : Ax G M d b pc L (st) h Q :=
  Ax_go (fun p e R s m args below meth c H locs cells slots ls Z C hR hL K => lv_bipush C.1 C.2.1 hd (by decide) K) k
theorem Ax_bp73 (hd : decode M.2.2.1 pc = .ok (.bipush 73, 2)) (k : Ax G M d b (pc + 2) L (.int (nI 73) :: st) h Q) : Ax G M d b pc L (st) h Q :=
  Ax_go (fun p e R s m args below meth c H locs cells slots ls Z C hR hL K => lv_bipush C.1 C.2.1 hd (by decide) K) k
theorem Ax_bp76 (hd : decode M.2.2.1 pc = .ok (.bipush 76, 2)) (k : Ax G M d b (pc + 2) L (.int (nI 76) :: st) h Q) : Ax G M d b pc L (st) h Q :=
  Ax_go (fun p e R s m args below meth c H locs cells slots ls Z C hR hL K => lv_bipush C.1 C.2.1 hd (by decide) K) k
theorem Ax_bp77 (hd : decode M.2.2.1 pc = .ok (.bipush 77, 2)) (k : Ax G M d b (pc + 2) L (.int (nI 77) :: st) h Q) : Ax G M d b pc L (st) h Q :=
  Ax_go (fun p e R s m args below meth c H locs cells slots ls Z C hR hL K => lv_bipush C.1 C.2.1 hd (by decide) K) k
theorem Ax_bp78 (hd : decode M.2.2.1 pc = .ok (.bipush 78, 2)) (k : Ax G M d b (pc + 2) L (.int (nI 78) :: st) h Q) : Ax G M d b pc L (st) h Q :=
  Ax_go (fun p e R s m args below meth c H locs cells slots ls Z C hR hL K => lv_bipush C.1 C.2.1 hd (by decide) K) k
theorem Ax_bp79 (hd : decode M.2.2.1 pc = .ok (.bipush 79, 2)) (k : Ax G M d b (pc + 2) L (.int (nI 79) :: st) h Q) : Ax G M d b pc L (st) h Q :=
  Ax_go (fun p e R s m args below meth c H locs cells slots ls Z C hR hL K => lv_bipush C.1 C.2.1 hd (by decide) K) k
theorem Ax_bp82 (hd : decode M.2.2.1 pc = .ok (.bipush 82, 2)) (k : Ax G M d b (pc + 2) L (.int (nI 82) :: st) h Q) : Ax G M d b pc L (st) h Q :=
  Ax_go (fun p e R s m args below meth c H locs cells slots ls Z C hR hL K => lv_bipush C.1 C.2.1 hd (by decide) K) k
theorem Ax_bp83 (hd : decode M.2.2.1 pc = .ok (.bipush 83, 2)) (k : Ax G M d b (pc + 2) L (.int (nI 83) :: st) h Q) : Ax G M d b pc L (st) h Q :=
  Ax_go (fun p e R s m args below meth c H locs cells slots ls Z C hR hL K => lv_bipush C.1 C.2.1 hd (by decide) K) k
theorem Ax_bp84 (hd : decode M.2.2.1 pc = .ok (.bipush 84, 2)) (k : Ax G M d b (pc + 2) L (.int (nI 84) :: st) h Q) : Ax G M d b pc L (st) h Q :=
  Ax_go (fun p e R s m args below meth c H locs cells slots ls Z C hR hL K => lv_bipush C.1 C.2.1 hd (by decide) K) k
theorem Ax_bp100 (hd : decode M.2.2.1 pc = .ok (.bipush 100, 2)) (k : Ax G M d b (pc + 2) L (.int (nI 100) :: st) h Q) : Ax G M d b pc L (st) h Q :=
  Ax_go (fun p e R s m args below meth c H locs cells slots ls Z C hR hL K => lv_bipush C.1 C.2.1 hd (by decide) K) k
theorem Ax_sp255 (hd : decode M.2.2.1 pc = .ok (.sipush 255, 3)) (k : Ax G M d b (pc + 3) L (.int (nI 255) :: st) h Q) : Ax G M d b pc L (st) h Q :=
  Ax_go (fun p e R s m args below meth c H locs cells slots ls Z C hR hL K => lv_sipush C.1 C.2.1 hd (by decide) K) k
theorem Ax_sp256 (hd : decode M.2.2.1 pc = .ok (.sipush 256, 3)) (k : Ax G M d b (pc + 3) L (.int (nI 256) :: st) h Q) : Ax G M d b pc L (st) h Q :=
  Ax_go (fun p e R s m args below meth c H locs cells slots ls Z C hR hL K => lv_sipush C.1 C.2.1 hd (by decide) K) k
theorem Ax_sp400 (hd : decode M.2.2.1 pc = .ok (.sipush 400, 3)) (k : Ax G M d b (pc + 3) L (.int (nI 400) :: st) h Q) : Ax G M d b pc L (st) h Q :=
  Ax_go (fun p e R s m args below meth c H locs cells slots ls Z C hR hL K => lv_sipush C.1 C.2.1 hd (by decide) K) k
theorem Ax_sp576 (hd : decode M.2.2.1 pc = .ok (.sipush 576, 3)) (k : Ax G M d b (pc + 3) L (.int (nI 576) :: st) h Q) : Ax G M d b pc L (st) h Q :=
  Ax_go (fun p e R s m args below meth c H locs cells slots ls Z C hR hL K => lv_sipush C.1 C.2.1 hd (by decide) K) k
theorem Ax_sp1000 (hd : decode M.2.2.1 pc = .ok (.sipush 1000, 3)) (k : Ax G M d b (pc + 3) L (.int (nI 1000) :: st) h Q) : Ax G M d b pc L (st) h Q :=
  Ax_go (fun p e R s m args below meth c H locs cells slots ls Z C hR hL K => lv_sipush C.1 C.2.1 hd (by decide) K) k
theorem Ax_sp3072 (hd : decode M.2.2.1 pc = .ok (.sipush 3072, 3)) (k : Ax G M d b (pc + 3) L (.int (nI 3072) :: st) h Q) : Ax G M d b pc L (st) h Q :=
  Ax_go (fun p e R s m args below meth c H locs cells slots ls Z C hR hL K => lv_sipush C.1 C.2.1 hd (by decide) K) k
theorem Ax_ldc {i : Nat} {v : Int32} (hd : decode M.2.2.1 pc = .ok (.ldc i, 2)) (hc : Cond.constant M.1 i v ∈ lw_good) (k : Ax G M d b (pc + 2) L (.int v :: st) h Q) : Ax G M d b pc L (st) h Q :=
  Ax_go (fun p e R s m args below meth c H locs cells slots ls Z C hR hL K => W.ldc C.1 C.2.1 C.2.2.2.2.2.2.1 (C.2.2.2.2.2.2.2.1 _ hc) rfl hd K) k
theorem Ax_ldcw {i : Nat} {v : Int32} (hd : decode M.2.2.1 pc = .ok (.ldc_w i, 3)) (hc : Cond.constant M.1 i v ∈ lw_good) (k : Ax G M d b (pc + 3) L (.int v :: st) h Q) : Ax G M d b pc L (st) h Q :=
  Ax_go (fun p e R s m args below meth c H locs cells slots ls Z C hR hL K => lv_ldcw C.1 C.2.1 C.2.2.2.2.2.2.1 (C.2.2.2.2.2.2.2.1 _ hc) hd K) k
theorem Ax_ldc2 {i : Nat} {v : Int64} (hd : decode M.2.2.1 pc = .ok (.ldc2_w i, 3)) (hc : Cond.constantLong M.1 i v ∈ lw_good) (k : Ax G M d b (pc + 3) L (.long v :: st) h Q) : Ax G M d b pc L (st) h Q :=
  Ax_go (fun p e R s m args below meth c H locs cells slots ls Z C hR hL K => W.ldc2 C.1 C.2.1 C.2.2.2.2.2.2.1 (C.2.2.2.2.2.2.2.1 _ hc) rfl hd K) k
theorem Ax_goto {off : Int} {tgt : Nat} (hd : decode M.2.2.1 pc = .ok (.goto off, 3)) (ht : (pc : Int) + off = (tgt : Int)) (k : Ax G M d b tgt L st h Q) : Ax G M d b pc L st h Q :=
  Ax_go (fun p e R s m args below meth c H locs cells slots ls Z C hR hL K => lv_goto C.1 C.2.1 hd ht K) k
theorem Ax_tabO {dflt lo hi : Int} {offs : Array Int} {len : Nat} {x : Int32} {tgt : Nat} (hd : decode M.2.2.1 pc = .ok (.tableswitch dflt lo hi offs, len)) (hx : x.toInt < lo ∨ hi < x.toInt) (ht : (pc : Int) + dflt = (tgt : Int)) (k : Ax G M d b tgt L st h Q) : Ax G M d b pc L (.int x :: st) h Q :=
  Ax_go (fun p e R s m args below meth c H locs cells slots ls Z C hR hL K => lv_tableOut C.1 C.2.1 hd hx ht K) k
theorem Ax_tabI {dflt lo hi : Int} {offs : Array Int} {len : Nat} {x : Int32} {off : Int} {tgt : Nat} (hd : decode M.2.2.1 pc = .ok (.tableswitch dflt lo hi offs, len)) (h1 : ¬ x.toInt < lo) (h2 : ¬ hi < x.toInt) (ho : offs[(x.toInt - lo).toNat]? = some off) (ht : (pc : Int) + off = (tgt : Int)) (k : Ax G M d b tgt L st h Q) : Ax G M d b pc L (.int x :: st) h Q :=
  Ax_go (fun p e R s m args below meth c H locs cells slots ls Z C hR hL K => lv_tableIn C.1 C.2.1 hd h1 h2 ho ht K) k
theorem Ax_ifeq {x : Int32} {off : Int} {tgt : Nat} (hd : decode M.2.2.1 pc = .ok (.ifCond .eq off, 3)) (ht : (pc : Int) + off = (tgt : Int)) (kt : x = 0 → Ax G M d b tgt L st h Q) (kf : ¬ x = 0 → Ax G M d b (pc + 3) L st h Q) : Ax G M d b pc L (.int x :: st) h Q := by
  intro p e R s m args below meth c H locs cells slots ls Z C hR hL hl hc hs hend
  exact lv_if_eq C.1 C.2.1 hd ht (fun q => kt q p e R s m args below meth c H locs cells slots ls Z C hR hL hl hc hs hend) (fun q => kf q p e R s m args below meth c H locs cells slots ls Z C hR hL hl hc hs hend)
theorem Ax_cmpeq {x y : Int32} {off : Int} {tgt : Nat} (hd : decode M.2.2.1 pc = .ok (.if_icmp .eq off, 3)) (ht : (pc : Int) + off = (tgt : Int)) (kt : x = y → Ax G M d b tgt L st h Q) (kf : ¬ x = y → Ax G M d b (pc + 3) L st h Q) : Ax G M d b pc L (.int y :: .int x :: st) h Q := by
  intro p e R s m args below meth c H locs cells slots ls Z C hR hL hl hc hs hend
  exact lv_icmp_eq C.1 C.2.1 hd ht (fun q => kt q p e R s m args below meth c H locs cells slots ls Z C hR hL hl hc hs hend) (fun q => kf q p e R s m args below meth c H locs cells slots ls Z C hR hL hl hc hs hend)
theorem Ax_ifne {x : Int32} {off : Int} {tgt : Nat} (hd : decode M.2.2.1 pc = .ok (.ifCond .ne off, 3)) (ht : (pc : Int) + off = (tgt : Int)) (kt : ¬ x = 0 → Ax G M d b tgt L st h Q) (kf : x = 0 → Ax G M d b (pc + 3) L st h Q) : Ax G M d b pc L (.int x :: st) h Q := by
  intro p e R s m args below meth c H locs cells slots ls Z C hR hL hl hc hs hend
  exact lv_if_ne C.1 C.2.1 hd ht (fun q => kt q p e R s m args below meth c H locs cells slots ls Z C hR hL hl hc hs hend) (fun q => kf q p e R s m args below meth c H locs cells slots ls Z C hR hL hl hc hs hend)
theorem Ax_cmpne {x y : Int32} {off : Int} {tgt : Nat} (hd : decode M.2.2.1 pc = .ok (.if_icmp .ne off, 3)) (ht : (pc : Int) + off = (tgt : Int)) (kt : ¬ x = y → Ax G M d b tgt L st h Q) (kf : x = y → Ax G M d b (pc + 3) L st h Q) : Ax G M d b pc L (.int y :: .int x :: st) h Q := by
  intro p e R s m args below meth c H locs cells slots ls Z C hR hL hl hc hs hend
  exact lv_icmp_ne C.1 C.2.1 hd ht (fun q => kt q p e R s m args below meth c H locs cells slots ls Z C hR hL hl hc hs hend) (fun q => kf q p e R s m args below meth c H locs cells slots ls Z C hR hL hl hc hs hend)
theorem Ax_iflt {x : Int32} {off : Int} {tgt : Nat} (hd : decode M.2.2.1 pc = .ok (.ifCond .lt off, 3)) (ht : (pc : Int) + off = (tgt : Int)) (kt : x < 0 → Ax G M d b tgt L st h Q) (kf : ¬ x < 0 → Ax G M d b (pc + 3) L st h Q) : Ax G M d b pc L (.int x :: st) h Q := by
  intro p e R s m args below meth c H locs cells slots ls Z C hR hL hl hc hs hend
  exact lv_if_lt C.1 C.2.1 hd ht (fun q => kt q p e R s m args below meth c H locs cells slots ls Z C hR hL hl hc hs hend) (fun q => kf q p e R s m args below meth c H locs cells slots ls Z C hR hL hl hc hs hend)
theorem Ax_cmplt {x y : Int32} {off : Int} {tgt : Nat} (hd : decode M.2.2.1 pc = .ok (.if_icmp .lt off, 3)) (ht : (pc : Int) + off = (tgt : Int)) (kt : x < y → Ax G M d b tgt L st h Q) (kf : ¬ x < y → Ax G M d b (pc + 3) L st h Q) : Ax G M d b pc L (.int y :: .int x :: st) h Q := by
  intro p e R s m args below meth c H locs cells slots ls Z C hR hL hl hc hs hend
  exact lv_icmp_lt C.1 C.2.1 hd ht (fun q => kt q p e R s m args below meth c H locs cells slots ls Z C hR hL hl hc hs hend) (fun q => kf q p e R s m args below meth c H locs cells slots ls Z C hR hL hl hc hs hend)
theorem Ax_ifge {x : Int32} {off : Int} {tgt : Nat} (hd : decode M.2.2.1 pc = .ok (.ifCond .ge off, 3)) (ht : (pc : Int) + off = (tgt : Int)) (kt : 0 ≤ x → Ax G M d b tgt L st h Q) (kf : ¬ 0 ≤ x → Ax G M d b (pc + 3) L st h Q) : Ax G M d b pc L (.int x :: st) h Q := by
  intro p e R s m args below meth c H locs cells slots ls Z C hR hL hl hc hs hend
  exact lv_if_ge C.1 C.2.1 hd ht (fun q => kt q p e R s m args below meth c H locs cells slots ls Z C hR hL hl hc hs hend) (fun q => kf q p e R s m args below meth c H locs cells slots ls Z C hR hL hl hc hs hend)
theorem Ax_cmpge {x y : Int32} {off : Int} {tgt : Nat} (hd : decode M.2.2.1 pc = .ok (.if_icmp .ge off, 3)) (ht : (pc : Int) + off = (tgt : Int)) (kt : y ≤ x → Ax G M d b tgt L st h Q) (kf : ¬ y ≤ x → Ax G M d b (pc + 3) L st h Q) : Ax G M d b pc L (.int y :: .int x :: st) h Q := by
  intro p e R s m args below meth c H locs cells slots ls Z C hR hL hl hc hs hend
  exact lv_icmp_ge C.1 C.2.1 hd ht (fun q => kt q p e R s m args below meth c H locs cells slots ls Z C hR hL hl hc hs hend) (fun q => kf q p e R s m args below meth c H locs cells slots ls Z C hR hL hl hc hs hend)
theorem Ax_ifgt {x : Int32} {off : Int} {tgt : Nat} (hd : decode M.2.2.1 pc = .ok (.ifCond .gt off, 3)) (ht : (pc : Int) + off = (tgt : Int)) (kt : 0 < x → Ax G M d b tgt L st h Q) (kf : ¬ 0 < x → Ax G M d b (pc + 3) L st h Q) : Ax G M d b pc L (.int x :: st) h Q := by
  intro p e R s m args below meth c H locs cells slots ls Z C hR hL hl hc hs hend
  exact lv_if_gt C.1 C.2.1 hd ht (fun q => kt q p e R s m args below meth c H locs cells slots ls Z C hR hL hl hc hs hend) (fun q => kf q p e R s m args below meth c H locs cells slots ls Z C hR hL hl hc hs hend)
theorem Ax_cmpgt {x y : Int32} {off : Int} {tgt : Nat} (hd : decode M.2.2.1 pc = .ok (.if_icmp .gt off, 3)) (ht : (pc : Int) + off = (tgt : Int)) (kt : y < x → Ax G M d b tgt L st h Q) (kf : ¬ y < x → Ax G M d b (pc + 3) L st h Q) : Ax G M d b pc L (.int y :: .int x :: st) h Q := by
  intro p e R s m args below meth c H locs cells slots ls Z C hR hL hl hc hs hend
  exact lv_icmp_gt C.1 C.2.1 hd ht (fun q => kt q p e R s m args below meth c H locs cells slots ls Z C hR hL hl hc hs hend) (fun q => kf q p e R s m args below meth c H locs cells slots ls Z C hR hL hl hc hs hend)
theorem Ax_ifle {x : Int32} {off : Int} {tgt : Nat} (hd : decode M.2.2.1 pc = .ok (.ifCond .le off, 3)) (ht : (pc : Int) + off = (tgt : Int)) (kt : x ≤ 0 → Ax G M d b tgt L st h Q) (kf : ¬ x ≤ 0 → Ax G M d b (pc + 3) L st h Q) : Ax G M d b pc L (.int x :: st) h Q := by
  intro p e R s m args below meth c H locs cells slots ls Z C hR hL hl hc hs hend
  exact lv_if_le C.1 C.2.1 hd ht (fun q => kt q p e R s m args below meth c H locs cells slots ls Z C hR hL hl hc hs hend) (fun q => kf q p e R s m args below meth c H locs cells slots ls Z C hR hL hl hc hs hend)
theorem Ax_cmple {x y : Int32} {off : Int} {tgt : Nat} (hd : decode M.2.2.1 pc = .ok (.if_icmp .le off, 3)) (ht : (pc : Int) + off = (tgt : Int)) (kt : x ≤ y → Ax G M d b tgt L st h Q) (kf : ¬ x ≤ y → Ax G M d b (pc + 3) L st h Q) : Ax G M d b pc L (.int y :: .int x :: st) h Q := by
  intro p e R s m args below meth c H locs cells slots ls Z C hR hL hl hc hs hend
  exact lv_icmp_le C.1 C.2.1 hd ht (fun q => kt q p e R s m args below meth c H locs cells slots ls Z C hR hL hl hc hs hend) (fun q => kf q p e R s m args below meth c H locs cells slots ls Z C hR hL hl hc hs hend)
theorem Ax_il0 {t : List Value} {x : Int32} (hd : decode M.2.2.1 pc = .ok (.iload_n 0, 1)) (k : Ax G M d b (pc + 1) (.int x :: t) (.int x :: st) h Q) : Ax G M d b pc (.int x :: t) st h Q :=
  Ax_go (fun p e R s m args below meth c H locs cells slots ls Z C hR hL K => lv_iload_n C.1 C.2.1 hd rfl (hL.at (i := 0) rfl (by simp)) K) k
theorem Ax_il1 {a0 : Value} {t : List Value} {x : Int32} (hd : decode M.2.2.1 pc = .ok (.iload_n 1, 1)) (k : Ax G M d b (pc + 1) (a0 :: .int x :: t) (.int x :: st) h Q) : Ax G M d b pc (a0 :: .int x :: t) st h Q :=
  Ax_go (fun p e R s m args below meth c H locs cells slots ls Z C hR hL K => lv_iload_n C.1 C.2.1 hd rfl (hL.at (i := 1) rfl (by simp)) K) k
theorem Ax_il2 {a0 a1 : Value} {t : List Value} {x : Int32} (hd : decode M.2.2.1 pc = .ok (.iload_n 2, 1)) (k : Ax G M d b (pc + 1) (a0 :: a1 :: .int x :: t) (.int x :: st) h Q) : Ax G M d b pc (a0 :: a1 :: .int x :: t) st h Q :=
  Ax_go (fun p e R s m args below meth c H locs cells slots ls Z C hR hL K => lv_iload_n C.1 C.2.1 hd rfl (hL.at (i := 2) rfl (by simp)) K) k
theorem Ax_il3 {a0 a1 a2 : Value} {t : List Value} {x : Int32} (hd : decode M.2.2.1 pc = .ok (.iload_n 3, 1)) (k : Ax G M d b (pc + 1) (a0 :: a1 :: a2 :: .int x :: t) (.int x :: st) h Q) : Ax G M d b pc (a0 :: a1 :: a2 :: .int x :: t) st h Q :=
  Ax_go (fun p e R s m args below meth c H locs cells slots ls Z C hR hL K => lv_iload_n C.1 C.2.1 hd rfl (hL.at (i := 3) rfl (by simp)) K) k
theorem Ax_il4 {a0 a1 a2 a3 : Value} {t : List Value} {x : Int32} (hd : decode M.2.2.1 pc = .ok (.iload 4, 2)) (k : Ax G M d b (pc + 2) (a0 :: a1 :: a2 :: a3 :: .int x :: t) (.int x :: st) h Q) : Ax G M d b pc (a0 :: a1 :: a2 :: a3 :: .int x :: t) st h Q :=
  Ax_go (fun p e R s m args below meth c H locs cells slots ls Z C hR hL K => lv_iload C.1 C.2.1 hd (hL.at (i := 4) rfl (by simp)) K) k
theorem Ax_il5 {a0 a1 a2 a3 a4 : Value} {t : List Value} {x : Int32} (hd : decode M.2.2.1 pc = .ok (.iload 5, 2)) (k : Ax G M d b (pc + 2) (a0 :: a1 :: a2 :: a3 :: a4 :: .int x :: t) (.int x :: st) h Q) : Ax G M d b pc (a0 :: a1 :: a2 :: a3 :: a4 :: .int x :: t) st h Q :=
  Ax_go (fun p e R s m args below meth c H locs cells slots ls Z C hR hL K => lv_iload C.1 C.2.1 hd (hL.at (i := 5) rfl (by simp)) K) k
theorem Ax_il6 {a0 a1 a2 a3 a4 a5 : Value} {t : List Value} {x : Int32} (hd : decode M.2.2.1 pc = .ok (.iload 6, 2)) (k : Ax G M d b (pc + 2) (a0 :: a1 :: a2 :: a3 :: a4 :: a5 :: .int x :: t) (.int x :: st) h Q) : Ax G M d b pc (a0 :: a1 :: a2 :: a3 :: a4 :: a5 :: .int x :: t) st h Q :=
  Ax_go (fun p e R s m args below meth c H locs cells slots ls Z C hR hL K => lv_iload C.1 C.2.1 hd (hL.at (i := 6) rfl (by simp)) K) k
theorem Ax_il7 {a0 a1 a2 a3 a4 a5 a6 : Value} {t : List Value} {x : Int32} (hd : decode M.2.2.1 pc = .ok (.iload 7, 2)) (k : Ax G M d b (pc + 2) (a0 :: a1 :: a2 :: a3 :: a4 :: a5 :: a6 :: .int x :: t) (.int x :: st) h Q) : Ax G M d b pc (a0 :: a1 :: a2 :: a3 :: a4 :: a5 :: a6 :: .int x :: t) st h Q :=
  Ax_go (fun p e R s m args below meth c H locs cells slots ls Z C hR hL K => lv_iload C.1 C.2.1 hd (hL.at (i := 7) rfl (by simp)) K) k
theorem Ax_il8 {a0 a1 a2 a3 a4 a5 a6 a7 : Value} {t : List Value} {x : Int32} (hd : decode M.2.2.1 pc = .ok (.iload 8, 2)) (k : Ax G M d b (pc + 2) (a0 :: a1 :: a2 :: a3 :: a4 :: a5 :: a6 :: a7 :: .int x :: t) (.int x :: st) h Q) : Ax G M d b pc (a0 :: a1 :: a2 :: a3 :: a4 :: a5 :: a6 :: a7 :: .int x :: t) st h Q :=
  Ax_go (fun p e R s m args below meth c H locs cells slots ls Z C hR hL K => lv_iload C.1 C.2.1 hd (hL.at (i := 8) rfl (by simp)) K) k
theorem Ax_il9 {a0 a1 a2 a3 a4 a5 a6 a7 a8 : Value} {t : List Value} {x : Int32} (hd : decode M.2.2.1 pc = .ok (.iload 9, 2)) (k : Ax G M d b (pc + 2) (a0 :: a1 :: a2 :: a3 :: a4 :: a5 :: a6 :: a7 :: a8 :: .int x :: t) (.int x :: st) h Q) : Ax G M d b pc (a0 :: a1 :: a2 :: a3 :: a4 :: a5 :: a6 :: a7 :: a8 :: .int x :: t) st h Q :=
  Ax_go (fun p e R s m args below meth c H locs cells slots ls Z C hR hL K => lv_iload C.1 C.2.1 hd (hL.at (i := 9) rfl (by simp)) K) k
theorem Ax_il10 {a0 a1 a2 a3 a4 a5 a6 a7 a8 a9 : Value} {t : List Value} {x : Int32} (hd : decode M.2.2.1 pc = .ok (.iload 10, 2)) (k : Ax G M d b (pc + 2) (a0 :: a1 :: a2 :: a3 :: a4 :: a5 :: a6 :: a7 :: a8 :: a9 :: .int x :: t) (.int x :: st) h Q) : Ax G M d b pc (a0 :: a1 :: a2 :: a3 :: a4 :: a5 :: a6 :: a7 :: a8 :: a9 :: .int x :: t) st h Q :=
  Ax_go (fun p e R s m args below meth c H locs cells slots ls Z C hR hL K => lv_iload C.1 C.2.1 hd (hL.at (i := 10) rfl (by simp)) K) k
theorem Ax_is0 {t : List Value} {z0 : Value} {x : Int32} (hd : decode M.2.2.1 pc = .ok (.istore_n 0, 1)) (hn : 0 < M.2.2.2.1) (k : Ax G M d b (pc + 1) (.int x :: t) st h Q) : Ax G M d b pc (z0 :: t) (.int x :: st) h Q :=
  Ax_sto1 (i := 0) (fun p e R s m args below meth c H locs cells slots ls Z lv C hL hlv K => lv_istore_n C.1 C.2.1 hd rfl hlv hn rfl K) (fun j w e1 e2 => by omega) k
theorem Ax_is1 {a0 : Value} {t : List Value} {z0 : Value} {x : Int32} (hd : decode M.2.2.1 pc = .ok (.istore_n 1, 1)) (hn : 1 < M.2.2.2.1) (hp : a0.category = 1 := by rfl) (k : Ax G M d b (pc + 1) (a0 :: .int x :: t) st h Q) : Ax G M d b pc (a0 :: z0 :: t) (.int x :: st) h Q :=
  Ax_sto1 (i := 1) (fun p e R s m args below meth c H locs cells slots ls Z lv C hL hlv K => lv_istore_n C.1 C.2.1 hd rfl hlv hn rfl K) (fun j w e1 e2 => by (obtain rfl : j = 0 := by omega); cases e2; rw [hp]; decide) k
theorem Ax_is2 {a0 a1 : Value} {t : List Value} {z0 : Value} {x : Int32} (hd : decode M.2.2.1 pc = .ok (.istore_n 2, 1)) (hn : 2 < M.2.2.2.1) (hp : a1.category = 1 := by rfl) (k : Ax G M d b (pc + 1) (a0 :: a1 :: .int x :: t) st h Q) : Ax G M d b pc (a0 :: a1 :: z0 :: t) (.int x :: st) h Q :=
  Ax_sto1 (i := 2) (fun p e R s m args below meth c H locs cells slots ls Z lv C hL hlv K => lv_istore_n C.1 C.2.1 hd rfl hlv hn rfl K) (fun j w e1 e2 => by (obtain rfl : j = 1 := by omega); cases e2; rw [hp]; decide) k
theorem Ax_is3 {a0 a1 a2 : Value} {t : List Value} {z0 : Value} {x : Int32} (hd : decode M.2.2.1 pc = .ok (.istore_n 3, 1)) (hn : 3 < M.2.2.2.1) (hp : a2.category = 1 := by rfl) (k : Ax G M d b (pc + 1) (a0 :: a1 :: a2 :: .int x :: t) st h Q) : Ax G M d b pc (a0 :: a1 :: a2 :: z0 :: t) (.int x :: st) h Q :=
  Ax_sto1 (i := 3) (fun p e R s m args below meth c H locs cells slots ls Z lv C hL hlv K => lv_istore_n C.1 C.2.1 hd rfl hlv hn rfl K) (fun j w e1 e2 => by (obtain rfl : j = 2 := by omega); cases e2; rw [hp]; decide) k
theorem Ax_is4 {a0 a1 a2 a3 : Value} {t : List Value} {z0 : Value} {x : Int32} (hd : decode M.2.2.1 pc = .ok (.istore 4, 2)) (hn : 4 < M.2.2.2.1) (hp : a3.category = 1 := by rfl) (k : Ax G M d b (pc + 2) (a0 :: a1 :: a2 :: a3 :: .int x :: t) st h Q) : Ax G M d b pc (a0 :: a1 :: a2 :: a3 :: z0 :: t) (.int x :: st) h Q :=
  Ax_sto1 (i := 4) (fun p e R s m args below meth c H locs cells slots ls Z lv C hL hlv K => lv_istore C.1 C.2.1 hd hlv hn rfl K) (fun j w e1 e2 => by (obtain rfl : j = 3 := by omega); cases e2; rw [hp]; decide) k
theorem Ax_is5 {a0 a1 a2 a3 a4 : Value} {t : List Value} {z0 : Value} {x : Int32} (hd : decode M.2.2.1 pc = .ok (.istore 5, 2)) (hn : 5 < M.2.2.2.1) (hp : a4.category = 1 := by rfl) (k : Ax G M d b (pc + 2) (a0 :: a1 :: a2 :: a3 :: a4 :: .int x :: t) st h Q) : Ax G M d b pc (a0 :: a1 :: a2 :: a3 :: a4 :: z0 :: t) (.int x :: st) h Q :=
  Ax_sto1 (i := 5) (fun p e R s m args below meth c H locs cells slots ls Z lv C hL hlv K => lv_istore C.1 C.2.1 hd hlv hn rfl K) (fun j w e1 e2 => by (obtain rfl : j = 4 := by omega); cases e2; rw [hp]; decide) k
theorem Ax_is6 {a0 a1 a2 a3 a4 a5 : Value} {t : List Value} {z0 : Value} {x : Int32} (hd : decode M.2.2.1 pc = .ok (.istore 6, 2)) (hn : 6 < M.2.2.2.1) (hp : a5.category = 1 := by rfl) (k : Ax G M d b (pc + 2) (a0 :: a1 :: a2 :: a3 :: a4 :: a5 :: .int x :: t) st h Q) : Ax G M d b pc (a0 :: a1 :: a2 :: a3 :: a4 :: a5 :: z0 :: t) (.int x :: st) h Q :=
  Ax_sto1 (i := 6) (fun p e R s m args below meth c H locs cells slots ls Z lv C hL hlv K => lv_istore C.1 C.2.1 hd hlv hn rfl K) (fun j w e1 e2 => by (obtain rfl : j = 5 := by omega); cases e2; rw [hp]; decide) k
theorem Ax_is7 {a0 a1 a2 a3 a4 a5 a6 : Value} {t : List Value} {z0 : Value} {x : Int32} (hd : decode M.2.2.1 pc = .ok (.istore 7, 2)) (hn : 7 < M.2.2.2.1) (hp : a6.category = 1 := by rfl) (k : Ax G M d b (pc + 2) (a0 :: a1 :: a2 :: a3 :: a4 :: a5 :: a6 :: .int x :: t) st h Q) : Ax G M d b pc (a0 :: a1 :: a2 :: a3 :: a4 :: a5 :: a6 :: z0 :: t) (.int x :: st) h Q :=
  Ax_sto1 (i := 7) (fun p e R s m args below meth c H locs cells slots ls Z lv C hL hlv K => lv_istore C.1 C.2.1 hd hlv hn rfl K) (fun j w e1 e2 => by (obtain rfl : j = 6 := by omega); cases e2; rw [hp]; decide) k
theorem Ax_is8 {a0 a1 a2 a3 a4 a5 a6 a7 : Value} {t : List Value} {z0 : Value} {x : Int32} (hd : decode M.2.2.1 pc = .ok (.istore 8, 2)) (hn : 8 < M.2.2.2.1) (hp : a7.category = 1 := by rfl) (k : Ax G M d b (pc + 2) (a0 :: a1 :: a2 :: a3 :: a4 :: a5 :: a6 :: a7 :: .int x :: t) st h Q) : Ax G M d b pc (a0 :: a1 :: a2 :: a3 :: a4 :: a5 :: a6 :: a7 :: z0 :: t) (.int x :: st) h Q :=
  Ax_sto1 (i := 8) (fun p e R s m args below meth c H locs cells slots ls Z lv C hL hlv K => lv_istore C.1 C.2.1 hd hlv hn rfl K) (fun j w e1 e2 => by (obtain rfl : j = 7 := by omega); cases e2; rw [hp]; decide) k
theorem Ax_is9 {a0 a1 a2 a3 a4 a5 a6 a7 a8 : Value} {t : List Value} {z0 : Value} {x : Int32} (hd : decode M.2.2.1 pc = .ok (.istore 9, 2)) (hn : 9 < M.2.2.2.1) (hp : a8.category = 1 := by rfl) (k : Ax G M d b (pc + 2) (a0 :: a1 :: a2 :: a3 :: a4 :: a5 :: a6 :: a7 :: a8 :: .int x :: t) st h Q) : Ax G M d b pc (a0 :: a1 :: a2 :: a3 :: a4 :: a5 :: a6 :: a7 :: a8 :: z0 :: t) (.int x :: st) h Q :=
  Ax_sto1 (i := 9) (fun p e R s m args below meth c H locs cells slots ls Z lv C hL hlv K => lv_istore C.1 C.2.1 hd hlv hn rfl K) (fun j w e1 e2 => by (obtain rfl : j = 8 := by omega); cases e2; rw [hp]; decide) k
theorem Ax_is10 {a0 a1 a2 a3 a4 a5 a6 a7 a8 a9 : Value} {t : List Value} {z0 : Value} {x : Int32} (hd : decode M.2.2.1 pc = .ok (.istore 10, 2)) (hn : 10 < M.2.2.2.1) (hp : a9.category = 1 := by rfl) (k : Ax G M d b (pc + 2) (a0 :: a1 :: a2 :: a3 :: a4 :: a5 :: a6 :: a7 :: a8 :: a9 :: .int x :: t) st h Q) : Ax G M d b pc (a0 :: a1 :: a2 :: a3 :: a4 :: a5 :: a6 :: a7 :: a8 :: a9 :: z0 :: t) (.int x :: st) h Q :=
  Ax_sto1 (i := 10) (fun p e R s m args below meth c H locs cells slots ls Z lv C hL hlv K => lv_istore C.1 C.2.1 hd hlv hn rfl K) (fun j w e1 e2 => by (obtain rfl : j = 9 := by omega); cases e2; rw [hp]; decide) k
theorem Ax_ll0 {t : List Value} {x : Int64} (hd : decode M.2.2.1 pc = .ok (.lload_n 0, 1)) (k : Ax G M d b (pc + 1) (.long x :: t) (.long x :: st) h Q) : Ax G M d b pc (.long x :: t) st h Q :=
  Ax_go (fun p e R s m args below meth c H locs cells slots ls Z C hR hL K => lv_lload_n C.1 C.2.1 hd rfl (hL.at (i := 0) rfl (by simp)) K) k
theorem Ax_ll1 {a0 : Value} {t : List Value} {x : Int64} (hd : decode M.2.2.1 pc = .ok (.lload_n 1, 1)) (k : Ax G M d b (pc + 1) (a0 :: .long x :: t) (.long x :: st) h Q) : Ax G M d b pc (a0 :: .long x :: t) st h Q :=
  Ax_go (fun p e R s m args below meth c H locs cells slots ls Z C hR hL K => lv_lload_n C.1 C.2.1 hd rfl (hL.at (i := 1) rfl (by simp)) K) k
theorem Ax_ll2 {a0 a1 : Value} {t : List Value} {x : Int64} (hd : decode M.2.2.1 pc = .ok (.lload_n 2, 1)) (k : Ax G M d b (pc + 1) (a0 :: a1 :: .long x :: t) (.long x :: st) h Q) : Ax G M d b pc (a0 :: a1 :: .long x :: t) st h Q :=
  Ax_go (fun p e R s m args below meth c H locs cells slots ls Z C hR hL K => lv_lload_n C.1 C.2.1 hd rfl (hL.at (i := 2) rfl (by simp)) K) k
theorem Ax_ll3 {a0 a1 a2 : Value} {t : List Value} {x : Int64} (hd : decode M.2.2.1 pc = .ok (.lload_n 3, 1)) (k : Ax G M d b (pc + 1) (a0 :: a1 :: a2 :: .long x :: t) (.long x :: st) h Q) : Ax G M d b pc (a0 :: a1 :: a2 :: .long x :: t) st h Q :=
  Ax_go (fun p e R s m args below meth c H locs cells slots ls Z C hR hL K => lv_lload_n C.1 C.2.1 hd rfl (hL.at (i := 3) rfl (by simp)) K) k
theorem Ax_ll4 {a0 a1 a2 a3 : Value} {t : List Value} {x : Int64} (hd : decode M.2.2.1 pc = .ok (.lload 4, 2)) (k : Ax G M d b (pc + 2) (a0 :: a1 :: a2 :: a3 :: .long x :: t) (.long x :: st) h Q) : Ax G M d b pc (a0 :: a1 :: a2 :: a3 :: .long x :: t) st h Q :=
  Ax_go (fun p e R s m args below meth c H locs cells slots ls Z C hR hL K => lv_lload C.1 C.2.1 hd (hL.at (i := 4) rfl (by simp)) K) k
theorem Ax_ll5 {a0 a1 a2 a3 a4 : Value} {t : List Value} {x : Int64} (hd : decode M.2.2.1 pc = .ok (.lload 5, 2)) (k : Ax G M d b (pc + 2) (a0 :: a1 :: a2 :: a3 :: a4 :: .long x :: t) (.long x :: st) h Q) : Ax G M d b pc (a0 :: a1 :: a2 :: a3 :: a4 :: .long x :: t) st h Q :=
  Ax_go (fun p e R s m args below meth c H locs cells slots ls Z C hR hL K => lv_lload C.1 C.2.1 hd (hL.at (i := 5) rfl (by simp)) K) k
theorem Ax_ll6 {a0 a1 a2 a3 a4 a5 : Value} {t : List Value} {x : Int64} (hd : decode M.2.2.1 pc = .ok (.lload 6, 2)) (k : Ax G M d b (pc + 2) (a0 :: a1 :: a2 :: a3 :: a4 :: a5 :: .long x :: t) (.long x :: st) h Q) : Ax G M d b pc (a0 :: a1 :: a2 :: a3 :: a4 :: a5 :: .long x :: t) st h Q :=
  Ax_go (fun p e R s m args below meth c H locs cells slots ls Z C hR hL K => lv_lload C.1 C.2.1 hd (hL.at (i := 6) rfl (by simp)) K) k
theorem Ax_ll7 {a0 a1 a2 a3 a4 a5 a6 : Value} {t : List Value} {x : Int64} (hd : decode M.2.2.1 pc = .ok (.lload 7, 2)) (k : Ax G M d b (pc + 2) (a0 :: a1 :: a2 :: a3 :: a4 :: a5 :: a6 :: .long x :: t) (.long x :: st) h Q) : Ax G M d b pc (a0 :: a1 :: a2 :: a3 :: a4 :: a5 :: a6 :: .long x :: t) st h Q :=
  Ax_go (fun p e R s m args below meth c H locs cells slots ls Z C hR hL K => lv_lload C.1 C.2.1 hd (hL.at (i := 7) rfl (by simp)) K) k
theorem Ax_ll9 {a0 a1 a2 a3 a4 a5 a6 a7 a8 : Value} {t : List Value} {x : Int64} (hd : decode M.2.2.1 pc = .ok (.lload 9, 2)) (k : Ax G M d b (pc + 2) (a0 :: a1 :: a2 :: a3 :: a4 :: a5 :: a6 :: a7 :: a8 :: .long x :: t) (.long x :: st) h Q) : Ax G M d b pc (a0 :: a1 :: a2 :: a3 :: a4 :: a5 :: a6 :: a7 :: a8 :: .long x :: t) st h Q :=
  Ax_go (fun p e R s m args below meth c H locs cells slots ls Z C hR hL K => lv_lload C.1 C.2.1 hd (hL.at (i := 9) rfl (by simp)) K) k
theorem Ax_ll11 {a0 a1 a2 a3 a4 a5 a6 a7 a8 a9 a10 : Value} {t : List Value} {x : Int64} (hd : decode M.2.2.1 pc = .ok (.lload 11, 2)) (k : Ax G M d b (pc + 2) (a0 :: a1 :: a2 :: a3 :: a4 :: a5 :: a6 :: a7 :: a8 :: a9 :: a10 :: .long x :: t) (.long x :: st) h Q) : Ax G M d b pc (a0 :: a1 :: a2 :: a3 :: a4 :: a5 :: a6 :: a7 :: a8 :: a9 :: a10 :: .long x :: t) st h Q :=
  Ax_go (fun p e R s m args below meth c H locs cells slots ls Z C hR hL K => lv_lload C.1 C.2.1 hd (hL.at (i := 11) rfl (by simp)) K) k
theorem Ax_ls1 {a0 : Value} {t : List Value} {z0 z1 : Value} {x : Int64} (hd : decode M.2.2.1 pc = .ok (.lstore_n 1, 1)) (hn : 1 + 1 < M.2.2.2.1) (hp : a0.category = 1 := by rfl) (k : Ax G M d b (pc + 1) (a0 :: .long x :: .null :: t) st h Q) : Ax G M d b pc (a0 :: z0 :: z1 :: t) (.long x :: st) h Q :=
  Ax_sto2 (i := 1) (fun p e R s m args below meth c H locs cells slots ls Z lv C hL hlv K => lv_lstore_n C.1 C.2.1 hd rfl hlv hn rfl K) (fun j w e1 e2 => by (obtain rfl : j = 0 := by omega); cases e2; rw [hp]; decide) k
theorem Ax_ls2 {a0 a1 : Value} {t : List Value} {z0 z1 : Value} {x : Int64} (hd : decode M.2.2.1 pc = .ok (.lstore_n 2, 1)) (hn : 2 + 1 < M.2.2.2.1) (hp : a1.category = 1 := by rfl) (k : Ax G M d b (pc + 1) (a0 :: a1 :: .long x :: .null :: t) st h Q) : Ax G M d b pc (a0 :: a1 :: z0 :: z1 :: t) (.long x :: st) h Q :=
  Ax_sto2 (i := 2) (fun p e R s m args below meth c H locs cells slots ls Z lv C hL hlv K => lv_lstore_n C.1 C.2.1 hd rfl hlv hn rfl K) (fun j w e1 e2 => by (obtain rfl : j = 1 := by omega); cases e2; rw [hp]; decide) k
theorem Ax_ls3 {a0 a1 a2 : Value} {t : List Value} {z0 z1 : Value} {x : Int64} (hd : decode M.2.2.1 pc = .ok (.lstore_n 3, 1)) (hn : 3 + 1 < M.2.2.2.1) (hp : a2.category = 1 := by rfl) (k : Ax G M d b (pc + 1) (a0 :: a1 :: a2 :: .long x :: .null :: t) st h Q) : Ax G M d b pc (a0 :: a1 :: a2 :: z0 :: z1 :: t) (.long x :: st) h Q :=
  Ax_sto2 (i := 3) (fun p e R s m args below meth c H locs cells slots ls Z lv C hL hlv K => lv_lstore_n C.1 C.2.1 hd rfl hlv hn rfl K) (fun j w e1 e2 => by (obtain rfl : j = 2 := by omega); cases e2; rw [hp]; decide) k
theorem Ax_ls4 {a0 a1 a2 a3 : Value} {t : List Value} {z0 z1 : Value} {x : Int64} (hd : decode M.2.2.1 pc = .ok (.lstore 4, 2)) (hn : 4 + 1 < M.2.2.2.1) (hp : a3.category = 1 := by rfl) (k : Ax G M d b (pc + 2) (a0 :: a1 :: a2 :: a3 :: .long x :: .null :: t) st h Q) : Ax G M d b pc (a0 :: a1 :: a2 :: a3 :: z0 :: z1 :: t) (.long x :: st) h Q :=
  Ax_sto2 (i := 4) (fun p e R s m args below meth c H locs cells slots ls Z lv C hL hlv K => lv_lstore C.1 C.2.1 hd hlv hn rfl K) (fun j w e1 e2 => by (obtain rfl : j = 3 := by omega); cases e2; rw [hp]; decide) k
theorem Ax_ls5 {a0 a1 a2 a3 a4 : Value} {t : List Value} {z0 z1 : Value} {x : Int64} (hd : decode M.2.2.1 pc = .ok (.lstore 5, 2)) (hn : 5 + 1 < M.2.2.2.1) (hp : a4.category = 1 := by rfl) (k : Ax G M d b (pc + 2) (a0 :: a1 :: a2 :: a3 :: a4 :: .long x :: .null :: t) st h Q) : Ax G M d b pc (a0 :: a1 :: a2 :: a3 :: a4 :: z0 :: z1 :: t) (.long x :: st) h Q :=
  Ax_sto2 (i := 5) (fun p e R s m args below meth c H locs cells slots ls Z lv C hL hlv K => lv_lstore C.1 C.2.1 hd hlv hn rfl K) (fun j w e1 e2 => by (obtain rfl : j = 4 := by omega); cases e2; rw [hp]; decide) k
theorem Ax_ls6 {a0 a1 a2 a3 a4 a5 : Value} {t : List Value} {z0 z1 : Value} {x : Int64} (hd : decode M.2.2.1 pc = .ok (.lstore 6, 2)) (hn : 6 + 1 < M.2.2.2.1) (hp : a5.category = 1 := by rfl) (k : Ax G M d b (pc + 2) (a0 :: a1 :: a2 :: a3 :: a4 :: a5 :: .long x :: .null :: t) st h Q) : Ax G M d b pc (a0 :: a1 :: a2 :: a3 :: a4 :: a5 :: z0 :: z1 :: t) (.long x :: st) h Q :=
  Ax_sto2 (i := 6) (fun p e R s m args below meth c H locs cells slots ls Z lv C hL hlv K => lv_lstore C.1 C.2.1 hd hlv hn rfl K) (fun j w e1 e2 => by (obtain rfl : j = 5 := by omega); cases e2; rw [hp]; decide) k
theorem Ax_ls7 {a0 a1 a2 a3 a4 a5 a6 : Value} {t : List Value} {z0 z1 : Value} {x : Int64} (hd : decode M.2.2.1 pc = .ok (.lstore 7, 2)) (hn : 7 + 1 < M.2.2.2.1) (hp : a6.category = 1 := by rfl) (k : Ax G M d b (pc + 2) (a0 :: a1 :: a2 :: a3 :: a4 :: a5 :: a6 :: .long x :: .null :: t) st h Q) : Ax G M d b pc (a0 :: a1 :: a2 :: a3 :: a4 :: a5 :: a6 :: z0 :: z1 :: t) (.long x :: st) h Q :=
  Ax_sto2 (i := 7) (fun p e R s m args below meth c H locs cells slots ls Z lv C hL hlv K => lv_lstore C.1 C.2.1 hd hlv hn rfl K) (fun j w e1 e2 => by (obtain rfl : j = 6 := by omega); cases e2; rw [hp]; decide) k
theorem Ax_ls9 {a0 a1 a2 a3 a4 a5 a6 a7 a8 : Value} {t : List Value} {z0 z1 : Value} {x : Int64} (hd : decode M.2.2.1 pc = .ok (.lstore 9, 2)) (hn : 9 + 1 < M.2.2.2.1) (hp : a8.category = 1 := by rfl) (k : Ax G M d b (pc + 2) (a0 :: a1 :: a2 :: a3 :: a4 :: a5 :: a6 :: a7 :: a8 :: .long x :: .null :: t) st h Q) : Ax G M d b pc (a0 :: a1 :: a2 :: a3 :: a4 :: a5 :: a6 :: a7 :: a8 :: z0 :: z1 :: t) (.long x :: st) h Q :=
  Ax_sto2 (i := 9) (fun p e R s m args below meth c H locs cells slots ls Z lv C hL hlv K => lv_lstore C.1 C.2.1 hd hlv hn rfl K) (fun j w e1 e2 => by (obtain rfl : j = 8 := by omega); cases e2; rw [hp]; decide) k
theorem Ax_ls11 {a0 a1 a2 a3 a4 a5 a6 a7 a8 a9 a10 : Value} {t : List Value} {z0 z1 : Value} {x : Int64} (hd : decode M.2.2.1 pc = .ok (.lstore 11, 2)) (hn : 11 + 1 < M.2.2.2.1) (hp : a10.category = 1 := by rfl) (k : Ax G M d b (pc + 2) (a0 :: a1 :: a2 :: a3 :: a4 :: a5 :: a6 :: a7 :: a8 :: a9 :: a10 :: .long x :: .null :: t) st h Q) : Ax G M d b pc (a0 :: a1 :: a2 :: a3 :: a4 :: a5 :: a6 :: a7 :: a8 :: a9 :: a10 :: z0 :: z1 :: t) (.long x :: st) h Q :=
  Ax_sto2 (i := 11) (fun p e R s m args below meth c H locs cells slots ls Z lv C hL hlv K => lv_lstore C.1 C.2.1 hd hlv hn rfl K) (fun j w e1 e2 => by (obtain rfl : j = 10 := by omega); cases e2; rw [hp]; decide) k
theorem Ax_al0 {t : List Value} {x : Nat} (hd : decode M.2.2.1 pc = .ok (.aload_n 0, 1)) (k : Ax G M d b (pc + 1) (.ref x :: t) (.ref x :: st) h Q) : Ax G M d b pc (.ref x :: t) st h Q :=
  Ax_go (fun p e R s m args below meth c H locs cells slots ls Z C hR hL K => lv_aload_n C.1 C.2.1 hd rfl (hL.at (i := 0) rfl (by simp)) K) k
theorem Ax_al1 {a0 : Value} {t : List Value} {x : Nat} (hd : decode M.2.2.1 pc = .ok (.aload_n 1, 1)) (k : Ax G M d b (pc + 1) (a0 :: .ref x :: t) (.ref x :: st) h Q) : Ax G M d b pc (a0 :: .ref x :: t) st h Q :=
  Ax_go (fun p e R s m args below meth c H locs cells slots ls Z C hR hL K => lv_aload_n C.1 C.2.1 hd rfl (hL.at (i := 1) rfl (by simp)) K) k
theorem Ax_al2 {a0 a1 : Value} {t : List Value} {x : Nat} (hd : decode M.2.2.1 pc = .ok (.aload_n 2, 1)) (k : Ax G M d b (pc + 1) (a0 :: a1 :: .ref x :: t) (.ref x :: st) h Q) : Ax G M d b pc (a0 :: a1 :: .ref x :: t) st h Q :=
  Ax_go (fun p e R s m args below meth c H locs cells slots ls Z C hR hL K => lv_aload_n C.1 C.2.1 hd rfl (hL.at (i := 2) rfl (by simp)) K) k
theorem Ax_al3 {a0 a1 a2 : Value} {t : List Value} {x : Nat} (hd : decode M.2.2.1 pc = .ok (.aload_n 3, 1)) (k : Ax G M d b (pc + 1) (a0 :: a1 :: a2 :: .ref x :: t) (.ref x :: st) h Q) : Ax G M d b pc (a0 :: a1 :: a2 :: .ref x :: t) st h Q :=
  Ax_go (fun p e R s m args below meth c H locs cells slots ls Z C hR hL K => lv_aload_n C.1 C.2.1 hd rfl (hL.at (i := 3) rfl (by simp)) K) k
theorem Ax_as1 {a0 : Value} {t : List Value} {z0 : Value} {x : Nat} (hd : decode M.2.2.1 pc = .ok (.astore_n 1, 1)) (hn : 1 < M.2.2.2.1) (hp : a0.category = 1 := by rfl) (k : Ax G M d b (pc + 1) (a0 :: .ref x :: t) st h Q) : Ax G M d b pc (a0 :: z0 :: t) (.ref x :: st) h Q :=
  Ax_sto1 (i := 1) (fun p e R s m args below meth c H locs cells slots ls Z lv C hL hlv K => lv_astore_n C.1 C.2.1 hd rfl hlv hn rfl K) (fun j w e1 e2 => by (obtain rfl : j = 0 := by omega); cases e2; rw [hp]; decide) k
theorem Ax_as2 {a0 a1 : Value} {t : List Value} {z0 : Value} {x : Nat} (hd : decode M.2.2.1 pc = .ok (.astore_n 2, 1)) (hn : 2 < M.2.2.2.1) (hp : a1.category = 1 := by rfl) (k : Ax G M d b (pc + 1) (a0 :: a1 :: .ref x :: t) st h Q) : Ax G M d b pc (a0 :: a1 :: z0 :: t) (.ref x :: st) h Q :=
  Ax_sto1 (i := 2) (fun p e R s m args below meth c H locs cells slots ls Z lv C hL hlv K => lv_astore_n C.1 C.2.1 hd rfl hlv hn rfl K) (fun j w e1 e2 => by (obtain rfl : j = 1 := by omega); cases e2; rw [hp]; decide) k
theorem Ax_inc1_m1 {a0 : Value} {t : List Value} {x : Int32} (hd : decode M.2.2.1 pc = .ok (.iinc 1 (-1), 3)) (hn : 1 < M.2.2.2.1) (hp : a0.category = 1 := by rfl) (k : Ax G M d b (pc + 3) (a0 :: .int (x + (-1)) :: t) st h Q) : Ax G M d b pc (a0 :: .int x :: t) st h Q :=
  Ax_inc (i := 1) (x := x) (n := (-1)) hd hn rfl (by rfl) (fun j w e1 e2 => by (obtain rfl : j = 0 := by omega); cases e2; rw [hp]; decide) k
theorem Ax_inc1_m1n {a0 : Value} {t : List Value} {x : Nat} (hd : decode M.2.2.1 pc = .ok (.iinc 1 (-1), 3)) (hn : 1 < M.2.2.2.1) (hp : a0.category = 1 := by rfl) (k : Ax G M d b (pc + 3) (a0 :: .int (nI x) :: t) st h Q) : Ax G M d b pc (a0 :: .int (nI (x + 1)) :: t) st h Q :=
  Ax_inc1_m1 hd hn hp (by rw [pk_m1]; exact k)
theorem Ax_inc1_1 {a0 : Value} {t : List Value} {x : Int32} (hd : decode M.2.2.1 pc = .ok (.iinc 1 1, 3)) (hn : 1 < M.2.2.2.1) (hp : a0.category = 1 := by rfl) (k : Ax G M d b (pc + 3) (a0 :: .int (x + 1) :: t) st h Q) : Ax G M d b pc (a0 :: .int x :: t) st h Q :=
  Ax_inc (i := 1) (x := x) (n := 1) hd hn rfl (by rfl) (fun j w e1 e2 => by (obtain rfl : j = 0 := by omega); cases e2; rw [hp]; decide) k
theorem Ax_inc1_1n {a0 : Value} {t : List Value} {x : Nat} (hd : decode M.2.2.1 pc = .ok (.iinc 1 1, 3)) (hn : 1 < M.2.2.2.1) (hp : a0.category = 1 := by rfl) (k : Ax G M d b (pc + 3) (a0 :: .int (nI (x + 1)) :: t) st h Q) : Ax G M d b pc (a0 :: .int (nI x) :: t) st h Q :=
  Ax_inc1_1 hd hn hp (by rw [nI_1]; exact k)
theorem Ax_inc2_m1 {a0 a1 : Value} {t : List Value} {x : Int32} (hd : decode M.2.2.1 pc = .ok (.iinc 2 (-1), 3)) (hn : 2 < M.2.2.2.1) (hp : a1.category = 1 := by rfl) (k : Ax G M d b (pc + 3) (a0 :: a1 :: .int (x + (-1)) :: t) st h Q) : Ax G M d b pc (a0 :: a1 :: .int x :: t) st h Q :=
  Ax_inc (i := 2) (x := x) (n := (-1)) hd hn rfl (by rfl) (fun j w e1 e2 => by (obtain rfl : j = 1 := by omega); cases e2; rw [hp]; decide) k
theorem Ax_inc2_m1n {a0 a1 : Value} {t : List Value} {x : Nat} (hd : decode M.2.2.1 pc = .ok (.iinc 2 (-1), 3)) (hn : 2 < M.2.2.2.1) (hp : a1.category = 1 := by rfl) (k : Ax G M d b (pc + 3) (a0 :: a1 :: .int (nI x) :: t) st h Q) : Ax G M d b pc (a0 :: a1 :: .int (nI (x + 1)) :: t) st h Q :=
  Ax_inc2_m1 hd hn hp (by rw [pk_m1]; exact k)
theorem Ax_inc2_1 {a0 a1 : Value} {t : List Value} {x : Int32} (hd : decode M.2.2.1 pc = .ok (.iinc 2 1, 3)) (hn : 2 < M.2.2.2.1) (hp : a1.category = 1 := by rfl) (k : Ax G M d b (pc + 3) (a0 :: a1 :: .int (x + 1) :: t) st h Q) : Ax G M d b pc (a0 :: a1 :: .int x :: t) st h Q :=
  Ax_inc (i := 2) (x := x) (n := 1) hd hn rfl (by rfl) (fun j w e1 e2 => by (obtain rfl : j = 1 := by omega); cases e2; rw [hp]; decide) k
theorem Ax_inc2_1n {a0 a1 : Value} {t : List Value} {x : Nat} (hd : decode M.2.2.1 pc = .ok (.iinc 2 1, 3)) (hn : 2 < M.2.2.2.1) (hp : a1.category = 1 := by rfl) (k : Ax G M d b (pc + 3) (a0 :: a1 :: .int (nI (x + 1)) :: t) st h Q) : Ax G M d b pc (a0 :: a1 :: .int (nI x) :: t) st h Q :=
  Ax_inc2_1 hd hn hp (by rw [nI_1]; exact k)
theorem Ax_inc3_m4 {a0 a1 a2 : Value} {t : List Value} {x : Int32} (hd : decode M.2.2.1 pc = .ok (.iinc 3 (-4), 3)) (hn : 3 < M.2.2.2.1) (hp : a2.category = 1 := by rfl) (k : Ax G M d b (pc + 3) (a0 :: a1 :: a2 :: .int (x + (-4)) :: t) st h Q) : Ax G M d b pc (a0 :: a1 :: a2 :: .int x :: t) st h Q :=
  Ax_inc (i := 3) (x := x) (n := (-4)) hd hn rfl (by rfl) (fun j w e1 e2 => by (obtain rfl : j = 2 := by omega); cases e2; rw [hp]; decide) k
theorem Ax_inc3_1 {a0 a1 a2 : Value} {t : List Value} {x : Int32} (hd : decode M.2.2.1 pc = .ok (.iinc 3 1, 3)) (hn : 3 < M.2.2.2.1) (hp : a2.category = 1 := by rfl) (k : Ax G M d b (pc + 3) (a0 :: a1 :: a2 :: .int (x + 1) :: t) st h Q) : Ax G M d b pc (a0 :: a1 :: a2 :: .int x :: t) st h Q :=
  Ax_inc (i := 3) (x := x) (n := 1) hd hn rfl (by rfl) (fun j w e1 e2 => by (obtain rfl : j = 2 := by omega); cases e2; rw [hp]; decide) k
theorem Ax_inc3_1n {a0 a1 a2 : Value} {t : List Value} {x : Nat} (hd : decode M.2.2.1 pc = .ok (.iinc 3 1, 3)) (hn : 3 < M.2.2.2.1) (hp : a2.category = 1 := by rfl) (k : Ax G M d b (pc + 3) (a0 :: a1 :: a2 :: .int (nI (x + 1)) :: t) st h Q) : Ax G M d b pc (a0 :: a1 :: a2 :: .int (nI x) :: t) st h Q :=
  Ax_inc3_1 hd hn hp (by rw [nI_1]; exact k)
theorem Ax_inc3_5 {a0 a1 a2 : Value} {t : List Value} {x : Int32} (hd : decode M.2.2.1 pc = .ok (.iinc 3 5, 3)) (hn : 3 < M.2.2.2.1) (hp : a2.category = 1 := by rfl) (k : Ax G M d b (pc + 3) (a0 :: a1 :: a2 :: .int (x + 5) :: t) st h Q) : Ax G M d b pc (a0 :: a1 :: a2 :: .int x :: t) st h Q :=
  Ax_inc (i := 3) (x := x) (n := 5) hd hn rfl (by rfl) (fun j w e1 e2 => by (obtain rfl : j = 2 := by omega); cases e2; rw [hp]; decide) k
theorem Ax_inc4_1 {a0 a1 a2 a3 : Value} {t : List Value} {x : Int32} (hd : decode M.2.2.1 pc = .ok (.iinc 4 1, 3)) (hn : 4 < M.2.2.2.1) (hp : a3.category = 1 := by rfl) (k : Ax G M d b (pc + 3) (a0 :: a1 :: a2 :: a3 :: .int (x + 1) :: t) st h Q) : Ax G M d b pc (a0 :: a1 :: a2 :: a3 :: .int x :: t) st h Q :=
  Ax_inc (i := 4) (x := x) (n := 1) hd hn rfl (by rfl) (fun j w e1 e2 => by (obtain rfl : j = 3 := by omega); cases e2; rw [hp]; decide) k
theorem Ax_inc4_1n {a0 a1 a2 a3 : Value} {t : List Value} {x : Nat} (hd : decode M.2.2.1 pc = .ok (.iinc 4 1, 3)) (hn : 4 < M.2.2.2.1) (hp : a3.category = 1 := by rfl) (k : Ax G M d b (pc + 3) (a0 :: a1 :: a2 :: a3 :: .int (nI (x + 1)) :: t) st h Q) : Ax G M d b pc (a0 :: a1 :: a2 :: a3 :: .int (nI x) :: t) st h Q :=
  Ax_inc4_1 hd hn hp (by rw [nI_1]; exact k)
theorem Ax_inc5_1 {a0 a1 a2 a3 a4 : Value} {t : List Value} {x : Int32} (hd : decode M.2.2.1 pc = .ok (.iinc 5 1, 3)) (hn : 5 < M.2.2.2.1) (hp : a4.category = 1 := by rfl) (k : Ax G M d b (pc + 3) (a0 :: a1 :: a2 :: a3 :: a4 :: .int (x + 1) :: t) st h Q) : Ax G M d b pc (a0 :: a1 :: a2 :: a3 :: a4 :: .int x :: t) st h Q :=
  Ax_inc (i := 5) (x := x) (n := 1) hd hn rfl (by rfl) (fun j w e1 e2 => by (obtain rfl : j = 4 := by omega); cases e2; rw [hp]; decide) k
theorem Ax_inc5_1n {a0 a1 a2 a3 a4 : Value} {t : List Value} {x : Nat} (hd : decode M.2.2.1 pc = .ok (.iinc 5 1, 3)) (hn : 5 < M.2.2.2.1) (hp : a4.category = 1 := by rfl) (k : Ax G M d b (pc + 3) (a0 :: a1 :: a2 :: a3 :: a4 :: .int (nI (x + 1)) :: t) st h Q) : Ax G M d b pc (a0 :: a1 :: a2 :: a3 :: a4 :: .int (nI x) :: t) st h Q :=
  Ax_inc5_1 hd hn hp (by rw [nI_1]; exact k)
theorem Ax_inc6_1 {a0 a1 a2 a3 a4 a5 : Value} {t : List Value} {x : Int32} (hd : decode M.2.2.1 pc = .ok (.iinc 6 1, 3)) (hn : 6 < M.2.2.2.1) (hp : a5.category = 1 := by rfl) (k : Ax G M d b (pc + 3) (a0 :: a1 :: a2 :: a3 :: a4 :: a5 :: .int (x + 1) :: t) st h Q) : Ax G M d b pc (a0 :: a1 :: a2 :: a3 :: a4 :: a5 :: .int x :: t) st h Q :=
  Ax_inc (i := 6) (x := x) (n := 1) hd hn rfl (by rfl) (fun j w e1 e2 => by (obtain rfl : j = 5 := by omega); cases e2; rw [hp]; decide) k
theorem Ax_inc6_1n {a0 a1 a2 a3 a4 a5 : Value} {t : List Value} {x : Nat} (hd : decode M.2.2.1 pc = .ok (.iinc 6 1, 3)) (hn : 6 < M.2.2.2.1) (hp : a5.category = 1 := by rfl) (k : Ax G M d b (pc + 3) (a0 :: a1 :: a2 :: a3 :: a4 :: a5 :: .int (nI (x + 1)) :: t) st h Q) : Ax G M d b pc (a0 :: a1 :: a2 :: a3 :: a4 :: a5 :: .int (nI x) :: t) st h Q :=
  Ax_inc6_1 hd hn hp (by rw [nI_1]; exact k)
theorem Ax_inc7_1 {a0 a1 a2 a3 a4 a5 a6 : Value} {t : List Value} {x : Int32} (hd : decode M.2.2.1 pc = .ok (.iinc 7 1, 3)) (hn : 7 < M.2.2.2.1) (hp : a6.category = 1 := by rfl) (k : Ax G M d b (pc + 3) (a0 :: a1 :: a2 :: a3 :: a4 :: a5 :: a6 :: .int (x + 1) :: t) st h Q) : Ax G M d b pc (a0 :: a1 :: a2 :: a3 :: a4 :: a5 :: a6 :: .int x :: t) st h Q :=
  Ax_inc (i := 7) (x := x) (n := 1) hd hn rfl (by rfl) (fun j w e1 e2 => by (obtain rfl : j = 6 := by omega); cases e2; rw [hp]; decide) k
theorem Ax_inc7_1n {a0 a1 a2 a3 a4 a5 a6 : Value} {t : List Value} {x : Nat} (hd : decode M.2.2.1 pc = .ok (.iinc 7 1, 3)) (hn : 7 < M.2.2.2.1) (hp : a6.category = 1 := by rfl) (k : Ax G M d b (pc + 3) (a0 :: a1 :: a2 :: a3 :: a4 :: a5 :: a6 :: .int (nI (x + 1)) :: t) st h Q) : Ax G M d b pc (a0 :: a1 :: a2 :: a3 :: a4 :: a5 :: a6 :: .int (nI x) :: t) st h Q :=
  Ax_inc7_1 hd hn hp (by rw [nI_1]; exact k)
theorem Ax_inc8_1 {a0 a1 a2 a3 a4 a5 a6 a7 : Value} {t : List Value} {x : Int32} (hd : decode M.2.2.1 pc = .ok (.iinc 8 1, 3)) (hn : 8 < M.2.2.2.1) (hp : a7.category = 1 := by rfl) (k : Ax G M d b (pc + 3) (a0 :: a1 :: a2 :: a3 :: a4 :: a5 :: a6 :: a7 :: .int (x + 1) :: t) st h Q) : Ax G M d b pc (a0 :: a1 :: a2 :: a3 :: a4 :: a5 :: a6 :: a7 :: .int x :: t) st h Q :=
  Ax_inc (i := 8) (x := x) (n := 1) hd hn rfl (by rfl) (fun j w e1 e2 => by (obtain rfl : j = 7 := by omega); cases e2; rw [hp]; decide) k
theorem Ax_inc8_1n {a0 a1 a2 a3 a4 a5 a6 a7 : Value} {t : List Value} {x : Nat} (hd : decode M.2.2.1 pc = .ok (.iinc 8 1, 3)) (hn : 8 < M.2.2.2.1) (hp : a7.category = 1 := by rfl) (k : Ax G M d b (pc + 3) (a0 :: a1 :: a2 :: a3 :: a4 :: a5 :: a6 :: a7 :: .int (nI (x + 1)) :: t) st h Q) : Ax G M d b pc (a0 :: a1 :: a2 :: a3 :: a4 :: a5 :: a6 :: a7 :: .int (nI x) :: t) st h Q :=
  Ax_inc8_1 hd hn hp (by rw [nI_1]; exact k)
theorem Ax_inc9_1 {a0 a1 a2 a3 a4 a5 a6 a7 a8 : Value} {t : List Value} {x : Int32} (hd : decode M.2.2.1 pc = .ok (.iinc 9 1, 3)) (hn : 9 < M.2.2.2.1) (hp : a8.category = 1 := by rfl) (k : Ax G M d b (pc + 3) (a0 :: a1 :: a2 :: a3 :: a4 :: a5 :: a6 :: a7 :: a8 :: .int (x + 1) :: t) st h Q) : Ax G M d b pc (a0 :: a1 :: a2 :: a3 :: a4 :: a5 :: a6 :: a7 :: a8 :: .int x :: t) st h Q :=
  Ax_inc (i := 9) (x := x) (n := 1) hd hn rfl (by rfl) (fun j w e1 e2 => by (obtain rfl : j = 8 := by omega); cases e2; rw [hp]; decide) k
theorem Ax_inc9_1n {a0 a1 a2 a3 a4 a5 a6 a7 a8 : Value} {t : List Value} {x : Nat} (hd : decode M.2.2.1 pc = .ok (.iinc 9 1, 3)) (hn : 9 < M.2.2.2.1) (hp : a8.category = 1 := by rfl) (k : Ax G M d b (pc + 3) (a0 :: a1 :: a2 :: a3 :: a4 :: a5 :: a6 :: a7 :: a8 :: .int (nI (x + 1)) :: t) st h Q) : Ax G M d b pc (a0 :: a1 :: a2 :: a3 :: a4 :: a5 :: a6 :: a7 :: a8 :: .int (nI x) :: t) st h Q :=
  Ax_inc9_1 hd hn hp (by rw [nI_1]; exact k)
theorem Ax_inc10_1 {a0 a1 a2 a3 a4 a5 a6 a7 a8 a9 : Value} {t : List Value} {x : Int32} (hd : decode M.2.2.1 pc = .ok (.iinc 10 1, 3)) (hn : 10 < M.2.2.2.1) (hp : a9.category = 1 := by rfl) (k : Ax G M d b (pc + 3) (a0 :: a1 :: a2 :: a3 :: a4 :: a5 :: a6 :: a7 :: a8 :: a9 :: .int (x + 1) :: t) st h Q) : Ax G M d b pc (a0 :: a1 :: a2 :: a3 :: a4 :: a5 :: a6 :: a7 :: a8 :: a9 :: .int x :: t) st h Q :=
  Ax_inc (i := 10) (x := x) (n := 1) hd hn rfl (by rfl) (fun j w e1 e2 => by (obtain rfl : j = 9 := by omega); cases e2; rw [hp]; decide) k
theorem Ax_inc10_1n {a0 a1 a2 a3 a4 a5 a6 a7 a8 a9 : Value} {t : List Value} {x : Nat} (hd : decode M.2.2.1 pc = .ok (.iinc 10 1, 3)) (hn : 10 < M.2.2.2.1) (hp : a9.category = 1 := by rfl) (k : Ax G M d b (pc + 3) (a0 :: a1 :: a2 :: a3 :: a4 :: a5 :: a6 :: a7 :: a8 :: a9 :: .int (nI (x + 1)) :: t) st h Q) : Ax G M d b pc (a0 :: a1 :: a2 :: a3 :: a4 :: a5 :: a6 :: a7 :: a8 :: a9 :: .int (nI x) :: t) st h Q :=
  Ax_inc10_1 hd hn hp (by rw [nI_1]; exact k)
end
end
section
section
variable {G : xG} {M : xM} {d b pc : Nat} {L st : List Value} {h : xH} {Q : Option Value → xH → Prop}
/-! cells -/
def xup (h : xH) (a : Nat) (c : xC) : xH := (fun i => if i = a then c else h.1 i, h.2)
def xnew (h : xH) (c : xC) : xH := (fun i => if i = h.2 then c else h.1 i, h.2 + 1)
theorem x_a_lt {a : Nat} {H : Heap} (hR : x_R G h H) (ha : a < h.2) : x_a G a = x_B G + a := by
  have := hR.2.1
  unfold x_a
  rw [if_pos (by omega)]
theorem x_in_I {a t n : Nat} {f : Nat → Int32} {H : Heap} (hR : x_R G h H) (hc : h.1 a = cI t n f) : a < h.2 := by
  rcases Nat.lt_or_ge a h.2 with q | q
  · exact q
  · rw [hR.2.2.2.1 a q] at hc; cases hc
theorem x_in_J {a n : Nat} {f : Nat → Int64} {H : Heap} (hR : x_R G h H) (hc : h.1 a = cJ n f) : a < h.2 := by
  rcases Nat.lt_or_ge a h.2 with q | q
  · exact q
  · rw [hR.2.2.2.1 a q] at hc; cases hc
theorem x_in_O {a ci : Nat} {fs : List Value} {H : Heap} (hR : x_R G h H) (hi : ci < 99) (hc : h.1 a = cO ci fs) : a < h.2 := by
  rcases Nat.lt_or_ge a h.2 with q | q
  · exact q
  · rw [hR.2.2.2.1 a q] at hc
    cases hc
    omega
theorem x_R.set {a : Nat} {c : xC} {H H1 : Heap} (hR : x_R G h H) (ha : a < h.2) (he : va_at G.2.2.1 vwCl (x_B G + a, x_e G c) H1) (z : H1.size = H.size) (oq : ∀ q : Nat, q ≠ x_B G + a → H1[q]? = H[q]?) : x_R G (xup h a c) H1 := by
  obtain ⟨h1, h2, h3, h4, h5⟩ := hR
  refine ⟨by rw [z]; exact h1, h2, fun i hi => ?_, fun i hi => ?_, fun q hq => ?_⟩
  · by_cases hia : i = a
    · subst hia
      simp only [xup, if_true]
      exact he
    · simp only [xup, if_neg hia]
      exact (h3 i hi).kept (oq _ (by show x_B G + i ≠ x_B G + a; omega))
  · have : i ≠ a := by
      have : h.2 ≤ i := hi
      omega
    simp only [xup, if_neg this]
    exact h4 i hi
  · rw [oq q (by omega)]
    exact h5 q hq
theorem x_R.push {c : xC} {H H1 : Heap} (hR : x_R G h H) (hb : h.2 < 1000000) (he : va_at G.2.2.1 vwCl (x_B G + h.2, x_e G c) H1) (z : H1.size = H.size + 1) (oq : ∀ q : Nat, q < H.size → H1[q]? = H[q]?) : x_R G (xnew h c) H1 := by
  obtain ⟨h1, h2, h3, h4, h5⟩ := hR
  refine ⟨by rw [z, h1]; rfl, hb, fun i hi => ?_, fun i hi => ?_, fun q hq => ?_⟩
  · have hi : i < h.2 + 1 := hi
    by_cases hia : i = h.2
    · subst hia
      simp only [xnew, if_true]
      exact he
    · simp only [xnew, if_neg hia]
      exact (h3 i (by omega)).kept (oq _ (by show x_B G + i < H.size; omega))
  · have hi : h.2 + 1 ≤ i := hi
    have : i ≠ h.2 := by omega
    simp only [xnew, if_neg this]
    exact h4 i (by omega)
  · rw [oq q (by omega)]
    exact h5 q hq
theorem x_one {a : Nat} {e : va_E} {H : Heap} (he : va_at G.2.2.1 vwCl (a, e) H) : va_P G.2.2.1 vwCl [(a, e)] H := by
  intro k q hk
  have hz : k < 1 := (List.getElem?_eq_some_iff.mp hk).1
  rw [show k = 0 by omega] at hk
  cases hk
  exact he
theorem x_locs {locs : List Loc} {a k : Nat} (hl : ∀ q ∈ locs, x_B G ≤ q.base) (ha : x_B G ≤ a) : ∀ q ∈ locs ++ [(⟨a, k⟩ : Loc)], x_B G ≤ q.base := by
  intro q hq
  rcases List.mem_append.mp hq with h | h
  · exact hl q h
  · rw [List.mem_singleton.mp h]; exact ha
/-- what is known of a kind of objects: its place, name, fields, their types -/
def xCF (ci : Nat) (C : String) (T : u_T) (N : Nat) (ty : Nat → FieldType) : Prop :=
  ci < 99 ∧ vwCl[ci]? = some (C, T, N) ∧ (∀ w ∈ u_ws C T N, w ∈ lw_good) ∧ (∀ k, k < N → parseFieldDescriptor (T k).2.2.1 = some (ty k)) ∧ (∀ a, a < N → ∀ b, b < N → a ≠ b → (T a).2.1 ≠ (T b).2.1)
/-- a field by its pool number -/
def xFL (own : String) (idx : Nat) (C : String) (T : u_T) (N k : Nat) : Prop :=
  k < N ∧ Cond.fieldLink own idx C (T k).2.1 (T k).2.2.1 ∈ lw_good ∧ (T k).1 = C
theorem Ax_getf {idx ci k a N : Nat} {C : String} {T : u_T} {ty : Nat → FieldType} {fs : List Value} {v : Value} (hF : xCF ci C T N ty) (hl : xFL M.1 idx C T N k) (hd : decode M.2.2.1 pc = .ok (.getfield idx, 3)) (hc : h.1 a = cO ci fs) (hv : fs[k]? = some v)
    (kk : Ax G M d b (pc + 3) L (v :: st) h Q) : Ax G M d b pc L (.ref a :: st) h Q := by
  refine Ax_go (fun p e R s m args below meth c H locs cells slots ls Z C' hR hL K => ?_) kk
  have ha := x_in_O hR hF.1 hc
  have hat := hR.2.2.1 a ha
  rw [hc] at hat
  show W p G.1 e R s m args below meth c H locs cells slots Z (F0 m pc ls (.ref (x_a G a) :: st.map (x_v G)))
  rw [x_a_lt hR ha]
  exact va_get (C := C) (T := T) (N := N) (ref := C) C'.1 C'.2.1 C'.2.2.2.2.2.2.2.1 hF.2.2.1 C'.2.2.2.2.2.2.1 C'.2.2.2.2.2.2.2.2.1.1 (x_one hat) 0 rfl hF.2.1 k hl.1 (C'.2.2.2.2.2.2.2.1 _ hl.2.1) (fun x hx => by rw [← hl.2.2]; rw [hl.2.2] at hx ⊢; exact hx) (v := x_v G v) (by rw [List.getElem?_map, hv]; rfl) hd K
theorem Ax_putf {idx ci k a N : Nat} {C : String} {T : u_T} {ty : Nat → FieldType} {fs : List Value} {v : Value} (hF : xCF ci C T N ty) (hl : xFL M.1 idx C T N k) (hd : decode M.2.2.1 pc = .ok (.putfield idx, 3)) (hc : h.1 a = cO ci fs) (hk : k < fs.length)
    (hfin : (T k).2.2.2 = false ∨ (M.2.1.name = "<init>" ∧ C = M.1)) (hn : narrow (ty k) (x_v G v) = x_v G v) (hfit : fits (ty k) (x_v G v) = true)
    (kk : Ax G M d b (pc + 3) L st (xup h a (cO ci (fs.set k v))) Q) : Ax G M d b pc L (v :: .ref a :: st) h Q := by
  intro p e R s m args below meth c H locs cells slots ls Z C' hR hL hlo hc' hs hend
  have ha := x_in_O hR hF.1 hc
  have hat := hR.2.2.1 a ha
  rw [hc] at hat
  show W p G.1 e R s m args below meth c H locs cells slots Z (F0 m pc ls (x_v G v :: .ref (x_a G a) :: st.map (x_v G)))
  rw [x_a_lt hR ha]
  have hts := C'.2.2.2.2.2.2.2.1
  have hown := C'.2.2.2.2.2.2.1
  have hK := C'.2.2.2.2.2.2.2.2.1.1
  have hin := hF.2.2.1
  have hkN := hl.1
  have hap := va_apart (own := M.1) hts hin ty hF.2.2.2.1 hF.2.2.2.2 hK hF.2.1
  obtain ⟨r, h1, cell, q1, q2, q3, q4⟩ := hat
  have hr : r = (C, T, N) := Option.some.inj (h1.symm.trans hF.2.1)
  subst hr
  obtain ⟨hS, hfc, kC, hkC, hkind⟩ := hK.1 ci _ hF.2.1
  obtain ⟨cf, kf, fi, f, hi, hsl⟩ := hS k hkN
  have hlay := hts _ (hin _ (u_in_lay hkN))
  have hst := (u_facts hfc hkC (u_lays hts hin hkN) hi).1
  have hfound : s.fieldFound? C (T k).2.1 (T k).2.2.1 = some (cf, kf, fi, f) := by rw [← hl.2.2]; exact hi
  have fin : ∀ H' : Heap, H'[x_B G + a]? = some (cell.setSlot f.slot (x_v G v)) → H'.size = H.size → (∀ q, q ≠ x_B G + a → H'[q]? = H[q]?) → W p G.1 e R s m args below meth c H' (locs ++ [⟨x_B G + a, f.slot⟩]) cells slots Z (F0 m (pc + 3) ls (st.map (x_v G))) := by
    intro H' e1 e2 e3
    rw [hsl] at e1
    refine kk p e R s m args below meth c H' _ cells slots ls Z C' (hR.set ha ⟨_, hF.2.1, ?_⟩ e2 e3) hL (x_locs hlo (Nat.le_add_right _ _)) hc' hs hend
    have hlen : k < (fs.map (x_v G)).length := by rw [List.length_map]; exact hk
    refine t_OB.to (V := updV (vp_V (fs.map (x_v G))) k (x_v G v)) ⟨_, e1, q2, q3, t_set q4 hap hkN (x_v G v)⟩ (fun j _ => ?_)
    rw [vp_updV_set hlen]
    show vp_V _ j = vp_V ((fs.set k v).map (x_v G)) j
    rw [List.map_set]
  unfold u_lay at hlay
  rcases hfin with hfin | ⟨hini, hCown⟩
  · rw [if_neg (by rw [hfin]; decide)] at hlay
    have h6 := u_store hfc hkC hkind hlay hi (hF.2.2.2.1 k hkN) hn hfit
    exact W.putK C'.1 C'.2.1 (f := f) ⟨hown, hts _ hl.2.1, ⟨_, _, _, hfound⟩, hst⟩ (by rw [q2]; exact h6) q1 q3 (by rw [hsl]; exact k2_hasslot (q4 k hkN)) rfl rfl hd fin
  · by_cases hfin : (T k).2.2.2 = true
    · rw [if_pos hfin] at hlay
      have hcf : m.cls = cf := by
        obtain ⟨_, _, c', _, _, _, -, -, hf', -, -, -, hown2, -⟩ := Cond.laysFinal_spec hlay
        have e1 : c' = cf := by have := hi.symm.trans hf'; simp at this; exact this.1.symm
        rw [hl.2.2, hCown] at hown2
        rw [← e1]; exact Option.some.inj (hown.symm.trans hown2)
      have h6 := u_fits hfc hkC hkind (Or.inr hlay) hi (hF.2.2.2.1 k hkN) hn hfit
      exact W.putFinK C'.1 C'.2.1 hown (hts _ hl.2.1) hfound hst hcf (C'.2.2.2.2.2.1 hini) (by rw [q2]; exact h6) q1 q3 (by rw [hsl]; exact k2_hasslot (q4 k hkN)) rfl rfl hd fin
    · rw [if_neg hfin] at hlay
      have h6 := u_store hfc hkC hkind hlay hi (hF.2.2.2.1 k hkN) hn hfit
      exact W.putK C'.1 C'.2.1 (f := f) ⟨hown, hts _ hl.2.1, ⟨_, _, _, hfound⟩, hst⟩ (by rw [q2]; exact h6) q1 q3 (by rw [hsl]; exact k2_hasslot (q4 k hkN)) rfl rfl hd fin
/-! rows of numbers -/
theorem x_arrI {t : Nat} {s : State} (hK : x_K G s) (n : Nat) (f : Nat → Int32) (ht : t < 3) : s.isArrayOf (vp_cell (G.2.2.2.1 t) (n, .inl f)) (x_t t) := by
  have h2 := hK.1.2
  rcases (show t = 0 ∨ t = 1 ∨ t = 2 by omega) with rfl | rfl | rfl
  · exact (h2 0 _ rfl).1 n (fun j => .int (f j))
  · exact (h2 1 _ rfl).1 n (fun j => .int (f j))
  · exact (h2 2 _ rfl).1 n (fun j => .int (f j))
theorem x_arrJ {s : State} (hK : x_K G s) (n : Nat) (f : Nat → Int64) : s.isArrayOf (vp_cell (G.2.2.2.1 3) (n, .inr (.inl f))) .long := (hK.1.2 3 _ rfl).1 n (fun j => .long (f j))
theorem x_inI {i : Int32} {n : Nat} {cA : ClassId} {f : Nat → Int32} (hin : vp_in i n) : ¬ (i < 0 ∨ (vp_cell cA (n, .inl f)).slots.size ≤ i.toNatClampNeg) := by
  show ¬ (i < 0 ∨ (arrV _ _ _).slots.size ≤ _); rw [arrV_size]; exact hin
theorem x_inJ {i : Int32} {n : Nat} {cA : ClassId} {f : Nat → Int64} (hin : vp_in i n) : ¬ (i < 0 ∨ (vp_cell cA (n, .inr (.inl f))).slots.size ≤ i.toNatClampNeg) := by
  show ¬ (i < 0 ∨ (arrV _ _ _).slots.size ≤ _); rw [arrV_size]; exact hin
theorem x_rdI {i : Int32} {n : Nat} {cA : ClassId} {f : Nat → Int32} (hin : vp_in i n) : (vp_cell cA (n, .inl f)).slots[i.toNatClampNeg]? = some (.int (f i.toNatClampNeg)) := by
  have hlt : i.toNatClampNeg < n := Nat.not_le.mp fun q => hin (Or.inr q)
  show (arrV _ _ _).slots[_]? = _; rw [arrV_read _ _ hlt]
theorem x_rdJ {i : Int32} {n : Nat} {cA : ClassId} {f : Nat → Int64} (hin : vp_in i n) : (vp_cell cA (n, .inr (.inl f))).slots[i.toNatClampNeg]? = some (.long (f i.toNatClampNeg)) := by
  have hlt : i.toNatClampNeg < n := Nat.not_le.mp fun q => hin (Or.inr q)
  show (arrV _ _ _).slots[_]? = _; rw [arrV_read _ _ hlt]
theorem x_wrI {cA : ClassId} {n k : Nat} {f : Nat → Int32} {x : Int32} : (vp_cell cA (n, .inl f)).setSlot k (.int x) = vp_cell cA (n, .inl (upd f k x)) := by
  rw [vp_cell_i, vp_cell_i, arrV_store]
  congr 1
  funext q
  by_cases hq : q = k
  · subst hq; simp [updV, upd]
  · simp [updV, upd, hq]
theorem x_wrJ {cA : ClassId} {n k : Nat} {f : Nat → Int64} {x : Int64} : (vp_cell cA (n, .inr (.inl f))).setSlot k (.long x) = vp_cell cA (n, .inr (.inl (vp_updL f k x))) := by
  rw [vp_cell_l, vp_cell_l, arrV_store]
  congr 1
  funext q
  by_cases hq : q = k
  · subst hq; simp [updV, vp_updL]
  · simp [updV, vp_updL, hq]
theorem Ax_iald {a n : Nat} {f : Nat → Int32} {i : Int32} (hd : decode M.2.2.1 pc = .ok (.iaload, 1)) (hc : h.1 a = cI 0 n f) (hi : vp_in i n) (k : Ax G M d b (pc + 1) L (.int (f i.toNatClampNeg) :: st) h Q) : Ax G M d b pc L (.int i :: .ref a :: st) h Q := by
  refine Ax_go (fun p e R s m args below meth c H locs cells slots ls Z C hR hL K => ?_) k
  have ha := x_in_I hR hc
  have hat := hR.2.2.1 a ha
  rw [hc] at hat
  show W p G.1 e R s m args below meth c H locs cells slots Z (F0 m pc ls (.int i :: .ref (x_a G a) :: st.map (x_v G)))
  rw [x_a_lt hR ha]
  exact W.iald C.1 C.2.1 hat (x_arrI (t := 0) C.2.2.2.2.2.2.2.2.1 n f (by decide)) (fun q => by cases q) (x_inI hi) (x_rdI hi) rfl rfl hd K
theorem Ax_ialdn {a n : Nat} {f : Nat → Int32} {j : Nat} (hd : decode M.2.2.1 pc = .ok (.iaload, 1)) (hc : h.1 a = cI 0 n f) (hj : j < n) (hn : n < 2 ^ 31) (k : Ax G M d b (pc + 1) L (.int (f j) :: st) h Q) : Ax G M d b pc L (.int (nI j) :: .ref a :: st) h Q := by
  refine Ax_iald hd hc (vp_in_nI hj hn) ?_
  rw [nI_clamp (by omega)]
  exact k
theorem Ax_bald {a n : Nat} {f : Nat → Int32} {i : Int32} (hd : decode M.2.2.1 pc = .ok (.baload, 1)) (hc : h.1 a = cI 1 n f) (hi : vp_in i n) (k : Ax G M d b (pc + 1) L (.int (f i.toNatClampNeg) :: st) h Q) : Ax G M d b pc L (.int i :: .ref a :: st) h Q := by
  refine Ax_go (fun p e R s m args below meth c H locs cells slots ls Z C hR hL K => ?_) k
  have ha := x_in_I hR hc
  have hat := hR.2.2.1 a ha
  rw [hc] at hat
  show W p G.1 e R s m args below meth c H locs cells slots Z (F0 m pc ls (.int i :: .ref (x_a G a) :: st.map (x_v G)))
  rw [x_a_lt hR ha]
  exact W.bald C.1 C.2.1 hat (x_arrI (t := 1) C.2.2.2.2.2.2.2.2.1 n f (by decide)) (fun q => by cases q) (x_inI hi) (x_rdI hi) rfl rfl hd K
theorem Ax_baldn {a n : Nat} {f : Nat → Int32} {j : Nat} (hd : decode M.2.2.1 pc = .ok (.baload, 1)) (hc : h.1 a = cI 1 n f) (hj : j < n) (hn : n < 2 ^ 31) (k : Ax G M d b (pc + 1) L (.int (f j) :: st) h Q) : Ax G M d b pc L (.int (nI j) :: .ref a :: st) h Q := by
  refine Ax_bald hd hc (vp_in_nI hj hn) ?_
  rw [nI_clamp (by omega)]
  exact k
theorem Ax_zald {a n : Nat} {f : Nat → Int32} {i : Int32} (hd : decode M.2.2.1 pc = .ok (.baload, 1)) (hc : h.1 a = cI 2 n f) (hi : vp_in i n) (k : Ax G M d b (pc + 1) L (.int (f i.toNatClampNeg) :: st) h Q) : Ax G M d b pc L (.int i :: .ref a :: st) h Q := by
  refine Ax_go (fun p e R s m args below meth c H locs cells slots ls Z C hR hL K => ?_) k
  have ha := x_in_I hR hc
  have hat := hR.2.2.1 a ha
  rw [hc] at hat
  show W p G.1 e R s m args below meth c H locs cells slots Z (F0 m pc ls (.int i :: .ref (x_a G a) :: st.map (x_v G)))
  rw [x_a_lt hR ha]
  exact W.zald C.1 C.2.1 hat (x_arrI (t := 2) C.2.2.2.2.2.2.2.2.1 n f (by decide)) (fun q => by cases q) (x_inI hi) (x_rdI hi) rfl rfl hd K
theorem Ax_zaldn {a n : Nat} {f : Nat → Int32} {j : Nat} (hd : decode M.2.2.1 pc = .ok (.baload, 1)) (hc : h.1 a = cI 2 n f) (hj : j < n) (hn : n < 2 ^ 31) (k : Ax G M d b (pc + 1) L (.int (f j) :: st) h Q) : Ax G M d b pc L (.int (nI j) :: .ref a :: st) h Q := by
  refine Ax_zald hd hc (vp_in_nI hj hn) ?_
  rw [nI_clamp (by omega)]
  exact k
theorem Ax_lald {a n : Nat} {f : Nat → Int64} {i : Int32} (hd : decode M.2.2.1 pc = .ok (.laload, 1)) (hc : h.1 a = cJ n f) (hi : vp_in i n) (k : Ax G M d b (pc + 1) L (.long (f i.toNatClampNeg) :: st) h Q) : Ax G M d b pc L (.int i :: .ref a :: st) h Q := by
  refine Ax_go (fun p e R s m args below meth c H locs cells slots ls Z C hR hL K => ?_) k
  have ha := x_in_J hR hc
  have hat := hR.2.2.1 a ha
  rw [hc] at hat
  show W p G.1 e R s m args below meth c H locs cells slots Z (F0 m pc ls (.int i :: .ref (x_a G a) :: st.map (x_v G)))
  rw [x_a_lt hR ha]
  exact W.lald C.1 C.2.1 hat (x_arrJ C.2.2.2.2.2.2.2.2.1 n f) (fun q => by cases q) (x_inJ hi) (x_rdJ hi) rfl rfl hd K
theorem Ax_laldn {a n : Nat} {f : Nat → Int64} {j : Nat} (hd : decode M.2.2.1 pc = .ok (.laload, 1)) (hc : h.1 a = cJ n f) (hj : j < n) (hn : n < 2 ^ 31) (k : Ax G M d b (pc + 1) L (.long (f j) :: st) h Q) : Ax G M d b pc L (.int (nI j) :: .ref a :: st) h Q := by
  refine Ax_lald hd hc (vp_in_nI hj hn) ?_
  rw [nI_clamp (by omega)]
  exact k
theorem Ax_iast {a n : Nat} {f : Nat → Int32} {i x : Int32} (hd : decode M.2.2.1 pc = .ok (.iastore, 1)) (hc : h.1 a = cI 0 n f) (hi : vp_in i n) (k : Ax G M d b (pc + 1) L st (xup h a (cI 0 n (upd f i.toNatClampNeg x))) Q) : Ax G M d b pc L (.int x :: .int i :: .ref a :: st) h Q := by
  intro p e R s m args below meth c H locs cells slots ls Z C hR hL hlo hc' hs hend
  have ha := x_in_I hR hc
  have hat := hR.2.2.1 a ha
  rw [hc] at hat
  show W p G.1 e R s m args below meth c H locs cells slots Z (F0 m pc ls (.int x :: .int i :: .ref (x_a G a) :: st.map (x_v G)))
  rw [x_a_lt hR ha]
  refine W.iast C.1 C.2.1 hat (x_arrI (t := 0) C.2.2.2.2.2.2.2.2.1 n f (by decide)) (fun q => by cases q) (x_inI hi) rfl rfl hd (fun H1 e1 z oq => ?_)
  refine k p e R s m args below meth c H1 _ cells slots ls Z C (hR.set ha ?_ z oq) hL (x_locs hlo (Nat.le_add_right _ _)) hc' hs hend
  show H1[x_B G + a]? = some (vp_cell _ _)
  rw [e1]
  exact congrArg some x_wrI
theorem Ax_iastn {a n : Nat} {f : Nat → Int32} {j : Nat} {x : Int32} (hd : decode M.2.2.1 pc = .ok (.iastore, 1)) (hc : h.1 a = cI 0 n f) (hj : j < n) (hn : n < 2 ^ 31) (k : Ax G M d b (pc + 1) L st (xup h a (cI 0 n (upd f j x))) Q) : Ax G M d b pc L (.int x :: .int (nI j) :: .ref a :: st) h Q := by
  refine Ax_iast hd hc (vp_in_nI hj hn) ?_
  rw [nI_clamp (by omega)]
  exact k
theorem Ax_bast {a n : Nat} {f : Nat → Int32} {i x : Int32} (hd : decode M.2.2.1 pc = .ok (.bastore, 1)) (hc : h.1 a = cI 1 n f) (hi : vp_in i n) (k : Ax G M d b (pc + 1) L st (xup h a (cI 1 n (upd f i.toNatClampNeg (vp_nar .byte x)))) Q) : Ax G M d b pc L (.int x :: .int i :: .ref a :: st) h Q := by
  intro p e R s m args below meth c H locs cells slots ls Z C hR hL hlo hc' hs hend
  have ha := x_in_I hR hc
  have hat := hR.2.2.1 a ha
  rw [hc] at hat
  show W p G.1 e R s m args below meth c H locs cells slots Z (F0 m pc ls (.int x :: .int i :: .ref (x_a G a) :: st.map (x_v G)))
  rw [x_a_lt hR ha]
  refine W.bast C.1 C.2.1 hat (x_arrI (t := 1) C.2.2.2.2.2.2.2.2.1 n f (by decide)) (fun q => by cases q) (x_inI hi) rfl rfl hd (fun H1 e1 z oq => ?_)
  refine k p e R s m args below meth c H1 _ cells slots ls Z C (hR.set ha ?_ z oq) hL (x_locs hlo (Nat.le_add_right _ _)) hc' hs hend
  show H1[x_B G + a]? = some (vp_cell _ _)
  rw [e1]
  exact congrArg some x_wrI
theorem Ax_bastn {a n : Nat} {f : Nat → Int32} {j : Nat} {x : Int32} (hd : decode M.2.2.1 pc = .ok (.bastore, 1)) (hc : h.1 a = cI 1 n f) (hj : j < n) (hn : n < 2 ^ 31) (k : Ax G M d b (pc + 1) L st (xup h a (cI 1 n (upd f j (vp_nar .byte x)))) Q) : Ax G M d b pc L (.int x :: .int (nI j) :: .ref a :: st) h Q := by
  refine Ax_bast hd hc (vp_in_nI hj hn) ?_
  rw [nI_clamp (by omega)]
  exact k
theorem Ax_zast {a n : Nat} {f : Nat → Int32} {i x : Int32} (hd : decode M.2.2.1 pc = .ok (.bastore, 1)) (hc : h.1 a = cI 2 n f) (hi : vp_in i n) (k : Ax G M d b (pc + 1) L st (xup h a (cI 2 n (upd f i.toNatClampNeg (vp_nar .boolean x)))) Q) : Ax G M d b pc L (.int x :: .int i :: .ref a :: st) h Q := by
  intro p e R s m args below meth c H locs cells slots ls Z C hR hL hlo hc' hs hend
  have ha := x_in_I hR hc
  have hat := hR.2.2.1 a ha
  rw [hc] at hat
  show W p G.1 e R s m args below meth c H locs cells slots Z (F0 m pc ls (.int x :: .int i :: .ref (x_a G a) :: st.map (x_v G)))
  rw [x_a_lt hR ha]
  refine W.zast C.1 C.2.1 hat (x_arrI (t := 2) C.2.2.2.2.2.2.2.2.1 n f (by decide)) (fun q => by cases q) (x_inI hi) rfl rfl hd (fun H1 e1 z oq => ?_)
  refine k p e R s m args below meth c H1 _ cells slots ls Z C (hR.set ha ?_ z oq) hL (x_locs hlo (Nat.le_add_right _ _)) hc' hs hend
  show H1[x_B G + a]? = some (vp_cell _ _)
  rw [e1]
  exact congrArg some x_wrI
theorem Ax_zastn {a n : Nat} {f : Nat → Int32} {j : Nat} {x : Int32} (hd : decode M.2.2.1 pc = .ok (.bastore, 1)) (hc : h.1 a = cI 2 n f) (hj : j < n) (hn : n < 2 ^ 31) (k : Ax G M d b (pc + 1) L st (xup h a (cI 2 n (upd f j (vp_nar .boolean x)))) Q) : Ax G M d b pc L (.int x :: .int (nI j) :: .ref a :: st) h Q := by
  refine Ax_zast hd hc (vp_in_nI hj hn) ?_
  rw [nI_clamp (by omega)]
  exact k
theorem Ax_last {a n : Nat} {f : Nat → Int64} {i : Int32} {x : Int64} (hd : decode M.2.2.1 pc = .ok (.lastore, 1)) (hc : h.1 a = cJ n f) (hi : vp_in i n) (k : Ax G M d b (pc + 1) L st (xup h a (cJ n (vp_updL f i.toNatClampNeg x))) Q) : Ax G M d b pc L (.long x :: .int i :: .ref a :: st) h Q := by
  intro p e R s m args below meth c H locs cells slots ls Z C hR hL hlo hc' hs hend
  have ha := x_in_J hR hc
  have hat := hR.2.2.1 a ha
  rw [hc] at hat
  show W p G.1 e R s m args below meth c H locs cells slots Z (F0 m pc ls (.long x :: .int i :: .ref (x_a G a) :: st.map (x_v G)))
  rw [x_a_lt hR ha]
  refine W.last C.1 C.2.1 hat (x_arrJ C.2.2.2.2.2.2.2.2.1 n f) (fun q => by cases q) (x_inJ hi) rfl rfl hd (fun H1 e1 z oq => ?_)
  refine k p e R s m args below meth c H1 _ cells slots ls Z C (hR.set ha ?_ z oq) hL (x_locs hlo (Nat.le_add_right _ _)) hc' hs hend
  show H1[x_B G + a]? = some (vp_cell _ _)
  rw [e1]
  exact congrArg some x_wrJ
theorem Ax_lastn {a n : Nat} {f : Nat → Int64} {j : Nat} {x : Int64} (hd : decode M.2.2.1 pc = .ok (.lastore, 1)) (hc : h.1 a = cJ n f) (hj : j < n) (hn : n < 2 ^ 31) (k : Ax G M d b (pc + 1) L st (xup h a (cJ n (vp_updL f j x))) Q) : Ax G M d b pc L (.long x :: .int (nI j) :: .ref a :: st) h Q := by
  refine Ax_last hd hc (vp_in_nI hj hn) ?_
  rw [nI_clamp (by omega)]
  exact k
theorem Ax_alen {a t n : Nat} {f : Nat → Int32} (ht : t < 3) (hd : decode M.2.2.1 pc = .ok (.arraylength, 1)) (hc : h.1 a = cI t n f) (k : Ax G M d b (pc + 1) L (.int (nI n) :: st) h Q) : Ax G M d b pc L (.ref a :: st) h Q := by
  refine Ax_go (fun p e R s m args below meth c H locs cells slots ls Z C hR hL K => ?_) k
  have ha := x_in_I hR hc
  have hat := hR.2.2.1 a ha
  rw [hc] at hat
  show W p G.1 e R s m args below meth c H locs cells slots Z (F0 m pc ls (.ref (x_a G a) :: st.map (x_v G)))
  rw [x_a_lt hR ha]
  refine W.alen (n := nI n) C.1 C.2.1 hat (x_arrI C.2.2.2.2.2.2.2.2.1 n f ht) ?_ rfl rfl hd K
  rw [vp_cell_i, arrV_size]
  rfl
theorem Ax_new {idx ci N : Nat} {C : String} {T : u_T} {ty : Nat → FieldType} {fs : List Value} (hF : xCF ci C T N ty) (hw : Cond.classLink M.1 idx C ∈ lw_good ∧ Cond.instantiable C N ∈ lw_good ∧ Cond.initialized C ∈ lw_good) (hd : decode M.2.2.1 pc = .ok (.new idx, 3)) (hfs : ∀ j, j < N → defaultValue (ty j) = vp_V (fs.map (x_v G)) j) (hn : h.2 < 1000000) (hb : N + 1 ≤ b)
    (k : Ax G M d (b - (N + 1)) (pc + 3) L (.ref h.2 :: st) (xnew h (cO ci fs)) Q) : Ax G M d b pc L st h Q := by
  intro p e R s m args below meth c H locs cells slots ls Z C' hR hL hlo hc' hs hend
  have hts := C'.2.2.2.2.2.2.2.1
  have hK := C'.2.2.2.2.2.2.2.2.1.1
  have hKn := hK.1 ci _ hF.2.1
  refine W.newcK C'.1 C'.2.1 C'.2.2.2.2.2.2.1 (hts _ hw.1) (hts _ hw.2.1) (hts _ hw.2.2) rfl hd (by omega) (by omega) hKn.2.1 rfl (fun H1 kC hkC e1 z1 o1 => ?_)
  have hz := hR.1
  have e1' : H1[x_B G + h.2]? = some (blank (G.2.2.1.1 ci) kC) := by rw [← hz]; exact e1
  have hR1 : x_R G (xnew h (cO ci fs)) H1 := hR.push hn ⟨_, hF.2.1, (u_born ty hts hF.2.2.1 hKn hkC e1' hF.2.2.2.1).to hfs⟩ z1 o1
  have hk := k p e R s m args below meth c H1 locs (cells + 1) (slots + N) ls Z C' hR1 hL hlo (by omega) (by omega) hend
  have hx : x_a G h.2 = H.size := by
    unfold x_a
    rw [if_pos hn, hz]
  have hk' : W p G.1 e R s m args below meth c H1 locs (cells + 1) (slots + N) Z (F0 m (pc + 3) ls (.ref (x_a G h.2) :: st.map (x_v G))) := hk
  rw [hx] at hk'
  exact hk'
theorem Ax_newI {t N : Nat} {at' : ArrayType} (hat : newarray.typeOf at' = x_t t) (ht : t < 3) (hw : Cond.arrayClass (newarray.typeOf at') ∈ lw_good) (hd : decode M.2.2.1 pc = .ok (.newarray at', 2)) (hN : N ≤ 100000) (hn : h.2 < 1000000) (hb : N + 1 ≤ b)
    (k : Ax G M d (b - (N + 1)) (pc + 2) L (.ref h.2 :: st) (xnew h (cI t N (fun _ => 0))) Q) : Ax G M d b pc L (.int (nI N) :: st) h Q := by
  intro p e R s m args below meth c H locs cells slots ls Z C' hR hL hlo hc' hs hend
  have hts := C'.2.2.2.2.2.2.2.1
  have hK := C'.2.2.2.2.2.2.2.2.1.1
  have hz := hR.1
  have hcb : componentBytes (newarray.typeOf at') ≤ 8 := by cases at' <;> decide
  refine va_newaK C'.1 C'.2.1 (hts _ hw) rfl hd rfl (nI_pos (by omega)) (nI_clamp (by omega)) (Nat.le_trans (Nat.mul_le_mul hN hcb) (by decide)) (by omega) (by omega) hz (fun H1 cA e1 z1 o1 hAr hNm => ?_)
  have hcA : cA = G.2.2.2.1 t := by
    rw [hat] at hNm
    have h2 := hK.2
    rcases (show t = 0 ∨ t = 1 ∨ t = 2 by omega) with rfl | rfl | rfl
    · exact Option.some.inj (hNm.symm.trans (h2 0 _ rfl).2)
    · exact Option.some.inj (hNm.symm.trans (h2 1 _ rfl).2)
    · exact Option.some.inj (hNm.symm.trans (h2 2 _ rfl).2)
  have hR1 : x_R G (xnew h (cI t N (fun _ => 0))) H1 := by
    refine hR.push hn ?_ (by rw [z1, hz]) (by rw [hz]; exact o1)
    show H1[x_B G + h.2]? = some (vp_cell _ _)
    rw [e1, hcA, vp_cell_i, hat]
    rcases (show t = 0 ∨ t = 1 ∨ t = 2 by omega) with rfl | rfl | rfl <;> rfl
  have hk := k p e R s m args below meth c H1 locs (cells + 1) (slots + N) ls Z C' hR1 hL hlo (by omega) (by omega) hend
  have hx : x_a G h.2 = x_B G + h.2 := by
    unfold x_a
    rw [if_pos hn]
  have hk' : W p G.1 e R s m args below meth c H1 locs (cells + 1) (slots + N) Z (F0 m (pc + 2) ls (.ref (x_a G h.2) :: st.map (x_v G))) := hk
  rw [hx] at hk'
  exact hk'
theorem Ax_newJ {N : Nat} (hw : Cond.arrayClass .long ∈ lw_good) (hd : decode M.2.2.1 pc = .ok (.newarray .long, 2)) (hN : N ≤ 100000) (hn : h.2 < 1000000) (hb : N + 1 ≤ b)
    (k : Ax G M d (b - (N + 1)) (pc + 2) L (.ref h.2 :: st) (xnew h (cJ N (fun _ => 0))) Q) : Ax G M d b pc L (.int (nI N) :: st) h Q := by
  intro p e R s m args below meth c H locs cells slots ls Z C' hR hL hlo hc' hs hend
  have hts := C'.2.2.2.2.2.2.2.1
  have hK := C'.2.2.2.2.2.2.2.2.1.1
  have hz := hR.1
  refine va_newaK (atype := .long) C'.1 C'.2.1 (hts _ hw) rfl hd rfl (nI_pos (by omega)) (nI_clamp (by omega)) (Nat.le_trans (Nat.mul_le_mul hN (show componentBytes (newarray.typeOf .long) ≤ 8 by decide)) (by decide)) (by omega) (by omega) hz (fun H1 cA e1 z1 o1 hAr hNm => ?_)
  have hcA : cA = G.2.2.2.1 3 := Option.some.inj (hNm.symm.trans (hK.2 3 _ rfl).2)
  have hR1 : x_R G (xnew h (cJ N (fun _ => 0))) H1 := by
    refine hR.push hn ?_ (by rw [z1, hz]) (by rw [hz]; exact o1)
    show H1[x_B G + h.2]? = some (vp_cell _ _)
    rw [e1, hcA, vp_cell_l]
    rfl
  have hk := k p e R s m args below meth c H1 locs (cells + 1) (slots + N) ls Z C' hR1 hL hlo (by omega) (by omega) hend
  have hx : x_a G h.2 = x_B G + h.2 := by
    unfold x_a
    rw [if_pos hn]
  have hk' : W p G.1 e R s m args below meth c H1 locs (cells + 1) (slots + N) Z (F0 m (pc + 2) ls (.ref (x_a G h.2) :: st.map (x_v G))) := hk
  rw [hx] at hk'
  exact hk'
/-! calls -/
theorem lw_good_in : GoodIn lw_good lw_good := fun w hw => ⟨hw, good_of_word (List.mem_filter.mp hw).2⟩
theorem lw_good_sub {ws : List Cond} (h : ∀ w ∈ ws, w ∈ lw_good) : GoodIn lw_good ws := fun w hw => lw_good_in w (h w hw)
abbrev x_ws (M : xM) : List Cond := Cond.code M.2.1 M.2.2.1 M.2.2.2.1 M.2.2.2.2 :: lw_good
def xCA (M' : xM) (n : Nat) : Prop := Cond.code M'.2.1 M'.2.2.1 M'.2.2.2.1 M'.2.2.2.2 ∈ lw_good ∧ M'.2.1.cls ≠ "java/lang/invoke/MethodHandle" ∧ M'.2.1.cls ≠ "java/lang/invoke/VarHandle" ∧ (parseMethodDescriptor M'.2.1.desc).map (fun d => d.parameters.length) = some n ∧ Cond.initialized M'.2.1.cls ∈ lw_good ∧ M'.2.2.2.1 ≤ 40
def xCV (own : String) (idx : Nat) (M' : xM) (n : Nat) : Prop := xCA M' n ∧ Cond.methodLink own idx M'.2.1 ∈ lw_good ∧ Cond.instanceMethod M'.2.1 ∈ lw_good ∧ Cond.selects M'.2.1.cls M'.2.1 M'.2.1 ∈ lw_good
def xCS (own : String) (idx : Nat) (M' : xM) (n : Nat) : Prop := xCA M' n ∧ Cond.methodLink own idx M'.2.1 ∈ lw_good ∧ Cond.static M'.2.1 ∈ lw_good
def xCX (own : String) (idx : Nat) (M' : xM) (n : Nat) : Prop := xCA M' n ∧ Cond.methodLink own idx M'.2.1 ∈ lw_good ∧ Cond.instanceMethod M'.2.1 ∈ lw_good ∧ M'.2.1.name = "<init>" ∧ M'.2.2.2.2 = none
def xCY (own : String) (idx : Nat) (M' : xM) (n : Nat) : Prop := xCA M' n ∧ (own = RX5 ∧ idx = 48 ∧ M'.2.1 = yX3_init) ∧ Cond.instanceMethod M'.2.1 ∈ lw_good ∧ M'.2.1.name = "<init>" ∧ M'.2.2.2.2 = none
theorem x_tab {w : Cond} {args : Array Value} {s : State} (hw : ∀ w ∈ lw_good, w.before args s = true) (h : w ∈ lw_good) (a' : Array Value) : w.before a' s = true := word_at (s := s) (U := s) (State.WarmedH.refl s) (lw_good_in w h).2 (hw w h)
theorem x_after {p : Program} {e : Env} {R : Room} {s : State} {m : MethodId} {args : Array Value} {below : List Frame} {meth : Method} {c : Code} {H : Heap} {locs : List Loc} {cells slots b' : Nat} {ls : Array Slot} {st0 : List Value} {Z : State → Prop} {Q' : Option Value → xH → Prop}
    (C' : x_Ctx G M d p R s m args meth c) (hL : x_L G M.2.2.2.1 L ls) (hlo : ∀ q ∈ locs, x_B G ≤ q.base) (hc : cells + b ≤ R.cells) (hs : slots + b ≤ R.slots) (hb : b' ≤ b)
    (hend : ∀ (pc' : Nat) (ls' : Array Slot) (st' : List Value) (H' : Heap) (locs' : List Loc) (cells' slots' : Nat) (r : Option Value) (h' : xH), x_Ret M pc' st' r → x_R G h' H' → Q r h' → (∀ q ∈ locs', x_B G ≤ q.base) → cells' ≤ R.cells → slots' ≤ R.slots →
      W p G.1 e R s m args below meth c H' locs' cells' slots' Z (F0 m pc' ls' (st'.map (x_v G))))
    (hr : va_Run p G.1 e R s m args below meth c H locs cells slots b' b' (F0 m pc ls st0) (st.map (x_v G)) (fun _ o t => ∃ (r : Option Value) (h' : xH), o = .returned (r.map (x_v G)) ∧ Q' r h' ∧ x_R G h' t.heap) (fun q => x_B G ≤ q))
    (k : ∀ r h', Q' r h' → Ax G M d (b - b') (pc + 3) L (r.toList ++ st) h' Q) : W p G.1 e R s m args below meth c H locs cells slots Z (F0 m pc ls st0) := by
  intro T hT X
  obtain ⟨v, st₀, t, T', L', h0, X', hL', e1, e2, ⟨r, h', hv, hq, hR'⟩, stp⟩ := hr T hT X
  have hv' : v = r.map (x_v G) := Outcome.returned.inj hv
  subst hv'
  have hlo' : ∀ q ∈ locs ++ L', x_B G ≤ q.base := fun q hq => (List.mem_append.mp hq).elim (hlo q) (hL' q)
  have hw := k r h' hq p e R s m args below meth c T'.heap (locs ++ L') (cells + b') (slots + b') ls Z C' (by rw [e1]; exact hR') hL hlo' (by omega) (by omega) hend
  have hst : (r.toList ++ st).map (x_v G) = (r.map (x_v G)).toList ++ st.map (x_v G) := by cases r <;> simp
  rw [hst] at hw
  obtain ⟨t2, a1, b1⟩ := hw T' rfl X'
  exact ⟨t2, stp t2 a1, b1⟩
theorem x_catsum : ∀ st : List Value, ((st.map (x_v G)).map fun v => v.category).sum = (st.map fun v => v.category).sum
  | [] => rfl
  | v :: t => by
    simp only [List.map_cons, List.sum_cons]
    rw [x_catsum t, x_v_cat]
theorem Ax_callV {idx n a ci N d' b' : Nat} {T : u_T} {ty : Nat → FieldType} {M' : xM} {fs as stk : List Value} {Q' : Option Value → xH → Prop} (hd : decode M.2.2.1 pc = .ok (.invokevirtual idx, 3)) (hw : xCV M.1 idx M' n) (hF : xCF ci M'.2.1.cls T N ty) (hc : h.1 a = cO ci fs) (hM : AM G M' d' b' (.ref a :: as) h Q') (hn : as.length = n) (hstk : stk = as.reverse ++ .ref a :: st) (hdd : d' + 1 ≤ d) (hbb : b' ≤ b) (hcat : (st.map fun v => v.category).sum ≤ 8)
    (k : ∀ r h', Q' r h' → Ax G M d (b - b') (pc + 3) L (r.toList ++ st) h' Q) : Ax G M d b pc L stk h Q := by
  intro p e R s m args below meth c H locs cells slots ls Z C' hR hL hlo hc' hs hend
  have ha := x_in_O hR hF.1 hc
  have hat := hR.2.2.1 a ha
  rw [hc] at hat
  have hts := C'.2.2.2.2.2.2.2.1
  have hK := C'.2.2.2.2.2.2.2.2.1
  have hRd := C'.2.2.2.2.2.2.2.2.2
  have cw : CallW R s args M.1 M'.2.1.cls idx M'.2.1 M'.2.2.1 M'.2.2.2.1 M'.2.2.2.2 (x_ws M') (x_rm d' b') b' b' n :=
    cwV n hts (lw_good_sub (fun w hx => by
      unfold wsV at hx
      simp only [List.cons_append, List.nil_append, List.mem_cons] at hx
      rcases hx with rfl | rfl | rfl | rfl | rfl | hx
      · exact hw.2.1
      · exact hw.2.2.1
      · exact hw.2.2.2
      · exact hw.1.2.2.2.2.1
      · exact hw.1.1
      · exact hx)) rfl rfl rfl ⟨rfl, hw.1.2.1, hw.1.2.2.1, hw.1.2.2.2.1⟩ ⟨by show d' + 1 ≤ _; have := hRd.1; omega, by show 8 + (M'.2.2.2.1 + 11) + 64 * d' ≤ _; have := hRd.2; have := hw.1.2.2.2.2.2; omega⟩
  have hxa := x_a_lt hR ha
  subst hstk
  refine x_after C' hL hlo hc' hs hbb hend (va_runV (As := as.map (x_v G)) (b := x_B G + a) ⟨C'.1, C'.2.1, C'.2.2.1, C'.2.2.2.2.2.2.1, hts⟩ hM cw ⟨x_Pc.blind, va_recv (q := (M'.2.1.cls, T, N)) hK.1 (x_one hat) hF.2.1 (q0 := 0) rfl, fun U hU hW => ⟨?_, by rw [hU]; exact hR, x_K.warm hW hK⟩⟩ rfl (by rw [List.length_map]; exact hn) hL.1 ?_ ?_ hd ⟨by omega, by omega⟩) k
  · show (Value.ref (x_B G + a) :: as.map (x_v G)).toArray = ((Value.ref a :: as).map (x_v G)).toArray
    rw [List.map_cons]
    show _ = (Value.ref (x_a G a) :: as.map (x_v G)).toArray
    rw [hxa]
  · show (as.reverse ++ Value.ref a :: st).map (x_v G) = _
    rw [List.map_append, List.map_cons, List.map_reverse]
    show _ ++ Value.ref (x_a G a) :: _ = _
    rw [hxa]
  · show 2 * 0 + _ ≤ 8
    rw [x_catsum]
    omega
theorem Ax_callS {idx n d' b' : Nat} {M' : xM} {as stk : List Value} {Q' : Option Value → xH → Prop} (hd : decode M.2.2.1 pc = .ok (.invokestatic idx, 3)) (hw : xCS M.1 idx M' n) (hM : AM G M' d' b' as h Q') (hn : as.length = n) (hstk : stk = as.reverse ++ st) (hdd : d' + 1 ≤ d) (hbb : b' ≤ b) (hcat : (st.map fun v => v.category).sum ≤ 8)
    (k : ∀ r h', Q' r h' → Ax G M d (b - b') (pc + 3) L (r.toList ++ st) h' Q) : Ax G M d b pc L stk h Q := by
  intro p e R s m args below meth c H locs cells slots ls Z C' hR hL hlo hc' hs hend
  have hts := C'.2.2.2.2.2.2.2.1
  have hK := C'.2.2.2.2.2.2.2.2.1
  have hRd := C'.2.2.2.2.2.2.2.2.2
  have cw : CallB R s args M.1 idx M'.2.1 M'.2.2.1 M'.2.2.2.1 M'.2.2.2.2 (x_ws M') (x_rm d' b') b' b' n ∧ (Cond.static M'.2.1).before args s = true :=
    va_cwS n hts (lw_good_sub (fun w hx => by
      unfold va_wsS at hx
      simp only [List.cons_append, List.nil_append, List.mem_cons] at hx
      rcases hx with rfl | rfl | rfl | rfl | hx
      · exact hw.2.1
      · exact hw.2.2
      · exact hw.1.2.2.2.2.1
      · exact hw.1.1
      · exact hx)) rfl rfl rfl ⟨hw.1.2.1, hw.1.2.2.1, hw.1.2.2.2.1⟩ ⟨by show d' + 1 ≤ _; have := hRd.1; omega, by show 8 + (M'.2.2.2.1 + 11) + 64 * d' ≤ _; have := hRd.2; have := hw.1.2.2.2.2.2; omega⟩
  subst hstk
  refine x_after C' hL hlo hc' hs hbb hend (va_runS (As := as.map (x_v G)) ⟨C'.1, C'.2.1, C'.2.2.1, C'.2.2.2.2.2.2.1, hts⟩ hM cw ⟨x_Pc.blind, fun U hU hW => ⟨rfl, by rw [hU]; exact hR, x_K.warm hW hK⟩⟩ rfl (by rw [List.length_map]; exact hn) hL.1 ?_ ?_ hd ⟨by omega, by omega⟩) k
  · show (as.reverse ++ st).map (x_v G) = _
    rw [List.map_append, List.map_reverse]
  · show 2 * 0 + _ ≤ 8
    rw [x_catsum]
    omega
theorem Ax_callI {idx n a ci d' b' : Nat} {M' : xM} {fs as stk : List Value} {Q' : Option Value → xH → Prop} (hci : ci < 99) (hd : decode M.2.2.1 pc = .ok (.invokespecial idx, 3)) (hw : xCX M.1 idx M' n) (hc : h.1 a = cO ci fs) (hM : AM G M' d' b' (.ref a :: as) h Q') (hn : as.length = n) (hstk : stk = as.reverse ++ .ref a :: st) (hdd : d' + 1 ≤ d) (hbb : b' ≤ b) (hcat : (st.map fun v => v.category).sum ≤ 8)
    (k : ∀ r h', Q' r h' → Ax G M d (b - b') (pc + 3) L (r.toList ++ st) h' Q) : Ax G M d b pc L stk h Q := by
  intro p e R s m args below meth c H locs cells slots ls Z C' hR hL hlo hc' hs hend
  have ha := x_in_O hR hci hc
  have hts := C'.2.2.2.2.2.2.2.1
  have hK := C'.2.2.2.2.2.2.2.2.1
  have hRd := C'.2.2.2.2.2.2.2.2.2
  have cw : CallB R s args M.1 idx M'.2.1 M'.2.2.1 M'.2.2.2.1 none (x_ws M') (x_rm d' b') b' b' n ∧ M'.2.1.name = "<init>" ∧ (Cond.instanceMethod M'.2.1).before args s = true :=
    cwI n hts (lw_good_sub (fun w hx => by
      simp only [x_ws, List.mem_cons] at hx
      rcases hx with rfl | hx
      · exact hw.1.1
      · exact hx)) (by show x_ws M' = _; unfold x_ws; rw [hw.2.2.2.2]) rfl rfl (hts _ hw.1.2.2.2.2.1) (hts _ hw.2.1) (hts _ hw.2.2.1) hw.2.2.2.1 ⟨hw.1.2.1, hw.1.2.2.1, hw.1.2.2.2.1⟩ ⟨by show d' + 1 ≤ _; have := hRd.1; omega, by show 8 + (M'.2.2.2.1 + 11) + 64 * d' ≤ _; have := hRd.2; have := hw.1.2.2.2.2.2; omega⟩
  have hxa := x_a_lt hR ha
  subst hstk
  refine x_after C' hL hlo hc' hs hbb hend (va_runI (As := as.map (x_v G)) (b := x_B G + a) ⟨C'.1, C'.2.1, C'.2.2.1, C'.2.2.2.2.2.2.1, hts⟩ hM cw ⟨x_Pc.blind, fun U hU hW => ⟨?_, by rw [hU]; exact hR, x_K.warm hW hK⟩⟩ rfl (by rw [List.length_map]; exact hn) hL.1 ?_ ?_ hd ⟨by omega, by omega⟩) k
  · show (Value.ref (x_B G + a) :: as.map (x_v G)).toArray = ((Value.ref a :: as).map (x_v G)).toArray
    rw [List.map_cons]
    show _ = (Value.ref (x_a G a) :: as.map (x_v G)).toArray
    rw [hxa]
  · show (as.reverse ++ Value.ref a :: st).map (x_v G) = _
    rw [List.map_append, List.map_cons, List.map_reverse]
    show _ ++ Value.ref (x_a G a) :: _ = _
    rw [hxa]
  · show 2 * 0 + _ ≤ 8
    rw [x_catsum]
    omega
theorem Ax_callY {idx n a ci d' b' : Nat} {M' : xM} {fs as stk : List Value} {Q' : Option Value → xH → Prop} (hci : ci < 99) (hd : decode M.2.2.1 pc = .ok (.invokespecial idx, 3)) (hw : xCY M.1 idx M' n) (hc : h.1 a = cO ci fs) (hM : AM G M' d' b' (.ref a :: as) h Q') (hn : as.length = n) (hstk : stk = as.reverse ++ .ref a :: st) (hdd : d' + 1 ≤ d) (hbb : b' ≤ b) (hcat : (st.map fun v => v.category).sum ≤ 8)
    (k : ∀ r h', Q' r h' → Ax G M d (b - b') (pc + 3) L (r.toList ++ st) h' Q) : Ax G M d b pc L stk h Q := by
  intro p e R s m args below meth c H locs cells slots ls Z C' hR hL hlo hc' hs hend
  have ha := x_in_O hR hci hc
  have hts := C'.2.2.2.2.2.2.2.1
  have hK := C'.2.2.2.2.2.2.2.2.1
  have hRd := C'.2.2.2.2.2.2.2.2.2
  have cw : va_CN R s args M.1 idx M'.2.1 "ChoiceCode" M'.2.2.1 M'.2.2.2.1 none (x_ws M') (x_rm d' b') b' b' n :=
    va_cnB n hts (lw_good_sub (fun w hx => by
      simp only [x_ws, List.mem_cons] at hx
      rcases hx with rfl | hx
      · exact hw.1.1
      · exact hx)) (by show x_ws M' = _; unfold x_ws; rw [hw.2.2.2.2]) rfl rfl (by rw [hw.2.1.1, hw.2.1.2.1, hw.2.1.2.2]; exact hK.2.2.2.2.2.2.2) (hts _ hw.1.2.2.2.2.1) ⟨hw.1.2.1, hw.1.2.2.1, hw.1.2.2.2.1⟩ ⟨by show d' + 1 ≤ _; have := hRd.1; omega, by show 8 + (M'.2.2.2.1 + 11) + 64 * d' ≤ _; have := hRd.2; have := hw.1.2.2.2.2.2; omega⟩
  have hxa := x_a_lt hR ha
  subst hstk
  refine x_after C' hL hlo hc' hs hbb hend (va_runIN (As := as.map (x_v G)) (b := x_B G + a) ⟨C'.1, C'.2.1, C'.2.2.1, C'.2.2.2.2.2.2.1, hts⟩ hM ⟨cw, hw.2.2.2.1, hts _ hw.2.2.1⟩ ⟨x_Pc.blind, fun U hU hW => ⟨?_, by rw [hU]; exact hR, x_K.warm hW hK⟩⟩ rfl (by rw [List.length_map]; exact hn) hL.1 ?_ ?_ hd ⟨by omega, by omega⟩) k
  · show (Value.ref (x_B G + a) :: as.map (x_v G)).toArray = ((Value.ref a :: as).map (x_v G)).toArray
    rw [List.map_cons]
    show _ = (Value.ref (x_a G a) :: as.map (x_v G)).toArray
    rw [hxa]
  · show (as.reverse ++ Value.ref a :: st).map (x_v G) = _
    rw [List.map_append, List.map_cons, List.map_reverse]
    show _ ++ Value.ref (x_a G a) :: _ = _
    rw [hxa]
  · show 2 * 0 + _ ≤ 8
    rw [x_catsum]
    omega
theorem Ax_oinit {idx a ci : Nat} {fs : List Value} (hci : ci < 99) (hd : decode M.2.2.1 pc = .ok (.invokespecial idx, 3)) (hw : Cond.methodLink M.1 idx Lib.objectInit ∈ lw_good ∧ Cond.instanceMethod Lib.objectInit ∈ lw_good ∧ Cond.code Lib.objectInit ⟨#[0xb1]⟩ 1 none ∈ lw_good) (hc : h.1 a = cO ci fs) (hdd : 1 ≤ d) (hcat : (st.map fun v => v.category).sum ≤ 8)
    (k : Ax G M d b (pc + 3) L st h Q) : Ax G M d b pc L (.ref a :: st) h Q := by
  refine Ax_go (fun p e R s m args below meth c H locs cells slots ls Z C' hR hL K => ?_) k
  have hts := C'.2.2.2.2.2.2.2.1
  have hRd := C'.2.2.2.2.2.2.2.2.2
  refine W.objInit C'.1 C'.2.1 C'.2.2.2.2.2.2.1 (hts _ hw.1) (hts _ hw.2.1) (hts _ hw.2.2) rfl (hL.1.trans C'.2.2.1.symm) (a := x_a G a) rfl hd (by omega) ?_ K
  show 2 * 0 + ((st.map (x_v G)).map fun v => v.category).sum + 12 ≤ R.locals
  rw [x_catsum]
  omega
/-! a method's contract out of its walk -/
def x_ent : List Value → List Value
  | [] => []
  | v :: t => if v.category = 2 then v :: .null :: x_ent t else v :: x_ent t
theorem x_ent_len : ∀ as : List Value, (lg_sl (as.map (x_v G))).length = (x_ent as).length
  | [] => rfl
  | v :: t => by
    have ih := x_ent_len t
    unfold lg_sl at ih ⊢
    rw [List.map_cons, List.flatMap_cons, List.length_append, ih, x_v_cat, x_ent]
    split <;> simp <;> omega
theorem x_ent_at : ∀ (as : List Value) (o i : Nat) (v : Value), (x_ent as)[i]? = some v → v ≠ .null → (o + i, x_v G v) ∈ lv_args o (as.map (x_v G))
  | [], o, i, v, h, _ => by simp [x_ent] at h
  | w :: t, o, i, v, h, hv => by
    rw [x_ent] at h
    rw [List.map_cons, lv_args, x_v_cat]
    by_cases hc : w.category = 2
    · rw [if_pos hc] at h
      rw [if_pos hc]
      match i, h with
      | 0, h =>
        rw [List.getElem?_cons_zero] at h
        cases h
        exact List.mem_cons_self
      | 1, h =>
        rw [List.getElem?_cons_succ, List.getElem?_cons_zero] at h
        cases h
        exact absurd rfl hv
      | i + 2, h =>
        rw [List.getElem?_cons_succ, List.getElem?_cons_succ] at h
        have := x_ent_at t (o + 2) i v h hv
        rw [show o + (i + 2) = o + 2 + i by omega]
        exact List.mem_cons_of_mem _ this
    · rw [if_neg hc] at h
      rw [if_neg hc]
      match i, h with
      | 0, h =>
        rw [List.getElem?_cons_zero] at h
        cases h
        exact List.mem_cons_self
      | i + 1, h =>
        rw [List.getElem?_cons_succ] at h
        have := x_ent_at t (o + 1) i v h hv
        rw [show o + (i + 1) = o + 1 + i by omega]
        exact List.mem_cons_of_mem _ this
theorem AM.of {as : List Value} (hy : plainName M.2.1.cls = true) (hown : M.1 = M.2.1.cls) (hl : (x_ent as).length ≤ M.2.2.2.1) (hL : x_ent as ++ List.replicate (M.2.2.2.1 - (x_ent as).length) .null = L) (hk : Ax G M d b 0 L [] h Q) : AM G M d b as h Q := by
  refine Met.ofW (cc := M.2.2.1) (maxL := M.2.2.2.1) (ret := M.2.2.2.2) hy rfl ?_
  intro p e s m args below meth c s₁ B hml hv
  obtain ⟨rfl, hR, hK⟩ := hv
  have hts := atoms_spec (ws := x_ws M) B.pre
  rw [lg_entry_eq]
  have hlv := lv_entry (as.map (x_v G)) (n := M.2.2.2.1) (by rw [x_ent_len]; exact hl)
  have hxL : x_L G M.2.2.2.1 L ((lg_sl (as.map (x_v G)) ++ List.replicate (M.2.2.2.1 - (lg_sl (as.map (x_v G))).length) Slot.unset).toArray) := by
    refine ⟨hlv.1, hlv.2.1, fun i v hi hv => ?_⟩
    rw [← hL] at hi
    rcases Nat.lt_or_ge i (x_ent as).length with q | q
    · rw [List.getElem?_append_left q] at hi
      have := x_ent_at (G := G) as 0 i v hi hv
      rw [Nat.zero_add] at this
      exact hlv.2.2 _ this
    · rw [List.getElem?_append_right q] at hi
      have := List.mem_of_getElem? hi
      rw [List.mem_replicate] at this
      exact absurd this.2 hv
  refine hk p e _ s m _ below meth c s.heap [] 0 0 _ _ ⟨B.exec, B.bytes, hml, B.returns, B.notSynchronized, fun hi => ?_, ?_, fun w hw => hts w (List.mem_cons_of_mem _ hw), hK, Nat.le_refl _, Nat.le_refl _⟩ hR hxL (fun _ h => by cases h) (by show 0 + b ≤ b; omega) (by show 0 + b ≤ b; omega) ?_
  · rw [← hi]; exact (name_of_methodNamed B.named B.method).1
  · rw [hown]; exact findClass_of_methodNamed B.named
  · intro pc' ls' st' H' locs' cells' slots' r h' hret hR' hq hlo hc hs
    refine W.widen (k := b) (n := b) hc hs ?_
    rcases hret with ⟨g1, g2, rfl, rfl⟩ | ⟨v, ty, g1, g2, g3, rfl, rfl⟩ | ⟨v, g1, g2, rfl, rfl⟩ | ⟨a, ty, g1, g2, g3, rfl, rfl⟩
    · exact W.vret B.exec B.bytes (B.returns.trans g2) (fun t ht _ => ⟨none, h', rfl, hq, by rw [ht]; exact hR'⟩) hlo g1 B.notSynchronized
    · exact W.zret B.exec B.bytes (B.returns.trans g2) g3 (fun t ht _ => ⟨some (.int v), h', rfl, hq, by rw [ht]; exact hR'⟩) hlo g1 B.notSynchronized
    · exact W.lret B.exec B.bytes (B.returns.trans g2) (fun t ht _ => ⟨some (.long v), h', rfl, hq, by rw [ht]; exact hR'⟩) hlo g1 B.notSynchronized
    · exact W.aret B.exec B.bytes (B.returns.trans g2) g3 (Or.inr ⟨_, rfl⟩) (fun t ht _ => ⟨some (.ref a), h', rfl, hq, by rw [ht]; exact hR'⟩) hlo g1 B.notSynchronized
end
end
section
theorem g_in1 {w : Cond} (i : Nat) (h : tables_1_1[i]? = some w) (h2 : goodWord w = true) : w ∈ lw_good := List.mem_filter.mpr ⟨List.mem_append_right _ (List.mem_append_left _ (List.mem_of_getElem? h)), h2⟩
theorem g_in2 {w : Cond} (i : Nat) (h : tables_1_2[i]? = some w) (h2 : goodWord w = true) : w ∈ lw_good := List.mem_filter.mpr ⟨List.mem_append_right _ (List.mem_append_right _ (List.mem_append_left _ (List.mem_of_getElem? h))), h2⟩
theorem g_in3 {w : Cond} (i : Nat) (h : tables_1_3[i]? = some w) (h2 : goodWord w = true) : w ∈ lw_good := List.mem_filter.mpr ⟨List.mem_append_right _ (List.mem_append_right _ (List.mem_append_right _ (List.mem_append_left _ (List.mem_of_getElem? h)))), h2⟩
theorem g_in4 {w : Cond} (i : Nat) (h : tables_1_4[i]? = some w) (h2 : goodWord w = true) : w ∈ lw_good := List.mem_filter.mpr ⟨List.mem_append_right _ (List.mem_append_right _ (List.mem_append_right _ (List.mem_append_right _ (List.mem_append_left _ (List.mem_of_getElem? h))))), h2⟩
theorem g_in5 {w : Cond} (i : Nat) (h : tables_1_5[i]? = some w) (h2 : goodWord w = true) : w ∈ lw_good := List.mem_filter.mpr ⟨List.mem_append_right _ (List.mem_append_right _ (List.mem_append_right _ (List.mem_append_right _ (List.mem_append_right _ (List.mem_of_getElem? h))))), h2⟩
theorem g_in {w : Cond} (i : Nat) (h : lw_tbl[i]? = some w) (h2 : goodWord w = true) : w ∈ lw_good := List.mem_filter.mpr ⟨List.mem_of_getElem? h, h2⟩
theorem kfX0 : xCF 0 RX0 TX0 10 tyX0 := ⟨by decide, rfl, fun w hw => List.mem_filter.mpr (by revert w; decide +kernel), tyX0_ok, nmX0⟩
theorem kfX1 : xCF 1 RX1 TX1 14 tyX1 := ⟨by decide, rfl, fun w hw => List.mem_filter.mpr (by revert w; decide +kernel), tyX1_ok, nmX1⟩
theorem kfX2 : xCF 2 RX2 TX2 5 tyX2 := ⟨by decide, rfl, fun w hw => List.mem_filter.mpr (by revert w; decide +kernel), tyX2_ok, nmX2⟩
theorem kfX3 : xCF 3 RX3 TX3 2 tyX3 := ⟨by decide, rfl, fun w hw => List.mem_filter.mpr (by revert w; decide +kernel), tyX3_ok, nmX3⟩
theorem kfX4 : xCF 4 RX4 TX4 4 tyX4 := ⟨by decide, rfl, fun w hw => List.mem_filter.mpr (by revert w; decide +kernel), tyX4_ok, nmX4⟩
theorem kfX5 : xCF 5 RX5 TX5 13 tyX5 := ⟨by decide, rfl, fun w hw => List.mem_filter.mpr (by revert w; decide +kernel), tyX5_ok, nmX5⟩
theorem kfX6 : xCF 6 RX6 TX6 41 tyX6 := ⟨by decide, rfl, fun w hw => List.mem_filter.mpr (by revert w; decide +kernel), tyX6_ok, nmX6⟩
set_option maxRecDepth 20000 in
theorem fX2_9 : xFL RX2 9 RX2 TX2 5 0 := ⟨by decide, (g_in1 33 rfl rfl), rfl⟩
set_option maxRecDepth 20000 in
theorem fX2_15 : xFL RX2 15 RX2 TX2 5 1 := ⟨by decide, (g_in1 34 rfl rfl), rfl⟩
set_option maxRecDepth 20000 in
theorem fX2_18 : xFL RX2 18 RX2 TX2 5 2 := ⟨by decide, (g_in1 35 rfl rfl), rfl⟩
set_option maxRecDepth 20000 in
theorem fX2_21 : xFL RX2 21 RX2 TX2 5 3 := ⟨by decide, (g_in1 36 rfl rfl), rfl⟩
set_option maxRecDepth 20000 in
theorem fX2_24 : xFL RX2 24 RX2 TX2 5 4 := ⟨by decide, (g_in1 37 rfl rfl), rfl⟩
set_option maxRecDepth 20000 in
theorem fX0_40 : xFL RX0 40 RX0 TX0 10 0 := ⟨by decide, (g_in1 56 rfl rfl), rfl⟩
set_option maxRecDepth 20000 in
theorem fX0_9 : xFL RX0 9 RX0 TX0 10 1 := ⟨by decide, (g_in1 57 rfl rfl), rfl⟩
set_option maxRecDepth 20000 in
theorem fX0_15 : xFL RX0 15 RX0 TX0 10 2 := ⟨by decide, (g_in1 58 rfl rfl), rfl⟩
set_option maxRecDepth 20000 in
theorem fX0_18 : xFL RX0 18 RX0 TX0 10 3 := ⟨by decide, (g_in1 59 rfl rfl), rfl⟩
set_option maxRecDepth 20000 in
theorem fX0_21 : xFL RX0 21 RX0 TX0 10 4 := ⟨by decide, (g_in1 60 rfl rfl), rfl⟩
set_option maxRecDepth 20000 in
theorem fX0_24 : xFL RX0 24 RX0 TX0 10 5 := ⟨by decide, (g_in1 61 rfl rfl), rfl⟩
set_option maxRecDepth 20000 in
theorem fX0_27 : xFL RX0 27 RX0 TX0 10 6 := ⟨by decide, (g_in1 62 rfl rfl), rfl⟩
set_option maxRecDepth 20000 in
theorem fX0_30 : xFL RX0 30 RX0 TX0 10 7 := ⟨by decide, (g_in1 63 rfl rfl), rfl⟩
set_option maxRecDepth 20000 in
theorem fX0_34 : xFL RX0 34 RX0 TX0 10 8 := ⟨by decide, (g_in1 64 rfl rfl), rfl⟩
set_option maxRecDepth 20000 in
theorem fX0_37 : xFL RX0 37 RX0 TX0 10 9 := ⟨by decide, (g_in1 65 rfl rfl), rfl⟩
set_option maxRecDepth 20000 in
theorem fX4_22 : xFL RX4 22 RX4 TX4 4 0 := ⟨by decide, (g_in1 93 rfl rfl), rfl⟩
set_option maxRecDepth 20000 in
theorem fX4_9 : xFL RX4 9 RX4 TX4 4 1 := ⟨by decide, (g_in1 94 rfl rfl), rfl⟩
set_option maxRecDepth 20000 in
theorem fX4_15 : xFL RX4 15 RX4 TX4 4 2 := ⟨by decide, (g_in1 95 rfl rfl), rfl⟩
set_option maxRecDepth 20000 in
theorem fX4_18 : xFL RX4 18 RX4 TX4 4 3 := ⟨by decide, (g_in1 96 rfl rfl), rfl⟩
set_option maxRecDepth 20000 in
theorem fX1_47 : xFL RX1 47 RX1 TX1 14 0 := ⟨by decide, (g_in1 112 rfl rfl), rfl⟩
set_option maxRecDepth 20000 in
theorem fX1_51 : xFL RX1 51 RX1 TX1 14 1 := ⟨by decide, (g_in1 113 rfl rfl), rfl⟩
set_option maxRecDepth 20000 in
theorem fX1_55 : xFL RX1 55 RX1 TX1 14 2 := ⟨by decide, (g_in1 114 rfl rfl), rfl⟩
set_option maxRecDepth 20000 in
theorem fX1_9 : xFL RX1 9 RX1 TX1 14 3 := ⟨by decide, (g_in1 115 rfl rfl), rfl⟩
set_option maxRecDepth 20000 in
theorem fX1_15 : xFL RX1 15 RX1 TX1 14 4 := ⟨by decide, (g_in1 116 rfl rfl), rfl⟩
set_option maxRecDepth 20000 in
theorem fX1_18 : xFL RX1 18 RX1 TX1 14 5 := ⟨by decide, (g_in1 117 rfl rfl), rfl⟩
set_option maxRecDepth 20000 in
theorem fX1_21 : xFL RX1 21 RX1 TX1 14 6 := ⟨by decide, (g_in1 118 rfl rfl), rfl⟩
set_option maxRecDepth 20000 in
theorem fX1_25 : xFL RX1 25 RX1 TX1 14 7 := ⟨by decide, (g_in1 119 rfl rfl), rfl⟩
set_option maxRecDepth 20000 in
theorem fX1_28 : xFL RX1 28 RX1 TX1 14 8 := ⟨by decide, (g_in1 120 rfl rfl), rfl⟩
set_option maxRecDepth 20000 in
theorem fX1_31 : xFL RX1 31 RX1 TX1 14 9 := ⟨by decide, (g_in1 121 rfl rfl), rfl⟩
set_option maxRecDepth 20000 in
theorem fX1_35 : xFL RX1 35 RX1 TX1 14 10 := ⟨by decide, (g_in1 122 rfl rfl), rfl⟩
set_option maxRecDepth 20000 in
theorem fX1_38 : xFL RX1 38 RX1 TX1 14 11 := ⟨by decide, (g_in1 123 rfl rfl), rfl⟩
set_option maxRecDepth 20000 in
theorem fX1_41 : xFL RX1 41 RX1 TX1 14 12 := ⟨by decide, (g_in1 124 rfl rfl), rfl⟩
set_option maxRecDepth 20000 in
theorem fX1_44 : xFL RX1 44 RX1 TX1 14 13 := ⟨by decide, (g_in1 125 rfl rfl), rfl⟩
set_option maxRecDepth 20000 in
theorem fX3_9 : xFL RX3 9 RX3 TX3 2 0 := ⟨by decide, (g_in1 162 rfl rfl), rfl⟩
set_option maxRecDepth 20000 in
theorem fX3_15 : xFL RX3 15 RX3 TX3 2 1 := ⟨by decide, (g_in1 163 rfl rfl), rfl⟩
set_option maxRecDepth 20000 in
theorem fX5_12 : xFL RX5 12 RX5 TX5 13 0 := ⟨by decide, (g_in1 170 rfl rfl), rfl⟩
set_option maxRecDepth 20000 in
theorem fX5_16 : xFL RX5 16 RX5 TX5 13 1 := ⟨by decide, (g_in1 171 rfl rfl), rfl⟩
set_option maxRecDepth 20000 in
theorem fX5_24 : xFL RX5 24 RX5 TX5 13 2 := ⟨by decide, (g_in1 172 rfl rfl), rfl⟩
set_option maxRecDepth 20000 in
theorem fX5_33 : xFL RX5 33 RX5 TX5 13 3 := ⟨by decide, (g_in1 173 rfl rfl), rfl⟩
set_option maxRecDepth 20000 in
theorem fX5_42 : xFL RX5 42 RX5 TX5 13 4 := ⟨by decide, (g_in1 174 rfl rfl), rfl⟩
set_option maxRecDepth 20000 in
theorem fX5_49 : xFL RX5 49 RX5 TX5 13 5 := ⟨by decide, (g_in1 175 rfl rfl), rfl⟩
set_option maxRecDepth 20000 in
theorem fX5_53 : xFL RX5 53 RX5 TX5 13 6 := ⟨by decide, (g_in1 176 rfl rfl), rfl⟩
set_option maxRecDepth 20000 in
theorem fX5_57 : xFL RX5 57 RX5 TX5 13 7 := ⟨by decide, (g_in1 177 rfl rfl), rfl⟩
set_option maxRecDepth 20000 in
theorem fX5_60 : xFL RX5 60 RX5 TX5 13 8 := ⟨by decide, (g_in1 178 rfl rfl), rfl⟩
set_option maxRecDepth 20000 in
theorem fX5_63 : xFL RX5 63 RX5 TX5 13 9 := ⟨by decide, (g_in1 179 rfl rfl), rfl⟩
set_option maxRecDepth 20000 in
theorem fX5_66 : xFL RX5 66 RX5 TX5 13 10 := ⟨by decide, (g_in1 180 rfl rfl), rfl⟩
set_option maxRecDepth 20000 in
theorem fX5_69 : xFL RX5 69 RX5 TX5 13 11 := ⟨by decide, (g_in1 181 rfl rfl), rfl⟩
set_option maxRecDepth 20000 in
theorem fX5_72 : xFL RX5 72 RX5 TX5 13 12 := ⟨by decide, (g_in1 182 rfl rfl), rfl⟩
set_option maxRecDepth 20000 in
theorem fX6_7 : xFL RX6 7 RX6 TX6 41 0 := ⟨by decide, (g_in4 5 rfl rfl), rfl⟩
set_option maxRecDepth 20000 in
theorem fX6_13 : xFL RX6 13 RX6 TX6 41 1 := ⟨by decide, (g_in4 6 rfl rfl), rfl⟩
set_option maxRecDepth 20000 in
theorem fX6_17 : xFL RX6 17 RX6 TX6 41 2 := ⟨by decide, (g_in4 7 rfl rfl), rfl⟩
set_option maxRecDepth 20000 in
theorem fX6_20 : xFL RX6 20 RX6 TX6 41 3 := ⟨by decide, (g_in4 8 rfl rfl), rfl⟩
set_option maxRecDepth 20000 in
theorem fX6_23 : xFL RX6 23 RX6 TX6 41 4 := ⟨by decide, (g_in4 9 rfl rfl), rfl⟩
set_option maxRecDepth 20000 in
theorem fX6_116 : xFL RX6 116 RX6 TX6 41 5 := ⟨by decide, (g_in4 10 rfl rfl), rfl⟩
set_option maxRecDepth 20000 in
theorem fX6_26 : xFL RX6 26 RX6 TX6 41 6 := ⟨by decide, (g_in4 11 rfl rfl), rfl⟩
set_option maxRecDepth 20000 in
theorem fX6_125 : xFL RX6 125 RX6 TX6 41 7 := ⟨by decide, (g_in4 12 rfl rfl), rfl⟩
set_option maxRecDepth 20000 in
theorem fX6_128 : xFL RX6 128 RX6 TX6 41 8 := ⟨by decide, (g_in4 13 rfl rfl), rfl⟩
set_option maxRecDepth 20000 in
theorem fX6_30 : xFL RX6 30 RX6 TX6 41 9 := ⟨by decide, (g_in4 14 rfl rfl), rfl⟩
set_option maxRecDepth 20000 in
theorem fX6_33 : xFL RX6 33 RX6 TX6 41 10 := ⟨by decide, (g_in4 15 rfl rfl), rfl⟩
set_option maxRecDepth 20000 in
theorem fX6_135 : xFL RX6 135 RX6 TX6 41 11 := ⟨by decide, (g_in4 16 rfl rfl), rfl⟩
set_option maxRecDepth 20000 in
theorem fX6_36 : xFL RX6 36 RX6 TX6 41 12 := ⟨by decide, (g_in4 17 rfl rfl), rfl⟩
set_option maxRecDepth 20000 in
theorem fX6_39 : xFL RX6 39 RX6 TX6 41 13 := ⟨by decide, (g_in4 18 rfl rfl), rfl⟩
set_option maxRecDepth 20000 in
theorem fX6_42 : xFL RX6 42 RX6 TX6 41 14 := ⟨by decide, (g_in4 19 rfl rfl), rfl⟩
set_option maxRecDepth 20000 in
theorem fX6_45 : xFL RX6 45 RX6 TX6 41 15 := ⟨by decide, (g_in4 20 rfl rfl), rfl⟩
set_option maxRecDepth 20000 in
theorem fX6_138 : xFL RX6 138 RX6 TX6 41 16 := ⟨by decide, (g_in4 21 rfl rfl), rfl⟩
set_option maxRecDepth 20000 in
theorem fX6_48 : xFL RX6 48 RX6 TX6 41 17 := ⟨by decide, (g_in4 22 rfl rfl), rfl⟩
set_option maxRecDepth 20000 in
theorem fX6_51 : xFL RX6 51 RX6 TX6 41 18 := ⟨by decide, (g_in4 23 rfl rfl), rfl⟩
set_option maxRecDepth 20000 in
theorem fX6_54 : xFL RX6 54 RX6 TX6 41 19 := ⟨by decide, (g_in4 24 rfl rfl), rfl⟩
set_option maxRecDepth 20000 in
theorem fX6_149 : xFL RX6 149 RX6 TX6 41 20 := ⟨by decide, (g_in4 25 rfl rfl), rfl⟩
set_option maxRecDepth 20000 in
theorem fX6_57 : xFL RX6 57 RX6 TX6 41 21 := ⟨by decide, (g_in4 26 rfl rfl), rfl⟩
set_option maxRecDepth 20000 in
theorem fX6_60 : xFL RX6 60 RX6 TX6 41 22 := ⟨by decide, (g_in4 27 rfl rfl), rfl⟩
set_option maxRecDepth 20000 in
theorem fX6_64 : xFL RX6 64 RX6 TX6 41 23 := ⟨by decide, (g_in4 28 rfl rfl), rfl⟩
set_option maxRecDepth 20000 in
theorem fX6_67 : xFL RX6 67 RX6 TX6 41 24 := ⟨by decide, (g_in4 29 rfl rfl), rfl⟩
set_option maxRecDepth 20000 in
theorem fX6_70 : xFL RX6 70 RX6 TX6 41 25 := ⟨by decide, (g_in4 30 rfl rfl), rfl⟩
set_option maxRecDepth 20000 in
theorem fX6_73 : xFL RX6 73 RX6 TX6 41 26 := ⟨by decide, (g_in4 31 rfl rfl), rfl⟩
set_option maxRecDepth 20000 in
theorem fX6_76 : xFL RX6 76 RX6 TX6 41 27 := ⟨by decide, (g_in4 32 rfl rfl), rfl⟩
set_option maxRecDepth 20000 in
theorem fX6_79 : xFL RX6 79 RX6 TX6 41 28 := ⟨by decide, (g_in4 33 rfl rfl), rfl⟩
set_option maxRecDepth 20000 in
theorem fX6_82 : xFL RX6 82 RX6 TX6 41 29 := ⟨by decide, (g_in4 34 rfl rfl), rfl⟩
set_option maxRecDepth 20000 in
theorem fX6_158 : xFL RX6 158 RX6 TX6 41 30 := ⟨by decide, (g_in4 35 rfl rfl), rfl⟩
set_option maxRecDepth 20000 in
theorem fX6_85 : xFL RX6 85 RX6 TX6 41 31 := ⟨by decide, (g_in4 36 rfl rfl), rfl⟩
set_option maxRecDepth 20000 in
theorem fX6_88 : xFL RX6 88 RX6 TX6 41 32 := ⟨by decide, (g_in4 37 rfl rfl), rfl⟩
set_option maxRecDepth 20000 in
theorem fX6_91 : xFL RX6 91 RX6 TX6 41 33 := ⟨by decide, (g_in4 38 rfl rfl), rfl⟩
set_option maxRecDepth 20000 in
theorem fX6_94 : xFL RX6 94 RX6 TX6 41 34 := ⟨by decide, (g_in4 39 rfl rfl), rfl⟩
set_option maxRecDepth 20000 in
theorem fX6_97 : xFL RX6 97 RX6 TX6 41 35 := ⟨by decide, (g_in4 40 rfl rfl), rfl⟩
set_option maxRecDepth 20000 in
theorem fX6_100 : xFL RX6 100 RX6 TX6 41 36 := ⟨by decide, (g_in4 41 rfl rfl), rfl⟩
set_option maxRecDepth 20000 in
theorem fX6_161 : xFL RX6 161 RX6 TX6 41 37 := ⟨by decide, (g_in4 42 rfl rfl), rfl⟩
set_option maxRecDepth 20000 in
theorem fX6_202 : xFL RX6 202 RX6 TX6 41 38 := ⟨by decide, (g_in4 43 rfl rfl), rfl⟩
set_option maxRecDepth 20000 in
theorem fX6_104 : xFL RX6 104 RX6 TX6 41 39 := ⟨by decide, (g_in4 44 rfl rfl), rfl⟩
set_option maxRecDepth 20000 in
theorem fX6_225 : xFL RX6 225 RX6 TX6 41 40 := ⟨by decide, (g_in4 45 rfl rfl), rfl⟩
abbrev mX5_init : xM := (RX5, yX5_init, cX5_init, 1, none)
set_option maxRecDepth 20000 in
theorem kX5_init : xCA mX5_init 0 := ⟨(g_in1 20 rfl rfl), by decide, by decide, by decide +kernel, (g_in1 1 rfl rfl), by decide⟩
abbrev mX2_init : xM := (RX2, yX2_init, cX2_init, 1, none)
set_option maxRecDepth 20000 in
theorem kX2_init : xCA mX2_init 0 := ⟨(g_in1 28 rfl rfl), by decide, by decide, by decide +kernel, (g_in1 2 rfl rfl), by decide⟩
abbrev mJ7_fill_53178 : xM := (RJ7, yJ7_fill_53178, cJ7_fill_53178, 4, none)
set_option maxRecDepth 20000 in
theorem kJ7_fill_53178 : xCA mJ7_fill_53178 2 := ⟨(g_in1 32 rfl rfl), by decide, by decide, by decide +kernel, (g_in1 3 rfl rfl), by decide⟩
abbrev mX0_init : xM := (RX0, yX0_init, cX0_init, 2, none)
set_option maxRecDepth 20000 in
theorem kX0_init : xCA mX0_init 1 := ⟨(g_in1 54 rfl rfl), by decide, by decide, by decide +kernel, (g_in1 4 rfl rfl), by decide⟩
abbrev mX4_init : xM := (RX4, yX4_init, cX4_init, 2, none)
set_option maxRecDepth 20000 in
theorem kX4_init : xCA mX4_init 1 := ⟨(g_in1 91 rfl rfl), by decide, by decide, by decide +kernel, (g_in1 5 rfl rfl), by decide⟩
abbrev mX1_init : xM := (RX1, yX1_init, cX1_init, 4, none)
set_option maxRecDepth 20000 in
theorem kX1_init : xCA mX1_init 3 := ⟨(g_in1 110 rfl rfl), by decide, by decide, by decide +kernel, (g_in1 6 rfl rfl), by decide⟩
abbrev mX3_init : xM := (RX3, yX3_init, cX3_init, 1, none)
set_option maxRecDepth 20000 in
theorem kX3_init : xCA mX3_init 0 := ⟨(g_in1 160 rfl rfl), by decide, by decide, by decide +kernel, (g_in1 7 rfl rfl), by decide⟩
abbrev mX5_add : xM := (RX5, yX5_add, cX5_add, 7, (some .int))
set_option maxRecDepth 20000 in
theorem kX5_add : xCA mX5_add 4 := ⟨(g_in1 213 rfl rfl), by decide, by decide, by decide +kernel, (g_in1 1 rfl rfl), by decide⟩
abbrev mX5_isTarget : xM := (RX5, yX5_isTarget, cX5_isTarget, 1, (some .boolean))
set_option maxRecDepth 20000 in
theorem kX5_isTarget : xCA mX5_isTarget 1 := ⟨(g_in1 216 rfl rfl), by decide, by decide, by decide +kernel, (g_in1 1 rfl rfl), by decide⟩
abbrev mX5_within : xM := (RX5, yX5_within, cX5_within, 3, (some .boolean))
set_option maxRecDepth 20000 in
theorem kX5_within : xCA mX5_within 3 := ⟨(g_in1 219 rfl rfl), by decide, by decide, by decide +kernel, (g_in1 1 rfl rfl), by decide⟩
abbrev mX5_isWeight : xM := (RX5, yX5_isWeight, cX5_isWeight, 1, (some .boolean))
set_option maxRecDepth 20000 in
theorem kX5_isWeight : xCA mX5_isWeight 1 := ⟨(g_in1 222 rfl rfl), by decide, by decide, by decide +kernel, (g_in1 1 rfl rfl), by decide⟩
abbrev mX2_firstMeeting : xM := (RX2, yX2_firstMeeting, cX2_firstMeeting, 4, (some .int))
set_option maxRecDepth 20000 in
theorem kX2_firstMeeting : xCA mX2_firstMeeting 2 := ⟨(g_in1 226 rfl rfl), by decide, by decide, by decide +kernel, (g_in1 2 rfl rfl), by decide⟩
abbrev mX2_firstFree : xM := (RX2, yX2_firstFree, cX2_firstFree, 2, (some .int))
set_option maxRecDepth 20000 in
theorem kX2_firstFree : xCA mX2_firstFree 0 := ⟨(g_in1 230 rfl rfl), by decide, by decide, by decide +kernel, (g_in1 2 rfl rfl), by decide⟩
abbrev mX2_set : xM := (RX2, yX2_set, cX2_set, 6, none)
set_option maxRecDepth 20000 in
theorem kX2_set : xCA mX2_set 5 := ⟨(g_in1 234 rfl rfl), by decide, by decide, by decide +kernel, (g_in1 2 rfl rfl), by decide⟩
abbrev mX5_clash : xM := (RX5, yX5_clash, cX5_clash, 1, (some .int))
set_option maxRecDepth 20000 in
theorem kX5_clash : xCA mX5_clash 0 := ⟨(g_in1 238 rfl rfl), by decide, by decide, by decide +kernel, (g_in1 1 rfl rfl), by decide⟩
abbrev mX5_drop : xM := (RX5, yX5_drop, cX5_drop, 2, (some .int))
set_option maxRecDepth 20000 in
theorem kX5_drop : xCA mX5_drop 1 := ⟨(g_in2 2 rfl rfl), by decide, by decide, by decide +kernel, (g_in1 1 rfl rfl), by decide⟩
abbrev mX2_has : xM := (RX2, yX2_has, cX2_has, 2, (some .boolean))
set_option maxRecDepth 20000 in
theorem kX2_has : xCA mX2_has 1 := ⟨(g_in2 6 rfl rfl), by decide, by decide, by decide +kernel, (g_in1 2 rfl rfl), by decide⟩
abbrev mX2_free : xM := (RX2, yX2_free, cX2_free, 2, none)
set_option maxRecDepth 20000 in
theorem kX2_free : xCA mX2_free 1 := ⟨(g_in2 10 rfl rfl), by decide, by decide, by decide +kernel, (g_in1 2 rfl rfl), by decide⟩
abbrev mX2_held : xM := (RX2, yX2_held, cX2_held, 1, (some .int))
set_option maxRecDepth 20000 in
theorem kX2_held : xCA mX2_held 0 := ⟨(g_in2 15 rfl rfl), by decide, by decide, by decide +kernel, (g_in1 2 rfl rfl), by decide⟩
abbrev mX5_rest : xM := (RX5, yX5_rest, cX5_rest, 4, (some .int))
set_option maxRecDepth 20000 in
theorem kX5_rest : xCA mX5_rest 2 := ⟨(g_in2 19 rfl rfl), by decide, by decide, by decide +kernel, (g_in1 1 rfl rfl), by decide⟩
abbrev mX5_tables : xM := (RX5, yX5_tables, cX5_tables, 4, (some .int))
set_option maxRecDepth 20000 in
theorem kX5_tables : xCA mX5_tables 2 := ⟨(g_in2 23 rfl rfl), by decide, by decide, by decide +kernel, (g_in1 1 rfl rfl), by decide⟩
abbrev mX5_way : xM := (RX5, yX5_way, cX5_way, 3, (some .int))
set_option maxRecDepth 20000 in
theorem kX5_way : xCA mX5_way 1 := ⟨(g_in2 27 rfl rfl), by decide, by decide, by decide +kernel, (g_in1 1 rfl rfl), by decide⟩
abbrev mX5_told : xM := (RX5, yX5_told, cX5_told, 3, (some .int))
set_option maxRecDepth 20000 in
theorem kX5_told : xCA mX5_told 2 := ⟨(g_in2 31 rfl rfl), by decide, by decide, by decide +kernel, (g_in1 1 rfl rfl), by decide⟩
abbrev mX2_tell : xM := (RX2, yX2_tell, cX2_tell, 3, (some .int))
set_option maxRecDepth 20000 in
theorem kX2_tell : xCA mX2_tell 2 := ⟨(g_in2 35 rfl rfl), by decide, by decide, by decide +kernel, (g_in1 2 rfl rfl), by decide⟩
abbrev mX5_count : xM := (RX5, yX5_count, cX5_count, 2, (some .int))
set_option maxRecDepth 20000 in
theorem kX5_count : xCA mX5_count 1 := ⟨(g_in2 39 rfl rfl), by decide, by decide, by decide +kernel, (g_in1 1 rfl rfl), by decide⟩
abbrev mX5_workOut : xM := (RX5, yX5_workOut, cX5_workOut, 1, none)
set_option maxRecDepth 20000 in
theorem kX5_workOut : xCA mX5_workOut 0 := ⟨(g_in2 43 rfl rfl), by decide, by decide, by decide +kernel, (g_in1 1 rfl rfl), by decide⟩
abbrev mX2_gather : xM := (RX2, yX2_gather, cX2_gather, 5, none)
set_option maxRecDepth 20000 in
theorem kX2_gather : xCA mX2_gather 2 := ⟨(g_in2 47 rfl rfl), by decide, by decide, by decide +kernel, (g_in1 2 rfl rfl), by decide⟩
abbrev mX2_nextByLow : xM := (RX2, yX2_nextByLow, cX2_nextByLow, 7, (some .int))
set_option maxRecDepth 20000 in
theorem kX2_nextByLow : xCA mX2_nextByLow 1 := ⟨(g_in2 52 rfl rfl), by decide, by decide, by decide +kernel, (g_in1 2 rfl rfl), by decide⟩
abbrev mX2_target : xM := (RX2, yX2_target, cX2_target, 2, (some .int))
set_option maxRecDepth 20000 in
theorem kX2_target : xCA mX2_target 1 := ⟨(g_in2 57 rfl rfl), by decide, by decide, by decide +kernel, (g_in1 2 rfl rfl), by decide⟩
abbrev mX2_low : xM := (RX2, yX2_low, cX2_low, 2, (some .int))
set_option maxRecDepth 20000 in
theorem kX2_low : xCA mX2_low 1 := ⟨(g_in2 61 rfl rfl), by decide, by decide, by decide +kernel, (g_in1 2 rfl rfl), by decide⟩
abbrev mX2_high : xM := (RX2, yX2_high, cX2_high, 2, (some .int))
set_option maxRecDepth 20000 in
theorem kX2_high : xCA mX2_high 1 := ⟨(g_in2 65 rfl rfl), by decide, by decide, by decide +kernel, (g_in1 2 rfl rfl), by decide⟩
abbrev mX2_weight : xM := (RX2, yX2_weight, cX2_weight, 2, (some .int))
set_option maxRecDepth 20000 in
theorem kX2_weight : xCA mX2_weight 1 := ⟨(g_in2 69 rfl rfl), by decide, by decide, by decide +kernel, (g_in1 2 rfl rfl), by decide⟩
abbrev mX2_join : xM := (RX2, yX2_join, cX2_join, 6, none)
set_option maxRecDepth 20000 in
theorem kX2_join : xCA mX2_join 4 := ⟨(g_in2 73 rfl rfl), by decide, by decide, by decide +kernel, (g_in1 2 rfl rfl), by decide⟩
abbrev mX0_part : xM := (RX0, yX0_part, cX0_part, 5, none)
set_option maxRecDepth 20000 in
theorem kX0_part : xCA mX0_part 2 := ⟨(g_in2 78 rfl rfl), by decide, by decide, by decide +kernel, (g_in1 4 rfl rfl), by decide⟩
abbrev mX0_findFewest : xM := (RX0, yX0_findFewest, cX0_findFewest, 4, none)
set_option maxRecDepth 20000 in
theorem kX0_findFewest : xCA mX0_findFewest 0 := ⟨(g_in2 82 rfl rfl), by decide, by decide, by decide +kernel, (g_in1 4 rfl rfl), by decide⟩
abbrev mJ9_min_7cf53 : xM := (RJ9, yJ9_min_7cf53, cJ9_min_7cf53, 2, (some .int))
set_option maxRecDepth 20000 in
theorem kJ9_min_7cf53 : xCA mJ9_min_7cf53 2 := ⟨(g_in2 86 rfl rfl), by decide, by decide, by decide +kernel, (g_in1 9 rfl rfl), by decide⟩
abbrev mX0_kindOf : xM := (RX0, yX0_kindOf, cX0_kindOf, 5, (some .int))
set_option maxRecDepth 20000 in
theorem kX0_kindOf : xCA mX0_kindOf 2 := ⟨(g_in2 90 rfl rfl), by decide, by decide, by decide +kernel, (g_in1 4 rfl rfl), by decide⟩
abbrev mX2_unlikeTargets : xM := (RX2, yX2_unlikeTargets, cX2_unlikeTargets, 5, (some .int))
set_option maxRecDepth 20000 in
theorem kX2_unlikeTargets : xCA mX2_unlikeTargets 2 := ⟨(g_in2 97 rfl rfl), by decide, by decide, by decide +kernel, (g_in1 2 rfl rfl), by decide⟩
abbrev mJ6_bitCount_0f7a4 : xM := (RJ6, yJ6_bitCount_0f7a4, cJ6_bitCount_0f7a4, 1, (some .int))
set_option maxRecDepth 20000 in
theorem kJ6_bitCount_0f7a4 : xCA mJ6_bitCount_0f7a4 1 := ⟨(g_in2 100 rfl rfl), by decide, by decide, by decide +kernel, (g_in1 10 rfl rfl), by decide⟩
abbrev mX2_intsIn : xM := (RX2, yX2_intsIn, cX2_intsIn, 6, (some .long))
set_option maxRecDepth 20000 in
theorem kX2_intsIn : xCA mX2_intsIn 2 := ⟨(g_in2 107 rfl rfl), by decide, by decide, by decide +kernel, (g_in1 2 rfl rfl), by decide⟩
abbrev mX2_weightOf : xM := (RX2, yX2_weightOf, cX2_weightOf, 5, (some .int))
set_option maxRecDepth 20000 in
theorem kX2_weightOf : xCA mX2_weightOf 2 := ⟨(g_in2 112 rfl rfl), by decide, by decide, by decide +kernel, (g_in1 2 rfl rfl), by decide⟩
abbrev mX4_plan : xM := (RX4, yX4_plan, cX4_plan, 5, none)
set_option maxRecDepth 20000 in
theorem kX4_plan : xCA mX4_plan 1 := ⟨(g_in2 116 rfl rfl), by decide, by decide, by decide +kernel, (g_in1 5 rfl rfl), by decide⟩
abbrev mX0_held : xM := (RX0, yX0_held, cX0_held, 1, (some .int))
set_option maxRecDepth 20000 in
theorem kX0_held : xCA mX0_held 0 := ⟨(g_in2 120 rfl rfl), by decide, by decide, by decide +kernel, (g_in1 4 rfl rfl), by decide⟩
abbrev mX4_findCheapest : xM := (RX4, yX4_findCheapest, cX4_findCheapest, 8, none)
set_option maxRecDepth 20000 in
theorem kX4_findCheapest : xCA mX4_findCheapest 2 := ⟨(g_in2 125 rfl rfl), by decide, by decide, by decide +kernel, (g_in1 5 rfl rfl), by decide⟩
abbrev mX0_weight : xM := (RX0, yX0_weight, cX0_weight, 2, (some .int))
set_option maxRecDepth 20000 in
theorem kX0_weight : xCA mX0_weight 1 := ⟨(g_in2 130 rfl rfl), by decide, by decide, by decide +kernel, (g_in1 4 rfl rfl), by decide⟩
abbrev mX4_costOf : xM := (RX4, yX4_costOf, cX4_costOf, 4, (some .int))
set_option maxRecDepth 20000 in
theorem kX4_costOf : xCA mX4_costOf 2 := ⟨(g_in2 134 rfl rfl), by decide, by decide, by decide +kernel, (g_in1 5 rfl rfl), by decide⟩
abbrev mX4_place : xM := (RX4, yX4_place, cX4_place, 3, (some .int))
set_option maxRecDepth 20000 in
theorem kX4_place : xCA mX4_place 2 := ⟨(g_in2 137 rfl rfl), by decide, by decide, by decide +kernel, (g_in1 5 rfl rfl), by decide⟩
abbrev mX1_layOut : xM := (RX1, yX1_layOut, cX1_layOut, 2, none)
set_option maxRecDepth 20000 in
theorem kX1_layOut : xCA mX1_layOut 1 := ⟨(g_in2 141 rfl rfl), by decide, by decide, by decide +kernel, (g_in1 6 rfl rfl), by decide⟩
abbrev mX1_write : xM := (RX1, yX1_write, cX1_write, 6, (some .int))
set_option maxRecDepth 20000 in
theorem kX1_write : xCA mX1_write 4 := ⟨(g_in2 146 rfl rfl), by decide, by decide, by decide +kernel, (g_in1 6 rfl rfl), by decide⟩
abbrev mX1_layPart : xM := (RX1, yX1_layPart, cX1_layPart, 9, none)
set_option maxRecDepth 20000 in
theorem kX1_layPart : xCA mX1_layPart 5 := ⟨(g_in2 152 rfl rfl), by decide, by decide, by decide +kernel, (g_in1 6 rfl rfl), by decide⟩
abbrev mX1_layLeaf : xM := (RX1, yX1_layLeaf, cX1_layLeaf, 10, none)
set_option maxRecDepth 20000 in
theorem kX1_layLeaf : xCA mX1_layLeaf 3 := ⟨(g_in2 156 rfl rfl), by decide, by decide, by decide +kernel, (g_in1 6 rfl rfl), by decide⟩
abbrev mX0_kind : xM := (RX0, yX0_kind, cX0_kind, 2, (some .int))
set_option maxRecDepth 20000 in
theorem kX0_kind : xCA mX0_kind 1 := ⟨(g_in2 160 rfl rfl), by decide, by decide, by decide +kernel, (g_in1 4 rfl rfl), by decide⟩
abbrev mX0_bottom : xM := (RX0, yX0_bottom, cX0_bottom, 2, (some .int))
set_option maxRecDepth 20000 in
theorem kX0_bottom : xCA mX0_bottom 1 := ⟨(g_in2 164 rfl rfl), by decide, by decide, by decide +kernel, (g_in1 4 rfl rfl), by decide⟩
abbrev mX0_firstRun : xM := (RX0, yX0_firstRun, cX0_firstRun, 2, (some .int))
set_option maxRecDepth 20000 in
theorem kX0_firstRun : xCA mX0_firstRun 1 := ⟨(g_in2 168 rfl rfl), by decide, by decide, by decide +kernel, (g_in1 4 rfl rfl), by decide⟩
abbrev mX0_top : xM := (RX0, yX0_top, cX0_top, 2, (some .int))
set_option maxRecDepth 20000 in
theorem kX0_top : xCA mX0_top 1 := ⟨(g_in2 172 rfl rfl), by decide, by decide, by decide +kernel, (g_in1 4 rfl rfl), by decide⟩
abbrev mX0_lastRun : xM := (RX0, yX0_lastRun, cX0_lastRun, 2, (some .int))
set_option maxRecDepth 20000 in
theorem kX0_lastRun : xCA mX0_lastRun 1 := ⟨(g_in2 176 rfl rfl), by decide, by decide, by decide +kernel, (g_in1 4 rfl rfl), by decide⟩
abbrev mX1_layBits : xM := (RX1, yX1_layBits, cX1_layBits, 8, none)
set_option maxRecDepth 20000 in
theorem kX1_layBits : xCA mX1_layBits 2 := ⟨(g_in2 182 rfl rfl), by decide, by decide, by decide +kernel, (g_in1 6 rfl rfl), by decide⟩
abbrev mX2_rowOfBits : xM := (RX2, yX2_rowOfBits, cX2_rowOfBits, 13, (some .long))
set_option maxRecDepth 20000 in
theorem kX2_rowOfBits : xCA mX2_rowOfBits 3 := ⟨(g_in2 187 rfl rfl), by decide, by decide, by decide +kernel, (g_in1 2 rfl rfl), by decide⟩
abbrev mJ9_min_f86c9 : xM := (RJ9, yJ9_min_f86c9, cJ9_min_f86c9, 4, (some .long))
set_option maxRecDepth 20000 in
theorem kJ9_min_f86c9 : xCA mJ9_min_f86c9 2 := ⟨(g_in2 191 rfl rfl), by decide, by decide, by decide +kernel, (g_in1 9 rfl rfl), by decide⟩
abbrev mX1_layTable : xM := (RX1, yX1_layTable, cX1_layTable, 8, none)
set_option maxRecDepth 20000 in
theorem kX1_layTable : xCA mX1_layTable 3 := ⟨(g_in2 195 rfl rfl), by decide, by decide, by decide +kernel, (g_in1 6 rfl rfl), by decide⟩
abbrev mX1_has : xM := (RX1, yX1_has, cX1_has, 2, (some .boolean))
set_option maxRecDepth 20000 in
theorem kX1_has : xCA mX1_has 1 := ⟨(g_in2 200 rfl rfl), by decide, by decide, by decide +kernel, (g_in1 6 rfl rfl), by decide⟩
abbrev mX1_fill : xM := (RX1, yX1_fill, cX1_fill, 5, none)
set_option maxRecDepth 20000 in
theorem kX1_fill : xCA mX1_fill 3 := ⟨(g_in2 204 rfl rfl), by decide, by decide, by decide +kernel, (g_in1 6 rfl rfl), by decide⟩
abbrev mJ9_max_7cf53 : xM := (RJ9, yJ9_max_7cf53, cJ9_max_7cf53, 2, (some .int))
set_option maxRecDepth 20000 in
theorem kJ9_max_7cf53 : xCA mJ9_max_7cf53 2 := ⟨(g_in2 207 rfl rfl), by decide, by decide, by decide +kernel, (g_in1 9 rfl rfl), by decide⟩
abbrev mX1_aim : xM := (RX1, yX1_aim, cX1_aim, 3, none)
set_option maxRecDepth 20000 in
theorem kX1_aim : xCA mX1_aim 2 := ⟨(g_in2 213 rfl rfl), by decide, by decide, by decide +kernel, (g_in1 6 rfl rfl), by decide⟩
abbrev mX4_split : xM := (RX4, yX4_split, cX4_split, 4, (some .int))
set_option maxRecDepth 20000 in
theorem kX4_split : xCA mX4_split 2 := ⟨(g_in2 217 rfl rfl), by decide, by decide, by decide +kernel, (g_in1 5 rfl rfl), by decide⟩
abbrev mX1_length : xM := (RX1, yX1_length, cX1_length, 1, (some .int))
set_option maxRecDepth 20000 in
theorem kX1_length : xCA mX1_length 0 := ⟨(g_in2 223 rfl rfl), by decide, by decide, by decide +kernel, (g_in1 6 rfl rfl), by decide⟩
abbrev mX1_numbersInTables : xM := (RX1, yX1_numbersInTables, cX1_numbersInTables, 1, (some .int))
set_option maxRecDepth 20000 in
theorem kX1_numbersInTables : xCA mX1_numbersInTables 0 := ⟨(g_in2 227 rfl rfl), by decide, by decide, by decide +kernel, (g_in1 6 rfl rfl), by decide⟩
abbrev mX3_length : xM := (RX3, yX3_length, cX3_length, 1, (some .int))
set_option maxRecDepth 20000 in
theorem kX3_length : xCA mX3_length 0 := ⟨(g_in2 231 rfl rfl), by decide, by decide, by decide +kernel, (g_in1 7 rfl rfl), by decide⟩
abbrev mX5_mostSteps : xM := (RX5, yX5_mostSteps, cX5_mostSteps, 3, (some .int))
set_option maxRecDepth 20000 in
theorem kX5_mostSteps : xCA mX5_mostSteps 0 := ⟨(g_in2 235 rfl rfl), by decide, by decide, by decide +kernel, (g_in1 1 rfl rfl), by decide⟩
abbrev mX5_stepsOf : xM := (RX5, yX5_stepsOf, cX5_stepsOf, 2, (some .int))
set_option maxRecDepth 20000 in
theorem kX5_stepsOf : xCA mX5_stepsOf 1 := ⟨(g_in3 0 rfl rfl), by decide, by decide, by decide +kernel, (g_in1 1 rfl rfl), by decide⟩
abbrev mX1_follow : xM := (RX1, yX1_follow, cX1_follow, 3, none)
set_option maxRecDepth 20000 in
theorem kX1_follow : xCA mX1_follow 1 := ⟨(g_in3 4 rfl rfl), by decide, by decide, by decide +kernel, (g_in1 6 rfl rfl), by decide⟩
abbrev mX1_doLine : xM := (RX1, yX1_doLine, cX1_doLine, 3, (some .int))
set_option maxRecDepth 20000 in
theorem kX1_doLine : xCA mX1_doLine 2 := ⟨(g_in3 8 rfl rfl), by decide, by decide, by decide +kernel, (g_in1 6 rfl rfl), by decide⟩
abbrev mX1_endWith : xM := (RX1, yX1_endWith, cX1_endWith, 2, (some .int))
set_option maxRecDepth 20000 in
theorem kX1_endWith : xCA mX1_endWith 1 := ⟨(g_in3 12 rfl rfl), by decide, by decide, by decide +kernel, (g_in1 6 rfl rfl), by decide⟩
abbrev mX1_hasBit : xM := (RX1, yX1_hasBit, cX1_hasBit, 4, (some .boolean))
set_option maxRecDepth 20000 in
theorem kX1_hasBit : xCA mX1_hasBit 2 := ⟨(g_in3 16 rfl rfl), by decide, by decide, by decide +kernel, (g_in1 6 rfl rfl), by decide⟩
abbrev mX1_row : xM := (RX1, yX1_row, cX1_row, 2, (some .long))
set_option maxRecDepth 20000 in
theorem kX1_row : xCA mX1_row 1 := ⟨(g_in3 21 rfl rfl), by decide, by decide, by decide +kernel, (g_in1 6 rfl rfl), by decide⟩
abbrev mX1_number : xM := (RX1, yX1_number, cX1_number, 6, (some .int))
set_option maxRecDepth 20000 in
theorem kX1_number : xCA mX1_number 2 := ⟨(g_in3 25 rfl rfl), by decide, by decide, by decide +kernel, (g_in1 6 rfl rfl), by decide⟩
abbrev mX1_linesDone : xM := (RX1, yX1_linesDone, cX1_linesDone, 1, (some .int))
set_option maxRecDepth 20000 in
theorem kX1_linesDone : xCA mX1_linesDone 0 := ⟨(g_in3 30 rfl rfl), by decide, by decide, by decide +kernel, (g_in1 6 rfl rfl), by decide⟩
abbrev mX5_run : xM := (RX5, yX5_run, cX5_run, 3, (some .int))
set_option maxRecDepth 20000 in
theorem kX5_run : xCA mX5_run 2 := ⟨(g_in3 37 rfl rfl), by decide, by decide, by decide +kernel, (g_in1 1 rfl rfl), by decide⟩
abbrev mX5_cluster : xM := (RX5, yX5_cluster, cX5_cluster, 3, (some .int))
set_option maxRecDepth 20000 in
theorem kX5_cluster : xCA mX5_cluster 2 := ⟨(g_in3 41 rfl rfl), by decide, by decide, by decide +kernel, (g_in1 1 rfl rfl), by decide⟩
abbrev mX0_has : xM := (RX0, yX0_has, cX0_has, 2, (some .boolean))
set_option maxRecDepth 20000 in
theorem kX0_has : xCA mX0_has 1 := ⟨(g_in3 45 rfl rfl), by decide, by decide, by decide +kernel, (g_in1 4 rfl rfl), by decide⟩
abbrev mX0_runsOf : xM := (RX0, yX0_runsOf, cX0_runsOf, 2, (some .int))
set_option maxRecDepth 20000 in
theorem kX0_runsOf : xCA mX0_runsOf 1 := ⟨(g_in3 51 rfl rfl), by decide, by decide, by decide +kernel, (g_in1 4 rfl rfl), by decide⟩
abbrev mX4_questionsAbove : xM := (RX4, yX4_questionsAbove, cX4_questionsAbove, 6, (some .int))
set_option maxRecDepth 20000 in
theorem kX4_questionsAbove : xCA mX4_questionsAbove 1 := ⟨(g_in3 56 rfl rfl), by decide, by decide, by decide +kernel, (g_in1 5 rfl rfl), by decide⟩
abbrev mX5_cost : xM := (RX5, yX5_cost, cX5_cost, 3, (some .int))
set_option maxRecDepth 20000 in
theorem kX5_cost : xCA mX5_cost 0 := ⟨(g_in3 61 rfl rfl), by decide, by decide, by decide +kernel, (g_in1 1 rfl rfl), by decide⟩
abbrev mX5_line : xM := (RX5, yX5_line, cX5_line, 3, (some .int))
set_option maxRecDepth 20000 in
theorem kX5_line : xCA mX5_line 2 := ⟨(g_in3 65 rfl rfl), by decide, by decide, by decide +kernel, (g_in1 1 rfl rfl), by decide⟩
abbrev mX1_kind : xM := (RX1, yX1_kind, cX1_kind, 2, (some .int))
set_option maxRecDepth 20000 in
theorem kX1_kind : xCA mX1_kind 1 := ⟨(g_in3 70 rfl rfl), by decide, by decide, by decide +kernel, (g_in1 6 rfl rfl), by decide⟩
abbrev mX1_first : xM := (RX1, yX1_first, cX1_first, 2, (some .int))
set_option maxRecDepth 20000 in
theorem kX1_first : xCA mX1_first 1 := ⟨(g_in3 74 rfl rfl), by decide, by decide, by decide +kernel, (g_in1 6 rfl rfl), by decide⟩
abbrev mX1_second : xM := (RX1, yX1_second, cX1_second, 2, (some .int))
set_option maxRecDepth 20000 in
theorem kX1_second : xCA mX1_second 1 := ⟨(g_in3 78 rfl rfl), by decide, by decide, by decide +kernel, (g_in1 6 rfl rfl), by decide⟩
abbrev mX5_bits : xM := (RX5, yX5_bits, cX5_bits, 2, (some .long))
set_option maxRecDepth 20000 in
theorem kX5_bits : xCA mX5_bits 1 := ⟨(g_in3 82 rfl rfl), by decide, by decide, by decide +kernel, (g_in1 1 rfl rfl), by decide⟩
abbrev mX5_entry : xM := (RX5, yX5_entry, cX5_entry, 3, (some .int))
set_option maxRecDepth 20000 in
theorem kX5_entry : xCA mX5_entry 2 := ⟨(g_in3 88 rfl rfl), by decide, by decide, by decide +kernel, (g_in1 1 rfl rfl), by decide⟩
abbrev mX5_go : xM := (RX5, yX5_go, cX5_go, 2, (some .int))
set_option maxRecDepth 20000 in
theorem kX5_go : xCA mX5_go 1 := ⟨(g_in3 93 rfl rfl), by decide, by decide, by decide +kernel, (g_in1 1 rfl rfl), by decide⟩
abbrev mX1_target : xM := (RX1, yX1_target, cX1_target, 1, (some .int))
set_option maxRecDepth 20000 in
theorem kX1_target : xCA mX1_target 0 := ⟨(g_in3 97 rfl rfl), by decide, by decide, by decide +kernel, (g_in1 6 rfl rfl), by decide⟩
abbrev mX5_steps : xM := (RX5, yX5_steps, cX5_steps, 2, (some .int))
set_option maxRecDepth 20000 in
theorem kX5_steps : xCA mX5_steps 1 := ⟨(g_in3 101 rfl rfl), by decide, by decide, by decide +kernel, (g_in1 1 rfl rfl), by decide⟩
abbrev mX5_by : xM := (RX5, yX5_by, cX5_by, 3, (some .int))
set_option maxRecDepth 20000 in
theorem kX5_by : xCA mX5_by 1 := ⟨(g_in3 105 rfl rfl), by decide, by decide, by decide +kernel, (g_in1 1 rfl rfl), by decide⟩
abbrev mX5_spent : xM := (RX5, yX5_spent, cX5_spent, 5, (some .long))
set_option maxRecDepth 20000 in
theorem kX5_spent : xCA mX5_spent 0 := ⟨(g_in3 110 rfl rfl), by decide, by decide, by decide +kernel, (g_in1 1 rfl rfl), by decide⟩
abbrev mX5_leastInNoCase : xM := (RX5, yX5_leastInNoCase, cX5_leastInNoCase, 5, (some .long))
set_option maxRecDepth 20000 in
theorem kX5_leastInNoCase : xCA mX5_leastInNoCase 0 := ⟨(g_in3 115 rfl rfl), by decide, by decide, by decide +kernel, (g_in1 1 rfl rfl), by decide⟩
abbrev mX5_print : xM := (RX5, yX5_print, cX5_print, 1, (some .int))
set_option maxRecDepth 20000 in
theorem kX5_print : xCA mX5_print 0 := ⟨(g_in3 121 rfl rfl), by decide, by decide, by decide +kernel, (g_in1 1 rfl rfl), by decide⟩
abbrev mX3_clear : xM := (RX3, yX3_clear, cX3_clear, 1, none)
set_option maxRecDepth 20000 in
theorem kX3_clear : xCA mX3_clear 0 := ⟨(g_in3 125 rfl rfl), by decide, by decide, by decide +kernel, (g_in1 7 rfl rfl), by decide⟩
abbrev mX1_printTo : xM := (RX1, yX1_printTo, cX1_printTo, 3, none)
set_option maxRecDepth 20000 in
theorem kX1_printTo : xCA mX1_printTo 1 := ⟨(g_in3 129 rfl rfl), by decide, by decide, by decide +kernel, (g_in1 6 rfl rfl), by decide⟩
abbrev mX1_printLine : xM := (RX1, yX1_printLine, cX1_printLine, 6, none)
set_option maxRecDepth 20000 in
theorem kX1_printLine : xCA mX1_printLine 2 := ⟨(g_in3 133 rfl rfl), by decide, by decide, by decide +kernel, (g_in1 6 rfl rfl), by decide⟩
abbrev mX3_number : xM := (RX3, yX3_number, cX3_number, 8, none)
set_option maxRecDepth 20000 in
theorem kX3_number : xCA mX3_number 1 := ⟨(g_in3 138 rfl rfl), by decide, by decide, by decide +kernel, (g_in1 7 rfl rfl), by decide⟩
abbrev mX3_put : xM := (RX3, yX3_put, cX3_put, 2, none)
set_option maxRecDepth 20000 in
theorem kX3_put : xCA mX3_put 1 := ⟨(g_in3 142 rfl rfl), by decide, by decide, by decide +kernel, (g_in1 7 rfl rfl), by decide⟩
abbrev mJ7_copyOf_9075b : xM := (RJ7, yJ7_copyOf_9075b, cJ7_copyOf_9075b, 3, (some (.array .byte)))
set_option maxRecDepth 20000 in
theorem kJ7_copyOf_9075b : xCA mJ7_copyOf_9075b 2 := ⟨(g_in3 146 rfl rfl), by decide, by decide, by decide +kernel, (g_in1 3 rfl rfl), by decide⟩
abbrev mX1_wordOf : xM := (RX1, yX1_wordOf, cX1_wordOf, 1, (some (.object "java/lang/String")))
set_option maxRecDepth 20000 in
theorem kX1_wordOf : xCA mX1_wordOf 1 := ⟨(g_in3 162 rfl rfl), by decide, by decide, by decide +kernel, (g_in1 6 rfl rfl), by decide⟩
abbrev mX3_word : xM := (RX3, yX3_word, cX3_word, 3, none)
set_option maxRecDepth 20000 in
theorem kX3_word : xCA mX3_word 1 := ⟨(g_in3 172 rfl rfl), by decide, by decide, by decide +kernel, (g_in1 7 rfl rfl), by decide⟩
abbrev mJ0_length_8abf5 : xM := (RJ0, yJ0_length_8abf5, cJ0_length_8abf5, 1, (some .int))
set_option maxRecDepth 20000 in
theorem kJ0_length_8abf5 : xCA mJ0_length_8abf5 0 := ⟨(g_in3 176 rfl rfl), by decide, by decide, by decide +kernel, (g_in1 12 rfl rfl), by decide⟩
abbrev mJ0_coder_7d493 : xM := (RJ0, yJ0_coder_7d493, cJ0_coder_7d493, 1, (some .byte))
set_option maxRecDepth 20000 in
theorem kJ0_coder_7d493 : xCA mJ0_coder_7d493 0 := ⟨(g_in3 180 rfl rfl), by decide, by decide, by decide +kernel, (g_in1 12 rfl rfl), by decide⟩
abbrev mJ0_charAt_5068e : xM := (RJ0, yJ0_charAt_5068e, cJ0_charAt_5068e, 2, (some .char))
set_option maxRecDepth 20000 in
theorem kJ0_charAt_5068e : xCA mJ0_charAt_5068e 1 := ⟨(g_in3 186 rfl rfl), by decide, by decide, by decide +kernel, (g_in1 12 rfl rfl), by decide⟩
abbrev mJ0_isLatin1_aae02 : xM := (RJ0, yJ0_isLatin1_aae02, cJ0_isLatin1_aae02, 1, (some .boolean))
set_option maxRecDepth 20000 in
theorem kJ0_isLatin1_aae02 : xCA mJ0_isLatin1_aae02 0 := ⟨(g_in3 190 rfl rfl), by decide, by decide, by decide +kernel, (g_in1 12 rfl rfl), by decide⟩
abbrev mJ1_charAt_3b067 : xM := (RJ1, yJ1_charAt_3b067, cJ1_charAt_3b067, 2, (some .char))
set_option maxRecDepth 20000 in
theorem kJ1_charAt_3b067 : xCA mJ1_charAt_3b067 2 := ⟨(g_in3 193 rfl rfl), by decide, by decide, by decide +kernel, (g_in1 13 rfl rfl), by decide⟩
abbrev mJ0_checkIndex_df160 : xM := (RJ0, yJ0_checkIndex_df160, cJ0_checkIndex_df160, 2, none)
set_option maxRecDepth 20000 in
theorem kJ0_checkIndex_df160 : xCA mJ0_checkIndex_df160 2 := ⟨(g_in3 196 rfl rfl), by decide, by decide, by decide +kernel, (g_in1 12 rfl rfl), by decide⟩
abbrev mJ3_checkIndex_8e157 : xM := (RJ3, yJ3_checkIndex_8e157, cJ3_checkIndex_8e157, 3, (some .int))
set_option maxRecDepth 20000 in
theorem kJ3_checkIndex_8e157 : xCA mJ3_checkIndex_8e157 3 := ⟨(g_in3 201 rfl rfl), by decide, by decide, by decide +kernel, (g_in1 14 rfl rfl), by decide⟩
abbrev mJ2_charAt_3b067 : xM := (RJ2, yJ2_charAt_3b067, cJ2_charAt_3b067, 2, (some .char))
set_option maxRecDepth 20000 in
theorem kJ2_charAt_3b067 : xCA mJ2_charAt_3b067 2 := ⟨(g_in3 204 rfl rfl), by decide, by decide, by decide +kernel, (g_in1 15 rfl rfl), by decide⟩
abbrev mJ2_checkIndex_2214a : xM := (RJ2, yJ2_checkIndex_2214a, cJ2_checkIndex_2214a, 2, none)
set_option maxRecDepth 20000 in
theorem kJ2_checkIndex_2214a : xCA mJ2_checkIndex_2214a 2 := ⟨(g_in3 207 rfl rfl), by decide, by decide, by decide +kernel, (g_in1 15 rfl rfl), by decide⟩
abbrev mJ2_length_9d52b : xM := (RJ2, yJ2_length_9d52b, cJ2_length_9d52b, 1, (some .int))
set_option maxRecDepth 20000 in
theorem kJ2_length_9d52b : xCA mJ2_length_9d52b 1 := ⟨(g_in3 210 rfl rfl), by decide, by decide, by decide +kernel, (g_in1 15 rfl rfl), by decide⟩
abbrev mJ2_getChar_3b067 : xM := (RJ2, yJ2_getChar_3b067, cJ2_getChar_3b067, 2, (some .char))
set_option maxRecDepth 20000 in
theorem kJ2_getChar_3b067 : xCA mJ2_getChar_3b067 2 := ⟨(g_in3 214 rfl rfl), by decide, by decide, by decide +kernel, (g_in1 15 rfl rfl), by decide⟩
abbrev mX3_figures : xM := (RX3, yX3_figures, cX3_figures, 5, none)
set_option maxRecDepth 20000 in
theorem kX3_figures : xCA mX3_figures 1 := ⟨(g_in3 226 rfl rfl), by decide, by decide, by decide +kernel, (g_in1 7 rfl rfl), by decide⟩
abbrev mX5_out : xM := (RX5, yX5_out, cX5_out, 2, (some .int))
set_option maxRecDepth 20000 in
theorem kX5_out : xCA mX5_out 1 := ⟨(g_in3 233 rfl rfl), by decide, by decide, by decide +kernel, (g_in1 1 rfl rfl), by decide⟩
abbrev mX3_byteAt : xM := (RX3, yX3_byteAt, cX3_byteAt, 2, (some .int))
set_option maxRecDepth 20000 in
theorem kX3_byteAt : xCA mX3_byteAt 1 := ⟨(g_in3 237 rfl rfl), by decide, by decide, by decide +kernel, (g_in1 7 rfl rfl), by decide⟩
abbrev mX6_init : xM := (RX6, yX6_init, cX6_init, 1, none)
set_option maxRecDepth 20000 in
theorem kX6_init : xCA mX6_init 0 := ⟨(g_in4 2 rfl rfl), by decide, by decide, by decide +kernel, (g_in1 8 rfl rfl), by decide⟩
abbrev mX6_add : xM := (RX6, yX6_add, cX6_add, 6, (some .int))
set_option maxRecDepth 20000 in
theorem kX6_add : xCA mX6_add 4 := ⟨(g_in4 133 rfl rfl), by decide, by decide, by decide +kernel, (g_in1 8 rfl rfl), by decide⟩
abbrev mX6_in : xM := (RX6, yX6_in, cX6_in, 6, (some .boolean))
set_option maxRecDepth 20000 in
theorem kX6_in : xCA mX6_in 3 := ⟨(g_in4 137 rfl rfl), by decide, by decide, by decide +kernel, (g_in1 8 rfl rfl), by decide⟩
abbrev mX6_clash : xM := (RX6, yX6_clash, cX6_clash, 1, (some .int))
set_option maxRecDepth 20000 in
theorem kX6_clash : xCA mX6_clash 0 := ⟨(g_in4 142 rfl rfl), by decide, by decide, by decide +kernel, (g_in1 8 rfl rfl), by decide⟩
abbrev mX6_drop : xM := (RX6, yX6_drop, cX6_drop, 2, (some .int))
set_option maxRecDepth 20000 in
theorem kX6_drop : xCA mX6_drop 1 := ⟨(g_in4 146 rfl rfl), by decide, by decide, by decide +kernel, (g_in1 8 rfl rfl), by decide⟩
abbrev mX6_noCase : xM := (RX6, yX6_noCase, cX6_noCase, 2, (some .boolean))
set_option maxRecDepth 20000 in
theorem kX6_noCase : xCA mX6_noCase 1 := ⟨(g_in4 150 rfl rfl), by decide, by decide, by decide +kernel, (g_in1 8 rfl rfl), by decide⟩
abbrev mX6_rest : xM := (RX6, yX6_rest, cX6_rest, 4, (some .int))
set_option maxRecDepth 20000 in
theorem kX6_rest : xCA mX6_rest 2 := ⟨(g_in4 155 rfl rfl), by decide, by decide, by decide +kernel, (g_in1 8 rfl rfl), by decide⟩
abbrev mX6_tables : xM := (RX6, yX6_tables, cX6_tables, 4, (some .int))
set_option maxRecDepth 20000 in
theorem kX6_tables : xCA mX6_tables 2 := ⟨(g_in4 159 rfl rfl), by decide, by decide, by decide +kernel, (g_in1 8 rfl rfl), by decide⟩
abbrev mX6_way : xM := (RX6, yX6_way, cX6_way, 3, (some .int))
set_option maxRecDepth 20000 in
theorem kX6_way : xCA mX6_way 1 := ⟨(g_in4 165 rfl rfl), by decide, by decide, by decide +kernel, (g_in1 8 rfl rfl), by decide⟩
abbrev mX6_told : xM := (RX6, yX6_told, cX6_told, 3, (some .int))
set_option maxRecDepth 20000 in
theorem kX6_told : xCA mX6_told 2 := ⟨(g_in4 169 rfl rfl), by decide, by decide, by decide +kernel, (g_in1 8 rfl rfl), by decide⟩
abbrev mX6_go : xM := (RX6, yX6_go, cX6_go, 2, (some .int))
set_option maxRecDepth 20000 in
theorem kX6_go : xCA mX6_go 1 := ⟨(g_in4 173 rfl rfl), by decide, by decide, by decide +kernel, (g_in1 8 rfl rfl), by decide⟩
abbrev mX6_make : xM := (RX6, yX6_make, cX6_make, 9, none)
set_option maxRecDepth 20000 in
theorem kX6_make : xCA mX6_make 0 := ⟨(g_in4 177 rfl rfl), by decide, by decide, by decide +kernel, (g_in1 8 rfl rfl), by decide⟩
abbrev mX6_makeRuns : xM := (RX6, yX6_makeRuns, cX6_makeRuns, 7, none)
set_option maxRecDepth 20000 in
theorem kX6_makeRuns : xCA mX6_makeRuns 0 := ⟨(g_in4 181 rfl rfl), by decide, by decide, by decide +kernel, (g_in1 8 rfl rfl), by decide⟩
abbrev mX6_makeClusters : xM := (RX6, yX6_makeClusters, cX6_makeClusters, 3, none)
set_option maxRecDepth 20000 in
theorem kX6_makeClusters : xCA mX6_makeClusters 0 := ⟨(g_in4 186 rfl rfl), by decide, by decide, by decide +kernel, (g_in1 8 rfl rfl), by decide⟩
abbrev mX6_kindOf : xM := (RX6, yX6_kindOf, cX6_kindOf, 11, (some .int))
set_option maxRecDepth 20000 in
theorem kX6_kindOf : xCA mX6_kindOf 2 := ⟨(g_in4 190 rfl rfl), by decide, by decide, by decide +kernel, (g_in1 8 rfl rfl), by decide⟩
abbrev mX6_makeTree : xM := (RX6, yX6_makeTree, cX6_makeTree, 11, none)
set_option maxRecDepth 20000 in
theorem kX6_makeTree : xCA mX6_makeTree 0 := ⟨(g_in4 195 rfl rfl), by decide, by decide, by decide +kernel, (g_in1 8 rfl rfl), by decide⟩
abbrev mX6_weightOf : xM := (RX6, yX6_weightOf, cX6_weightOf, 5, (some .long))
set_option maxRecDepth 20000 in
theorem kX6_weightOf : xCA mX6_weightOf 1 := ⟨(g_in4 199 rfl rfl), by decide, by decide, by decide +kernel, (g_in1 8 rfl rfl), by decide⟩
abbrev mX6_emit : xM := (RX6, yX6_emit, cX6_emit, 5, none)
set_option maxRecDepth 20000 in
theorem kX6_emit : xCA mX6_emit 4 := ⟨(g_in4 204 rfl rfl), by decide, by decide, by decide +kernel, (g_in1 8 rfl rfl), by decide⟩
abbrev mX6_part : xM := (RX6, yX6_part, cX6_part, 9, none)
set_option maxRecDepth 20000 in
theorem kX6_part : xCA mX6_part 6 := ⟨(g_in4 209 rfl rfl), by decide, by decide, by decide +kernel, (g_in1 8 rfl rfl), by decide⟩
abbrev mX6_leaf : xM := (RX6, yX6_leaf, cX6_leaf, 10, none)
set_option maxRecDepth 20000 in
theorem kX6_leaf : xCA mX6_leaf 3 := ⟨(g_in4 213 rfl rfl), by decide, by decide, by decide +kernel, (g_in1 8 rfl rfl), by decide⟩
abbrev mX6_bottom : xM := (RX6, yX6_bottom, cX6_bottom, 2, (some .int))
set_option maxRecDepth 20000 in
theorem kX6_bottom : xCA mX6_bottom 1 := ⟨(g_in4 217 rfl rfl), by decide, by decide, by decide +kernel, (g_in1 8 rfl rfl), by decide⟩
abbrev mX6_top : xM := (RX6, yX6_top, cX6_top, 2, (some .int))
set_option maxRecDepth 20000 in
theorem kX6_top : xCA mX6_top 1 := ⟨(g_in4 221 rfl rfl), by decide, by decide, by decide +kernel, (g_in1 8 rfl rfl), by decide⟩
abbrev mX6_ends : xM := (RX6, yX6_ends, cX6_ends, 7, (some .int))
set_option maxRecDepth 20000 in
theorem kX6_ends : xCA mX6_ends 3 := ⟨(g_in4 225 rfl rfl), by decide, by decide, by decide +kernel, (g_in1 8 rfl rfl), by decide⟩
abbrev mX6_layBits : xM := (RX6, yX6_layBits, cX6_layBits, 10, none)
set_option maxRecDepth 20000 in
theorem kX6_layBits : xCA mX6_layBits 3 := ⟨(g_in4 229 rfl rfl), by decide, by decide, by decide +kernel, (g_in1 8 rfl rfl), by decide⟩
abbrev mX6_runOn : xM := (RX6, yX6_runOn, cX6_runOn, 4, (some .int))
set_option maxRecDepth 20000 in
theorem kX6_runOn : xCA mX6_runOn 1 := ⟨(g_in4 233 rfl rfl), by decide, by decide, by decide +kernel, (g_in1 8 rfl rfl), by decide⟩
abbrev mX6_within : xM := (RX6, yX6_within, cX6_within, 5, (some .int))
set_option maxRecDepth 20000 in
theorem kX6_within : xCA mX6_within 2 := ⟨(g_in4 237 rfl rfl), by decide, by decide, by decide +kernel, (g_in1 8 rfl rfl), by decide⟩
abbrev mX6_steps : xM := (RX6, yX6_steps, cX6_steps, 2, (some .int))
set_option maxRecDepth 20000 in
theorem kX6_steps : xCA mX6_steps 1 := ⟨(g_in5 1 rfl rfl), by decide, by decide, by decide +kernel, (g_in1 8 rfl rfl), by decide⟩
abbrev mX6_stepsOf : xM := (RX6, yX6_stepsOf, cX6_stepsOf, 4, (some .int))
set_option maxRecDepth 20000 in
theorem kX6_stepsOf : xCA mX6_stepsOf 1 := ⟨(g_in5 5 rfl rfl), by decide, by decide, by decide +kernel, (g_in1 8 rfl rfl), by decide⟩
abbrev mX6_by : xM := (RX6, yX6_by, cX6_by, 3, (some .int))
set_option maxRecDepth 20000 in
theorem kX6_by : xCA mX6_by 1 := ⟨(g_in5 9 rfl rfl), by decide, by decide, by decide +kernel, (g_in1 8 rfl rfl), by decide⟩
abbrev mX6_caseOf : xM := (RX6, yX6_caseOf, cX6_caseOf, 5, (some .int))
set_option maxRecDepth 20000 in
theorem kX6_caseOf : xCA mX6_caseOf 1 := ⟨(g_in5 13 rfl rfl), by decide, by decide, by decide +kernel, (g_in1 8 rfl rfl), by decide⟩
abbrev mX6_spent : xM := (RX6, yX6_spent, cX6_spent, 6, (some .long))
set_option maxRecDepth 20000 in
theorem kX6_spent : xCA mX6_spent 0 := ⟨(g_in5 17 rfl rfl), by decide, by decide, by decide +kernel, (g_in1 8 rfl rfl), by decide⟩
abbrev mX6_count : xM := (RX6, yX6_count, cX6_count, 2, (some .int))
set_option maxRecDepth 20000 in
theorem kX6_count : xCA mX6_count 1 := ⟨(g_in5 21 rfl rfl), by decide, by decide, by decide +kernel, (g_in1 8 rfl rfl), by decide⟩
abbrev mX6_numbers : xM := (RX6, yX6_numbers, cX6_numbers, 3, (some .int))
set_option maxRecDepth 20000 in
theorem kX6_numbers : xCA mX6_numbers 0 := ⟨(g_in5 25 rfl rfl), by decide, by decide, by decide +kernel, (g_in1 8 rfl rfl), by decide⟩
abbrev mX6_mostSteps : xM := (RX6, yX6_mostSteps, cX6_mostSteps, 5, (some .int))
set_option maxRecDepth 20000 in
theorem kX6_mostSteps : xCA mX6_mostSteps 0 := ⟨(g_in5 29 rfl rfl), by decide, by decide, by decide +kernel, (g_in1 8 rfl rfl), by decide⟩
abbrev mX6_run : xM := (RX6, yX6_run, cX6_run, 3, (some .int))
set_option maxRecDepth 20000 in
theorem kX6_run : xCA mX6_run 2 := ⟨(g_in5 33 rfl rfl), by decide, by decide, by decide +kernel, (g_in1 8 rfl rfl), by decide⟩
abbrev mX6_cluster : xM := (RX6, yX6_cluster, cX6_cluster, 3, (some .int))
set_option maxRecDepth 20000 in
theorem kX6_cluster : xCA mX6_cluster 2 := ⟨(g_in5 37 rfl rfl), by decide, by decide, by decide +kernel, (g_in1 8 rfl rfl), by decide⟩
abbrev mX6_cost : xM := (RX6, yX6_cost, cX6_cost, 4, (some .int))
set_option maxRecDepth 20000 in
theorem kX6_cost : xCA mX6_cost 0 := ⟨(g_in5 41 rfl rfl), by decide, by decide, by decide +kernel, (g_in1 8 rfl rfl), by decide⟩
abbrev mX6_line : xM := (RX6, yX6_line, cX6_line, 3, (some .int))
set_option maxRecDepth 20000 in
theorem kX6_line : xCA mX6_line 2 := ⟨(g_in5 45 rfl rfl), by decide, by decide, by decide +kernel, (g_in1 8 rfl rfl), by decide⟩
abbrev mX6_noLine : xM := (RX6, yX6_noLine, cX6_noLine, 2, (some .boolean))
set_option maxRecDepth 20000 in
theorem kX6_noLine : xCA mX6_noLine 1 := ⟨(g_in5 49 rfl rfl), by decide, by decide, by decide +kernel, (g_in1 8 rfl rfl), by decide⟩
abbrev mX6_bits : xM := (RX6, yX6_bits, cX6_bits, 2, (some .long))
set_option maxRecDepth 20000 in
theorem kX6_bits : xCA mX6_bits 1 := ⟨(g_in5 53 rfl rfl), by decide, by decide, by decide +kernel, (g_in1 8 rfl rfl), by decide⟩
abbrev mX6_entry : xM := (RX6, yX6_entry, cX6_entry, 3, (some .int))
set_option maxRecDepth 20000 in
theorem kX6_entry : xCA mX6_entry 2 := ⟨(g_in5 58 rfl rfl), by decide, by decide, by decide +kernel, (g_in1 8 rfl rfl), by decide⟩
abbrev mX6_print : xM := (RX6, yX6_print, cX6_print, 2, (some .int))
set_option maxRecDepth 20000 in
theorem kX6_print : xCA mX6_print 0 := ⟨(g_in5 62 rfl rfl), by decide, by decide, by decide +kernel, (g_in1 8 rfl rfl), by decide⟩
abbrev mX6_printLine : xM := (RX6, yX6_printLine, cX6_printLine, 3, none)
set_option maxRecDepth 20000 in
theorem kX6_printLine : xCA mX6_printLine 1 := ⟨(g_in5 66 rfl rfl), by decide, by decide, by decide +kernel, (g_in1 8 rfl rfl), by decide⟩
abbrev mX6_plain : xM := (RX6, yX6_plain, cX6_plain, 5, none)
set_option maxRecDepth 20000 in
theorem kX6_plain : xCA mX6_plain 1 := ⟨(g_in5 70 rfl rfl), by decide, by decide, by decide +kernel, (g_in1 8 rfl rfl), by decide⟩
abbrev mX6_put : xM := (RX6, yX6_put, cX6_put, 2, none)
set_option maxRecDepth 20000 in
theorem kX6_put : xCA mX6_put 1 := ⟨(g_in5 77 rfl rfl), by decide, by decide, by decide +kernel, (g_in1 8 rfl rfl), by decide⟩
abbrev mX6_name : xM := (RX6, yX6_name, cX6_name, 6, none)
set_option maxRecDepth 20000 in
theorem kX6_name : xCA mX6_name 5 := ⟨(g_in5 81 rfl rfl), by decide, by decide, by decide +kernel, (g_in1 8 rfl rfl), by decide⟩
abbrev mX6_number : xM := (RX6, yX6_number, cX6_number, 3, none)
set_option maxRecDepth 20000 in
theorem kX6_number : xCA mX6_number 1 := ⟨(g_in5 85 rfl rfl), by decide, by decide, by decide +kernel, (g_in1 8 rfl rfl), by decide⟩
abbrev mX6_sixteen : xM := (RX6, yX6_sixteen, cX6_sixteen, 5, none)
set_option maxRecDepth 20000 in
theorem kX6_sixteen : xCA mX6_sixteen 1 := ⟨(g_in5 89 rfl rfl), by decide, by decide, by decide +kernel, (g_in1 8 rfl rfl), by decide⟩
abbrev mX6_out : xM := (RX6, yX6_out, cX6_out, 2, (some .int))
set_option maxRecDepth 20000 in
theorem kX6_out : xCA mX6_out 1 := ⟨(g_in5 93 rfl rfl), by decide, by decide, by decide +kernel, (g_in1 8 rfl rfl), by decide⟩
set_option maxRecDepth 20000 in
theorem iL_9 : xCX RL 9 mX5_init 0 := ⟨kX5_init, (g_in1 18 rfl rfl), (g_in1 19 rfl rfl), rfl, rfl⟩
set_option maxRecDepth 20000 in
theorem iX5_11 : xCX RX5 11 mX2_init 0 := ⟨kX2_init, (g_in1 26 rfl rfl), (g_in1 27 rfl rfl), rfl, rfl⟩
set_option maxRecDepth 20000 in
theorem sX2_28 : xCS RX2 28 mJ7_fill_53178 2 := ⟨kJ7_fill_53178, (g_in1 30 rfl rfl), (g_in1 31 rfl rfl)⟩
set_option maxRecDepth 20000 in
theorem iX5_21 : xCX RX5 21 mX0_init 1 := ⟨kX0_init, (g_in1 52 rfl rfl), (g_in1 53 rfl rfl), rfl, rfl⟩
set_option maxRecDepth 20000 in
theorem iX5_30 : xCX RX5 30 mX4_init 1 := ⟨kX4_init, (g_in1 89 rfl rfl), (g_in1 90 rfl rfl), rfl, rfl⟩
set_option maxRecDepth 20000 in
theorem iX5_39 : xCX RX5 39 mX1_init 3 := ⟨kX1_init, (g_in1 108 rfl rfl), (g_in1 109 rfl rfl), rfl, rfl⟩
set_option maxRecDepth 20000 in
theorem nX5_48 : xCY RX5 48 mX3_init 0 := ⟨kX3_init, ⟨rfl, rfl, rfl⟩, (g_in1 159 rfl rfl), rfl, rfl⟩
set_option maxRecDepth 20000 in
theorem vL_13 : xCV RL 13 mX5_add 4 := ⟨kX5_add, (g_in1 210 rfl rfl), (g_in1 211 rfl rfl), (g_in1 212 rfl rfl)⟩
set_option maxRecDepth 20000 in
theorem sX5_76 : xCS RX5 76 mX5_isTarget 1 := ⟨kX5_isTarget, (g_in1 214 rfl rfl), (g_in1 215 rfl rfl)⟩
set_option maxRecDepth 20000 in
theorem sX5_105 : xCS RX5 105 mX5_within 3 := ⟨kX5_within, (g_in1 217 rfl rfl), (g_in1 218 rfl rfl)⟩
set_option maxRecDepth 20000 in
theorem sX5_80 : xCS RX5 80 mX5_isWeight 1 := ⟨kX5_isWeight, (g_in1 220 rfl rfl), (g_in1 221 rfl rfl)⟩
set_option maxRecDepth 20000 in
theorem vX5_83 : xCV RX5 83 mX2_firstMeeting 2 := ⟨kX2_firstMeeting, (g_in1 223 rfl rfl), (g_in1 224 rfl rfl), (g_in1 225 rfl rfl)⟩
set_option maxRecDepth 20000 in
theorem vX5_87 : xCV RX5 87 mX2_firstFree 0 := ⟨kX2_firstFree, (g_in1 227 rfl rfl), (g_in1 228 rfl rfl), (g_in1 229 rfl rfl)⟩
set_option maxRecDepth 20000 in
theorem vX5_91 : xCV RX5 91 mX2_set 5 := ⟨kX2_set, (g_in1 231 rfl rfl), (g_in1 232 rfl rfl), (g_in1 233 rfl rfl)⟩
set_option maxRecDepth 20000 in
theorem vL_18 : xCV RL 18 mX5_clash 0 := ⟨kX5_clash, (g_in1 235 rfl rfl), (g_in1 236 rfl rfl), (g_in1 237 rfl rfl)⟩
set_option maxRecDepth 20000 in
theorem vL_23 : xCV RL 23 mX5_drop 1 := ⟨kX5_drop, (g_in1 239 rfl rfl), (g_in2 0 rfl rfl), (g_in2 1 rfl rfl)⟩
set_option maxRecDepth 20000 in
theorem vX5_95 : xCV RX5 95 mX2_has 1 := ⟨kX2_has, (g_in2 3 rfl rfl), (g_in2 4 rfl rfl), (g_in2 5 rfl rfl)⟩
set_option maxRecDepth 20000 in
theorem vX5_98 : xCV RX5 98 mX2_free 1 := ⟨kX2_free, (g_in2 7 rfl rfl), (g_in2 8 rfl rfl), (g_in2 9 rfl rfl)⟩
set_option maxRecDepth 20000 in
theorem vX2_34 : xCV RX2 34 mX2_has 1 := ⟨kX2_has, (g_in2 11 rfl rfl), (g_in2 4 rfl rfl), (g_in2 5 rfl rfl)⟩
set_option maxRecDepth 20000 in
theorem vX5_102 : xCV RX5 102 mX2_held 0 := ⟨kX2_held, (g_in2 12 rfl rfl), (g_in2 13 rfl rfl), (g_in2 14 rfl rfl)⟩
set_option maxRecDepth 20000 in
theorem vL_28 : xCV RL 28 mX5_rest 2 := ⟨kX5_rest, (g_in2 16 rfl rfl), (g_in2 17 rfl rfl), (g_in2 18 rfl rfl)⟩
set_option maxRecDepth 20000 in
theorem vL_33 : xCV RL 33 mX5_tables 2 := ⟨kX5_tables, (g_in2 20 rfl rfl), (g_in2 21 rfl rfl), (g_in2 22 rfl rfl)⟩
set_option maxRecDepth 20000 in
theorem vL_37 : xCV RL 37 mX5_way 1 := ⟨kX5_way, (g_in2 24 rfl rfl), (g_in2 25 rfl rfl), (g_in2 26 rfl rfl)⟩
set_option maxRecDepth 20000 in
theorem vL_41 : xCV RL 41 mX5_told 2 := ⟨kX5_told, (g_in2 28 rfl rfl), (g_in2 29 rfl rfl), (g_in2 30 rfl rfl)⟩
set_option maxRecDepth 20000 in
theorem vX5_109 : xCV RX5 109 mX2_tell 2 := ⟨kX2_tell, (g_in2 32 rfl rfl), (g_in2 33 rfl rfl), (g_in2 34 rfl rfl)⟩
set_option maxRecDepth 20000 in
theorem vL_45 : xCV RL 45 mX5_count 1 := ⟨kX5_count, (g_in2 36 rfl rfl), (g_in2 37 rfl rfl), (g_in2 38 rfl rfl)⟩
set_option maxRecDepth 20000 in
theorem vX5_112 : xCV RX5 112 mX5_workOut 0 := ⟨kX5_workOut, (g_in2 40 rfl rfl), (g_in2 42 rfl rfl), (g_in 0 (by decide +kernel) rfl)⟩
set_option maxRecDepth 20000 in
theorem vX5_199 : xCV RX5 199 mX2_gather 2 := ⟨kX2_gather, (g_in2 44 rfl rfl), (g_in2 45 rfl rfl), (g_in2 46 rfl rfl)⟩
set_option maxRecDepth 20000 in
theorem vX2_44 : xCV RX2 44 mX2_nextByLow 1 := ⟨kX2_nextByLow, (g_in2 49 rfl rfl), (g_in2 50 rfl rfl), (g_in2 51 rfl rfl)⟩
set_option maxRecDepth 20000 in
theorem vX2_48 : xCV RX2 48 mX2_target 1 := ⟨kX2_target, (g_in2 54 rfl rfl), (g_in2 55 rfl rfl), (g_in2 56 rfl rfl)⟩
set_option maxRecDepth 20000 in
theorem vX2_52 : xCV RX2 52 mX2_low 1 := ⟨kX2_low, (g_in2 58 rfl rfl), (g_in2 59 rfl rfl), (g_in2 60 rfl rfl)⟩
set_option maxRecDepth 20000 in
theorem vX2_55 : xCV RX2 55 mX2_high 1 := ⟨kX2_high, (g_in2 62 rfl rfl), (g_in2 63 rfl rfl), (g_in2 64 rfl rfl)⟩
set_option maxRecDepth 20000 in
theorem vX2_58 : xCV RX2 58 mX2_weight 1 := ⟨kX2_weight, (g_in2 66 rfl rfl), (g_in2 67 rfl rfl), (g_in2 68 rfl rfl)⟩
set_option maxRecDepth 20000 in
theorem vX2_61 : xCV RX2 61 mX2_join 4 := ⟨kX2_join, (g_in2 70 rfl rfl), (g_in2 72 rfl rfl), (g_in 1 (by decide +kernel) rfl)⟩
set_option maxRecDepth 20000 in
theorem vX2_65 : xCV RX2 65 mX2_set 5 := ⟨kX2_set, (g_in2 74 rfl rfl), (g_in1 232 rfl rfl), (g_in1 233 rfl rfl)⟩
set_option maxRecDepth 20000 in
theorem vX5_203 : xCV RX5 203 mX0_part 2 := ⟨kX0_part, (g_in2 75 rfl rfl), (g_in2 76 rfl rfl), (g_in2 77 rfl rfl)⟩
set_option maxRecDepth 20000 in
theorem vX0_59 : xCV RX0 59 mX0_findFewest 0 := ⟨kX0_findFewest, (g_in2 79 rfl rfl), (g_in2 81 rfl rfl), (g_in 2 (by decide +kernel) rfl)⟩
set_option maxRecDepth 20000 in
theorem vX0_62 : xCV RX0 62 mX2_held 0 := ⟨kX2_held, (g_in2 83 rfl rfl), (g_in2 13 rfl rfl), (g_in2 14 rfl rfl)⟩
set_option maxRecDepth 20000 in
theorem sX0_72 : xCS RX0 72 mJ9_min_7cf53 2 := ⟨kJ9_min_7cf53, (g_in2 84 rfl rfl), (g_in2 85 rfl rfl)⟩
set_option maxRecDepth 20000 in
theorem vX0_65 : xCV RX0 65 mX0_kindOf 2 := ⟨kX0_kindOf, (g_in2 87 rfl rfl), (g_in2 89 rfl rfl), (g_in 3 (by decide +kernel) rfl)⟩
set_option maxRecDepth 20000 in
theorem vX0_56 : xCV RX0 56 mX2_high 1 := ⟨kX2_high, (g_in2 91 rfl rfl), (g_in2 63 rfl rfl), (g_in2 64 rfl rfl)⟩
set_option maxRecDepth 20000 in
theorem vX0_51 : xCV RX0 51 mX2_low 1 := ⟨kX2_low, (g_in2 92 rfl rfl), (g_in2 59 rfl rfl), (g_in2 60 rfl rfl)⟩
set_option maxRecDepth 20000 in
theorem vX0_79 : xCV RX0 79 mX2_unlikeTargets 2 := ⟨kX2_unlikeTargets, (g_in2 94 rfl rfl), (g_in2 95 rfl rfl), (g_in2 96 rfl rfl)⟩
set_option maxRecDepth 20000 in
theorem sX2_69 : xCS RX2 69 mJ6_bitCount_0f7a4 1 := ⟨kJ6_bitCount_0f7a4, (g_in2 98 rfl rfl), (g_in2 99 rfl rfl)⟩
set_option maxRecDepth 20000 in
theorem vX0_82 : xCV RX0 82 mX2_intsIn 2 := ⟨kX2_intsIn, (g_in2 104 rfl rfl), (g_in2 105 rfl rfl), (g_in2 106 rfl rfl)⟩
set_option maxRecDepth 20000 in
theorem vX0_69 : xCV RX0 69 mX2_weightOf 2 := ⟨kX2_weightOf, (g_in2 109 rfl rfl), (g_in2 110 rfl rfl), (g_in2 111 rfl rfl)⟩
set_option maxRecDepth 20000 in
theorem vX5_207 : xCV RX5 207 mX4_plan 1 := ⟨kX4_plan, (g_in2 113 rfl rfl), (g_in2 114 rfl rfl), (g_in2 115 rfl rfl)⟩
set_option maxRecDepth 20000 in
theorem vX4_26 : xCV RX4 26 mX0_held 0 := ⟨kX0_held, (g_in2 117 rfl rfl), (g_in2 118 rfl rfl), (g_in2 119 rfl rfl)⟩
set_option maxRecDepth 20000 in
theorem sX4_32 : xCS RX4 32 mJ9_min_7cf53 2 := ⟨kJ9_min_7cf53, (g_in2 121 rfl rfl), (g_in2 85 rfl rfl)⟩
set_option maxRecDepth 20000 in
theorem vX4_38 : xCV RX4 38 mX4_findCheapest 2 := ⟨kX4_findCheapest, (g_in2 122 rfl rfl), (g_in2 124 rfl rfl), (g_in 4 (by decide +kernel) rfl)⟩
set_option maxRecDepth 20000 in
theorem vX4_51 : xCV RX4 51 mX0_weight 1 := ⟨kX0_weight, (g_in2 127 rfl rfl), (g_in2 128 rfl rfl), (g_in2 129 rfl rfl)⟩
set_option maxRecDepth 20000 in
theorem vX4_55 : xCV RX4 55 mX4_costOf 2 := ⟨kX4_costOf, (g_in2 131 rfl rfl), (g_in2 133 rfl rfl), (g_in 5 (by decide +kernel) rfl)⟩
set_option maxRecDepth 20000 in
theorem sX4_42 : xCS RX4 42 mX4_place 2 := ⟨kX4_place, (g_in2 135 rfl rfl), (g_in2 136 rfl rfl)⟩
set_option maxRecDepth 20000 in
theorem vX5_210 : xCV RX5 210 mX1_layOut 1 := ⟨kX1_layOut, (g_in2 138 rfl rfl), (g_in2 139 rfl rfl), (g_in2 140 rfl rfl)⟩
set_option maxRecDepth 20000 in
theorem vX1_65 : xCV RX1 65 mX0_held 0 := ⟨kX0_held, (g_in2 142 rfl rfl), (g_in2 118 rfl rfl), (g_in2 119 rfl rfl)⟩
set_option maxRecDepth 20000 in
theorem vX1_71 : xCV RX1 71 mX1_write 4 := ⟨kX1_write, (g_in2 143 rfl rfl), (g_in2 145 rfl rfl), (g_in 6 (by decide +kernel) rfl)⟩
set_option maxRecDepth 20000 in
theorem vX1_79 : xCV RX1 79 mX1_layPart 5 := ⟨kX1_layPart, (g_in2 149 rfl rfl), (g_in2 151 rfl rfl), (g_in 7 (by decide +kernel) rfl)⟩
set_option maxRecDepth 20000 in
theorem vX1_83 : xCV RX1 83 mX1_layLeaf 3 := ⟨kX1_layLeaf, (g_in2 153 rfl rfl), (g_in2 155 rfl rfl), (g_in 8 (by decide +kernel) rfl)⟩
set_option maxRecDepth 20000 in
theorem vX1_101 : xCV RX1 101 mX0_kind 1 := ⟨kX0_kind, (g_in2 157 rfl rfl), (g_in2 158 rfl rfl), (g_in2 159 rfl rfl)⟩
set_option maxRecDepth 20000 in
theorem vX1_93 : xCV RX1 93 mX0_bottom 1 := ⟨kX0_bottom, (g_in2 161 rfl rfl), (g_in2 162 rfl rfl), (g_in2 163 rfl rfl)⟩
set_option maxRecDepth 20000 in
theorem vX0_48 : xCV RX0 48 mX0_firstRun 1 := ⟨kX0_firstRun, (g_in2 165 rfl rfl), (g_in2 166 rfl rfl), (g_in2 167 rfl rfl)⟩
set_option maxRecDepth 20000 in
theorem vX1_104 : xCV RX1 104 mX0_top 1 := ⟨kX0_top, (g_in2 169 rfl rfl), (g_in2 170 rfl rfl), (g_in2 171 rfl rfl)⟩
set_option maxRecDepth 20000 in
theorem vX0_44 : xCV RX0 44 mX0_lastRun 1 := ⟨kX0_lastRun, (g_in2 173 rfl rfl), (g_in2 174 rfl rfl), (g_in2 175 rfl rfl)⟩
set_option maxRecDepth 20000 in
theorem vX1_107 : xCV RX1 107 mX0_firstRun 1 := ⟨kX0_firstRun, (g_in2 177 rfl rfl), (g_in2 166 rfl rfl), (g_in2 167 rfl rfl)⟩
set_option maxRecDepth 20000 in
theorem vX1_110 : xCV RX1 110 mX2_target 1 := ⟨kX2_target, (g_in2 178 rfl rfl), (g_in2 55 rfl rfl), (g_in2 56 rfl rfl)⟩
set_option maxRecDepth 20000 in
theorem vX1_114 : xCV RX1 114 mX1_layBits 2 := ⟨kX1_layBits, (g_in2 179 rfl rfl), (g_in2 181 rfl rfl), (g_in 9 (by decide +kernel) rfl)⟩
set_option maxRecDepth 20000 in
theorem vX1_120 : xCV RX1 120 mX0_lastRun 1 := ⟨kX0_lastRun, (g_in2 183 rfl rfl), (g_in2 174 rfl rfl), (g_in2 175 rfl rfl)⟩
set_option maxRecDepth 20000 in
theorem vX1_123 : xCV RX1 123 mX2_rowOfBits 3 := ⟨kX2_rowOfBits, (g_in2 184 rfl rfl), (g_in2 185 rfl rfl), (g_in2 186 rfl rfl)⟩
set_option maxRecDepth 20000 in
theorem sX2_76 : xCS RX2 76 mJ9_min_f86c9 2 := ⟨kJ9_min_f86c9, (g_in2 189 rfl rfl), (g_in2 190 rfl rfl)⟩
set_option maxRecDepth 20000 in
theorem vX1_117 : xCV RX1 117 mX1_layTable 3 := ⟨kX1_layTable, (g_in2 192 rfl rfl), (g_in2 194 rfl rfl), (g_in 10 (by decide +kernel) rfl)⟩
set_option maxRecDepth 20000 in
theorem sX1_127 : xCS RX1 127 mJ9_min_f86c9 2 := ⟨kJ9_min_f86c9, (g_in2 196 rfl rfl), (g_in2 190 rfl rfl)⟩
set_option maxRecDepth 20000 in
theorem vX1_59 : xCV RX1 59 mX1_has 1 := ⟨kX1_has, (g_in2 197 rfl rfl), (g_in2 198 rfl rfl), (g_in2 199 rfl rfl)⟩
set_option maxRecDepth 20000 in
theorem vX1_133 : xCV RX1 133 mX1_fill 3 := ⟨kX1_fill, (g_in2 201 rfl rfl), (g_in2 203 rfl rfl), (g_in 11 (by decide +kernel) rfl)⟩
set_option maxRecDepth 20000 in
theorem sX1_142 : xCS RX1 142 mJ9_max_7cf53 2 := ⟨kJ9_max_7cf53, (g_in2 205 rfl rfl), (g_in2 206 rfl rfl)⟩
set_option maxRecDepth 20000 in
theorem vX1_136 : xCV RX1 136 mX2_low 1 := ⟨kX2_low, (g_in2 208 rfl rfl), (g_in2 59 rfl rfl), (g_in2 60 rfl rfl)⟩
set_option maxRecDepth 20000 in
theorem vX1_139 : xCV RX1 139 mX2_high 1 := ⟨kX2_high, (g_in2 209 rfl rfl), (g_in2 63 rfl rfl), (g_in2 64 rfl rfl)⟩
set_option maxRecDepth 20000 in
theorem vX1_97 : xCV RX1 97 mX1_aim 2 := ⟨kX1_aim, (g_in2 210 rfl rfl), (g_in2 212 rfl rfl), (g_in 12 (by decide +kernel) rfl)⟩
set_option maxRecDepth 20000 in
theorem vX1_87 : xCV RX1 87 mX4_split 2 := ⟨kX4_split, (g_in2 214 rfl rfl), (g_in2 215 rfl rfl), (g_in2 216 rfl rfl)⟩
set_option maxRecDepth 20000 in
theorem vX5_115 : xCV RX5 115 mX0_held 0 := ⟨kX0_held, (g_in2 218 rfl rfl), (g_in2 118 rfl rfl), (g_in2 119 rfl rfl)⟩
set_option maxRecDepth 20000 in
theorem sX5_116 : xCS RX5 116 mJ9_max_7cf53 2 := ⟨kJ9_max_7cf53, (g_in2 219 rfl rfl), (g_in2 206 rfl rfl)⟩
set_option maxRecDepth 20000 in
theorem vX5_121 : xCV RX5 121 mX1_length 0 := ⟨kX1_length, (g_in2 220 rfl rfl), (g_in2 221 rfl rfl), (g_in2 222 rfl rfl)⟩
set_option maxRecDepth 20000 in
theorem vX5_124 : xCV RX5 124 mX1_numbersInTables 0 := ⟨kX1_numbersInTables, (g_in2 224 rfl rfl), (g_in2 225 rfl rfl), (g_in2 226 rfl rfl)⟩
set_option maxRecDepth 20000 in
theorem vX5_127 : xCV RX5 127 mX3_length 0 := ⟨kX3_length, (g_in2 228 rfl rfl), (g_in2 229 rfl rfl), (g_in2 230 rfl rfl)⟩
set_option maxRecDepth 20000 in
theorem vX5_128 : xCV RX5 128 mX5_mostSteps 0 := ⟨kX5_mostSteps, (g_in2 232 rfl rfl), (g_in2 234 rfl rfl), (g_in 13 (by decide +kernel) rfl)⟩
set_option maxRecDepth 20000 in
theorem vX5_172 : xCV RX5 172 mX5_stepsOf 1 := ⟨kX5_stepsOf, (g_in2 237 rfl rfl), (g_in2 239 rfl rfl), (g_in 14 (by decide +kernel) rfl)⟩
set_option maxRecDepth 20000 in
theorem vX5_166 : xCV RX5 166 mX1_follow 1 := ⟨kX1_follow, (g_in3 1 rfl rfl), (g_in3 2 rfl rfl), (g_in3 3 rfl rfl)⟩
set_option maxRecDepth 20000 in
theorem vX1_145 : xCV RX1 145 mX1_doLine 2 := ⟨kX1_doLine, (g_in3 5 rfl rfl), (g_in3 7 rfl rfl), (g_in 15 (by decide +kernel) rfl)⟩
set_option maxRecDepth 20000 in
theorem vX1_148 : xCV RX1 148 mX1_endWith 1 := ⟨kX1_endWith, (g_in3 9 rfl rfl), (g_in3 11 rfl rfl), (g_in 16 (by decide +kernel) rfl)⟩
set_option maxRecDepth 20000 in
theorem vX1_151 : xCV RX1 151 mX1_hasBit 2 := ⟨kX1_hasBit, (g_in3 13 rfl rfl), (g_in3 15 rfl rfl), (g_in 17 (by decide +kernel) rfl)⟩
set_option maxRecDepth 20000 in
theorem vX1_161 : xCV RX1 161 mX1_row 1 := ⟨kX1_row, (g_in3 18 rfl rfl), (g_in3 19 rfl rfl), (g_in3 20 rfl rfl)⟩
set_option maxRecDepth 20000 in
theorem vX1_155 : xCV RX1 155 mX1_number 2 := ⟨kX1_number, (g_in3 22 rfl rfl), (g_in3 23 rfl rfl), (g_in3 24 rfl rfl)⟩
set_option maxRecDepth 20000 in
theorem vX5_213 : xCV RX5 213 mX1_linesDone 0 := ⟨kX1_linesDone, (g_in3 27 rfl rfl), (g_in3 28 rfl rfl), (g_in3 29 rfl rfl)⟩
set_option maxRecDepth 20000 in
theorem vX5_178 : xCV RX5 178 mX2_low 1 := ⟨kX2_low, (g_in3 31 rfl rfl), (g_in2 59 rfl rfl), (g_in2 60 rfl rfl)⟩
set_option maxRecDepth 20000 in
theorem vX5_217 : xCV RX5 217 mX2_high 1 := ⟨kX2_high, (g_in3 32 rfl rfl), (g_in2 63 rfl rfl), (g_in2 64 rfl rfl)⟩
set_option maxRecDepth 20000 in
theorem vL_49 : xCV RL 49 mX5_run 2 := ⟨kX5_run, (g_in3 34 rfl rfl), (g_in3 35 rfl rfl), (g_in3 36 rfl rfl)⟩
set_option maxRecDepth 20000 in
theorem vL_53 : xCV RL 53 mX5_cluster 2 := ⟨kX5_cluster, (g_in3 38 rfl rfl), (g_in3 39 rfl rfl), (g_in3 40 rfl rfl)⟩
set_option maxRecDepth 20000 in
theorem vX5_131 : xCV RX5 131 mX0_has 1 := ⟨kX0_has, (g_in3 42 rfl rfl), (g_in3 43 rfl rfl), (g_in3 44 rfl rfl)⟩
set_option maxRecDepth 20000 in
theorem vX5_132 : xCV RX5 132 mX0_kind 1 := ⟨kX0_kind, (g_in3 46 rfl rfl), (g_in2 158 rfl rfl), (g_in2 159 rfl rfl)⟩
set_option maxRecDepth 20000 in
theorem vX5_136 : xCV RX5 136 mX0_firstRun 1 := ⟨kX0_firstRun, (g_in3 47 rfl rfl), (g_in2 166 rfl rfl), (g_in2 167 rfl rfl)⟩
set_option maxRecDepth 20000 in
theorem vX5_139 : xCV RX5 139 mX0_runsOf 1 := ⟨kX0_runsOf, (g_in3 48 rfl rfl), (g_in3 49 rfl rfl), (g_in3 50 rfl rfl)⟩
set_option maxRecDepth 20000 in
theorem vX5_142 : xCV RX5 142 mX0_weight 1 := ⟨kX0_weight, (g_in3 52 rfl rfl), (g_in2 128 rfl rfl), (g_in2 129 rfl rfl)⟩
set_option maxRecDepth 20000 in
theorem vX5_145 : xCV RX5 145 mX4_questionsAbove 1 := ⟨kX4_questionsAbove, (g_in3 53 rfl rfl), (g_in3 54 rfl rfl), (g_in3 55 rfl rfl)⟩
set_option maxRecDepth 20000 in
theorem vX4_45 : xCV RX4 45 mX4_split 2 := ⟨kX4_split, (g_in3 57 rfl rfl), (g_in2 215 rfl rfl), (g_in2 216 rfl rfl)⟩
set_option maxRecDepth 20000 in
theorem vL_57 : xCV RL 57 mX5_cost 0 := ⟨kX5_cost, (g_in3 58 rfl rfl), (g_in3 59 rfl rfl), (g_in3 60 rfl rfl)⟩
set_option maxRecDepth 20000 in
theorem vL_61 : xCV RL 61 mX5_line 2 := ⟨kX5_line, (g_in3 62 rfl rfl), (g_in3 63 rfl rfl), (g_in3 64 rfl rfl)⟩
set_option maxRecDepth 20000 in
theorem vX5_148 : xCV RX5 148 mX1_has 1 := ⟨kX1_has, (g_in3 66 rfl rfl), (g_in2 198 rfl rfl), (g_in2 199 rfl rfl)⟩
set_option maxRecDepth 20000 in
theorem vX5_149 : xCV RX5 149 mX1_kind 1 := ⟨kX1_kind, (g_in3 67 rfl rfl), (g_in3 68 rfl rfl), (g_in3 69 rfl rfl)⟩
set_option maxRecDepth 20000 in
theorem vX5_150 : xCV RX5 150 mX1_first 1 := ⟨kX1_first, (g_in3 71 rfl rfl), (g_in3 72 rfl rfl), (g_in3 73 rfl rfl)⟩
set_option maxRecDepth 20000 in
theorem vX5_153 : xCV RX5 153 mX1_second 1 := ⟨kX1_second, (g_in3 75 rfl rfl), (g_in3 76 rfl rfl), (g_in3 77 rfl rfl)⟩
set_option maxRecDepth 20000 in
theorem vL_65 : xCV RL 65 mX5_bits 1 := ⟨kX5_bits, (g_in3 79 rfl rfl), (g_in3 80 rfl rfl), (g_in3 81 rfl rfl)⟩
set_option maxRecDepth 20000 in
theorem vX5_156 : xCV RX5 156 mX1_row 1 := ⟨kX1_row, (g_in3 83 rfl rfl), (g_in3 19 rfl rfl), (g_in3 20 rfl rfl)⟩
set_option maxRecDepth 20000 in
theorem vL_70 : xCV RL 70 mX5_entry 2 := ⟨kX5_entry, (g_in3 85 rfl rfl), (g_in3 86 rfl rfl), (g_in3 87 rfl rfl)⟩
set_option maxRecDepth 20000 in
theorem vX5_162 : xCV RX5 162 mX1_number 2 := ⟨kX1_number, (g_in3 89 rfl rfl), (g_in3 23 rfl rfl), (g_in3 24 rfl rfl)⟩
set_option maxRecDepth 20000 in
theorem vL_74 : xCV RL 74 mX5_go 1 := ⟨kX5_go, (g_in3 90 rfl rfl), (g_in3 91 rfl rfl), (g_in3 92 rfl rfl)⟩
set_option maxRecDepth 20000 in
theorem vX5_169 : xCV RX5 169 mX1_target 0 := ⟨kX1_target, (g_in3 94 rfl rfl), (g_in3 95 rfl rfl), (g_in3 96 rfl rfl)⟩
set_option maxRecDepth 20000 in
theorem vL_78 : xCV RL 78 mX5_steps 1 := ⟨kX5_steps, (g_in3 98 rfl rfl), (g_in3 99 rfl rfl), (g_in3 100 rfl rfl)⟩
set_option maxRecDepth 20000 in
theorem vL_82 : xCV RL 82 mX5_by 1 := ⟨kX5_by, (g_in3 102 rfl rfl), (g_in3 103 rfl rfl), (g_in3 104 rfl rfl)⟩
set_option maxRecDepth 20000 in
theorem vX5_175 : xCV RX5 175 mX2_target 1 := ⟨kX2_target, (g_in3 106 rfl rfl), (g_in2 55 rfl rfl), (g_in2 56 rfl rfl)⟩
set_option maxRecDepth 20000 in
theorem vL_86 : xCV RL 86 mX5_spent 0 := ⟨kX5_spent, (g_in3 107 rfl rfl), (g_in3 108 rfl rfl), (g_in3 109 rfl rfl)⟩
set_option maxRecDepth 20000 in
theorem vX5_177 : xCV RX5 177 mX2_weight 1 := ⟨kX2_weight, (g_in3 111 rfl rfl), (g_in2 67 rfl rfl), (g_in2 68 rfl rfl)⟩
set_option maxRecDepth 20000 in
theorem vX5_181 : xCV RX5 181 mX5_leastInNoCase 0 := ⟨kX5_leastInNoCase, (g_in3 112 rfl rfl), (g_in3 114 rfl rfl), (g_in 18 (by decide +kernel) rfl)⟩
set_option maxRecDepth 20000 in
theorem vL_91 : xCV RL 91 mX5_print 0 := ⟨kX5_print, (g_in3 118 rfl rfl), (g_in3 119 rfl rfl), (g_in3 120 rfl rfl)⟩
set_option maxRecDepth 20000 in
theorem vX5_189 : xCV RX5 189 mX3_clear 0 := ⟨kX3_clear, (g_in3 122 rfl rfl), (g_in3 123 rfl rfl), (g_in3 124 rfl rfl)⟩
set_option maxRecDepth 20000 in
theorem vX5_192 : xCV RX5 192 mX1_printTo 1 := ⟨kX1_printTo, (g_in3 126 rfl rfl), (g_in3 127 rfl rfl), (g_in3 128 rfl rfl)⟩
set_option maxRecDepth 20000 in
theorem vX1_165 : xCV RX1 165 mX1_printLine 2 := ⟨kX1_printLine, (g_in3 130 rfl rfl), (g_in3 132 rfl rfl), (g_in 19 (by decide +kernel) rfl)⟩
set_option maxRecDepth 20000 in
theorem vX1_169 : xCV RX1 169 mX1_kind 1 := ⟨kX1_kind, (g_in3 134 rfl rfl), (g_in3 68 rfl rfl), (g_in3 69 rfl rfl)⟩
set_option maxRecDepth 20000 in
theorem vX1_170 : xCV RX1 170 mX3_number 1 := ⟨kX3_number, (g_in3 135 rfl rfl), (g_in3 136 rfl rfl), (g_in3 137 rfl rfl)⟩
set_option maxRecDepth 20000 in
theorem vX3_28 : xCV RX3 28 mX3_put 1 := ⟨kX3_put, (g_in3 139 rfl rfl), (g_in3 141 rfl rfl), (g_in 20 (by decide +kernel) rfl)⟩
set_option maxRecDepth 20000 in
theorem sX3_39 : xCS RX3 39 mJ7_copyOf_9075b 2 := ⟨kJ7_copyOf_9075b, (g_in3 144 rfl rfl), (g_in3 145 rfl rfl)⟩
set_option maxRecDepth 20000 in
theorem sJ7_304 : xCS RJ7 304 mJ9_min_7cf53 2 := ⟨kJ9_min_7cf53, (g_in3 154 rfl rfl), (g_in2 85 rfl rfl)⟩
set_option maxRecDepth 20000 in
theorem sX1_175 : xCS RX1 175 mX1_wordOf 1 := ⟨kX1_wordOf, (g_in3 160 rfl rfl), (g_in3 161 rfl rfl)⟩
set_option maxRecDepth 20000 in
theorem vX1_179 : xCV RX1 179 mX3_word 1 := ⟨kX3_word, (g_in3 169 rfl rfl), (g_in3 170 rfl rfl), (g_in3 171 rfl rfl)⟩
set_option maxRecDepth 20000 in
theorem vX3_19 : xCV RX3 19 mJ0_length_8abf5 0 := ⟨kJ0_length_8abf5, (g_in3 173 rfl rfl), (g_in3 174 rfl rfl), (g_in3 175 rfl rfl)⟩
set_option maxRecDepth 20000 in
theorem vJ0_335 : xCV RJ0 335 mJ0_coder_7d493 0 := ⟨kJ0_coder_7d493, (g_in3 177 rfl rfl), (g_in3 178 rfl rfl), (g_in3 179 rfl rfl)⟩
set_option maxRecDepth 20000 in
theorem vX3_24 : xCV RX3 24 mJ0_charAt_5068e 1 := ⟨kJ0_charAt_5068e, (g_in3 183 rfl rfl), (g_in3 184 rfl rfl), (g_in3 185 rfl rfl)⟩
set_option maxRecDepth 20000 in
theorem vJ0_492 : xCV RJ0 492 mJ0_isLatin1_aae02 0 := ⟨kJ0_isLatin1_aae02, (g_in3 187 rfl rfl), (g_in3 188 rfl rfl), (g_in3 189 rfl rfl)⟩
set_option maxRecDepth 20000 in
theorem sJ0_495 : xCS RJ0 495 mJ1_charAt_3b067 2 := ⟨kJ1_charAt_3b067, (g_in3 191 rfl rfl), (g_in3 192 rfl rfl)⟩
set_option maxRecDepth 20000 in
theorem sJ1_9 : xCS RJ1 9 mJ0_checkIndex_df160 2 := ⟨kJ0_checkIndex_df160, (g_in3 194 rfl rfl), (g_in3 195 rfl rfl)⟩
set_option maxRecDepth 20000 in
theorem sJ0_1059 : xCS RJ0 1059 mJ3_checkIndex_8e157 3 := ⟨kJ3_checkIndex_8e157, (g_in3 199 rfl rfl), (g_in3 200 rfl rfl)⟩
set_option maxRecDepth 20000 in
theorem sJ0_498 : xCS RJ0 498 mJ2_charAt_3b067 2 := ⟨kJ2_charAt_3b067, (g_in3 202 rfl rfl), (g_in3 203 rfl rfl)⟩
set_option maxRecDepth 20000 in
theorem sJ2_67 : xCS RJ2 67 mJ2_checkIndex_2214a 2 := ⟨kJ2_checkIndex_2214a, (g_in3 205 rfl rfl), (g_in3 206 rfl rfl)⟩
set_option maxRecDepth 20000 in
theorem sJ2_48 : xCS RJ2 48 mJ2_length_9d52b 1 := ⟨kJ2_length_9d52b, (g_in3 208 rfl rfl), (g_in3 209 rfl rfl)⟩
set_option maxRecDepth 20000 in
theorem sJ2_414 : xCS RJ2 414 mJ0_checkIndex_df160 2 := ⟨kJ0_checkIndex_df160, (g_in3 211 rfl rfl), (g_in3 195 rfl rfl)⟩
set_option maxRecDepth 20000 in
theorem sJ2_71 : xCS RJ2 71 mJ2_getChar_3b067 2 := ⟨kJ2_getChar_3b067, (g_in3 212 rfl rfl), (g_in3 213 rfl rfl)⟩
set_option maxRecDepth 20000 in
theorem vX1_183 : xCV RX1 183 mX1_first 1 := ⟨kX1_first, (g_in3 221 rfl rfl), (g_in3 72 rfl rfl), (g_in3 73 rfl rfl)⟩
set_option maxRecDepth 20000 in
theorem vX1_188 : xCV RX1 188 mX3_figures 1 := ⟨kX3_figures, (g_in3 223 rfl rfl), (g_in3 224 rfl rfl), (g_in3 225 rfl rfl)⟩
set_option maxRecDepth 20000 in
theorem vX1_192 : xCV RX1 192 mX1_second 1 := ⟨kX1_second, (g_in3 228 rfl rfl), (g_in3 76 rfl rfl), (g_in3 77 rfl rfl)⟩
set_option maxRecDepth 20000 in
theorem vL_95 : xCV RL 95 mX5_out 1 := ⟨kX5_out, (g_in3 230 rfl rfl), (g_in3 231 rfl rfl), (g_in3 232 rfl rfl)⟩
set_option maxRecDepth 20000 in
theorem vX5_196 : xCV RX5 196 mX3_byteAt 1 := ⟨kX3_byteAt, (g_in3 234 rfl rfl), (g_in3 235 rfl rfl), (g_in3 236 rfl rfl)⟩
set_option maxRecDepth 20000 in
theorem iL_12 : xCX RL 12 mX6_init 0 := ⟨kX6_init, (g_in4 0 rfl rfl), (g_in4 1 rfl rfl), rfl, rfl⟩
set_option maxRecDepth 20000 in
theorem vL_17 : xCV RL 17 mX6_add 4 := ⟨kX6_add, (g_in4 130 rfl rfl), (g_in4 131 rfl rfl), (g_in4 132 rfl rfl)⟩
set_option maxRecDepth 20000 in
theorem sX6_110 : xCS RX6 110 mX6_in 3 := ⟨kX6_in, (g_in4 135 rfl rfl), (g_in4 136 rfl rfl)⟩
set_option maxRecDepth 20000 in
theorem vL_22 : xCV RL 22 mX6_clash 0 := ⟨kX6_clash, (g_in4 139 rfl rfl), (g_in4 140 rfl rfl), (g_in4 141 rfl rfl)⟩
set_option maxRecDepth 20000 in
theorem vL_27 : xCV RL 27 mX6_drop 1 := ⟨kX6_drop, (g_in4 143 rfl rfl), (g_in4 144 rfl rfl), (g_in4 145 rfl rfl)⟩
set_option maxRecDepth 20000 in
theorem vX6_121 : xCV RX6 121 mX6_noCase 1 := ⟨kX6_noCase, (g_in4 147 rfl rfl), (g_in4 149 rfl rfl), (g_in 21 (by decide +kernel) rfl)⟩
set_option maxRecDepth 20000 in
theorem vL_32 : xCV RL 32 mX6_rest 2 := ⟨kX6_rest, (g_in4 152 rfl rfl), (g_in4 153 rfl rfl), (g_in4 154 rfl rfl)⟩
set_option maxRecDepth 20000 in
theorem vL_36 : xCV RL 36 mX6_tables 2 := ⟨kX6_tables, (g_in4 156 rfl rfl), (g_in4 157 rfl rfl), (g_in4 158 rfl rfl)⟩
set_option maxRecDepth 20000 in
theorem vL_40 : xCV RL 40 mX6_way 1 := ⟨kX6_way, (g_in4 162 rfl rfl), (g_in4 163 rfl rfl), (g_in4 164 rfl rfl)⟩
set_option maxRecDepth 20000 in
theorem vL_44 : xCV RL 44 mX6_told 2 := ⟨kX6_told, (g_in4 166 rfl rfl), (g_in4 167 rfl rfl), (g_in4 168 rfl rfl)⟩
set_option maxRecDepth 20000 in
theorem vL_77 : xCV RL 77 mX6_go 1 := ⟨kX6_go, (g_in4 170 rfl rfl), (g_in4 171 rfl rfl), (g_in4 172 rfl rfl)⟩
set_option maxRecDepth 20000 in
theorem vX6_215 : xCV RX6 215 mX6_make 0 := ⟨kX6_make, (g_in4 174 rfl rfl), (g_in4 176 rfl rfl), (g_in 22 (by decide +kernel) rfl)⟩
set_option maxRecDepth 20000 in
theorem vX6_183 : xCV RX6 183 mX6_makeRuns 0 := ⟨kX6_makeRuns, (g_in4 178 rfl rfl), (g_in4 180 rfl rfl), (g_in 23 (by decide +kernel) rfl)⟩
set_option maxRecDepth 20000 in
theorem vX6_186 : xCV RX6 186 mX6_makeClusters 0 := ⟨kX6_makeClusters, (g_in4 183 rfl rfl), (g_in4 185 rfl rfl), (g_in 24 (by decide +kernel) rfl)⟩
set_option maxRecDepth 20000 in
theorem vX6_145 : xCV RX6 145 mX6_kindOf 2 := ⟨kX6_kindOf, (g_in4 187 rfl rfl), (g_in4 189 rfl rfl), (g_in 25 (by decide +kernel) rfl)⟩
set_option maxRecDepth 20000 in
theorem vX6_189 : xCV RX6 189 mX6_makeTree 0 := ⟨kX6_makeTree, (g_in4 192 rfl rfl), (g_in4 194 rfl rfl), (g_in 26 (by decide +kernel) rfl)⟩
set_option maxRecDepth 20000 in
theorem vX6_152 : xCV RX6 152 mX6_weightOf 1 := ⟨kX6_weightOf, (g_in4 196 rfl rfl), (g_in4 198 rfl rfl), (g_in 27 (by decide +kernel) rfl)⟩
set_option maxRecDepth 20000 in
theorem vX6_168 : xCV RX6 168 mX6_emit 4 := ⟨kX6_emit, (g_in4 201 rfl rfl), (g_in4 203 rfl rfl), (g_in 28 (by decide +kernel) rfl)⟩
set_option maxRecDepth 20000 in
theorem vX6_194 : xCV RX6 194 mX6_part 6 := ⟨kX6_part, (g_in4 206 rfl rfl), (g_in4 208 rfl rfl), (g_in 29 (by decide +kernel) rfl)⟩
set_option maxRecDepth 20000 in
theorem vX6_198 : xCV RX6 198 mX6_leaf 3 := ⟨kX6_leaf, (g_in4 210 rfl rfl), (g_in4 212 rfl rfl), (g_in 30 (by decide +kernel) rfl)⟩
set_option maxRecDepth 20000 in
theorem vX6_164 : xCV RX6 164 mX6_bottom 1 := ⟨kX6_bottom, (g_in4 214 rfl rfl), (g_in4 216 rfl rfl), (g_in 31 (by decide +kernel) rfl)⟩
set_option maxRecDepth 20000 in
theorem vX6_172 : xCV RX6 172 mX6_top 1 := ⟨kX6_top, (g_in4 218 rfl rfl), (g_in4 220 rfl rfl), (g_in 32 (by decide +kernel) rfl)⟩
set_option maxRecDepth 20000 in
theorem vX6_175 : xCV RX6 175 mX6_ends 3 := ⟨kX6_ends, (g_in4 222 rfl rfl), (g_in4 224 rfl rfl), (g_in 33 (by decide +kernel) rfl)⟩
set_option maxRecDepth 20000 in
theorem vX6_179 : xCV RX6 179 mX6_layBits 3 := ⟨kX6_layBits, (g_in4 226 rfl rfl), (g_in4 228 rfl rfl), (g_in 34 (by decide +kernel) rfl)⟩
set_option maxRecDepth 20000 in
theorem vX6_208 : xCV RX6 208 mX6_runOn 1 := ⟨kX6_runOn, (g_in4 230 rfl rfl), (g_in4 232 rfl rfl), (g_in 35 (by decide +kernel) rfl)⟩
set_option maxRecDepth 20000 in
theorem vX6_205 : xCV RX6 205 mX6_within 2 := ⟨kX6_within, (g_in4 234 rfl rfl), (g_in4 236 rfl rfl), (g_in 36 (by decide +kernel) rfl)⟩
set_option maxRecDepth 20000 in
theorem vL_81 : xCV RL 81 mX6_steps 1 := ⟨kX6_steps, (g_in4 238 rfl rfl), (g_in4 239 rfl rfl), (g_in5 0 rfl rfl)⟩
set_option maxRecDepth 20000 in
theorem vX6_211 : xCV RX6 211 mX6_stepsOf 1 := ⟨kX6_stepsOf, (g_in5 2 rfl rfl), (g_in5 4 rfl rfl), (g_in 37 (by decide +kernel) rfl)⟩
set_option maxRecDepth 20000 in
theorem vL_85 : xCV RL 85 mX6_by 1 := ⟨kX6_by, (g_in5 6 rfl rfl), (g_in5 7 rfl rfl), (g_in5 8 rfl rfl)⟩
set_option maxRecDepth 20000 in
theorem vX6_218 : xCV RX6 218 mX6_caseOf 1 := ⟨kX6_caseOf, (g_in5 10 rfl rfl), (g_in5 12 rfl rfl), (g_in 38 (by decide +kernel) rfl)⟩
set_option maxRecDepth 20000 in
theorem vL_90 : xCV RL 90 mX6_spent 0 := ⟨kX6_spent, (g_in5 14 rfl rfl), (g_in5 15 rfl rfl), (g_in5 16 rfl rfl)⟩
set_option maxRecDepth 20000 in
theorem vL_48 : xCV RL 48 mX6_count 1 := ⟨kX6_count, (g_in5 18 rfl rfl), (g_in5 19 rfl rfl), (g_in5 20 rfl rfl)⟩
set_option maxRecDepth 20000 in
theorem vX6_221 : xCV RX6 221 mX6_numbers 0 := ⟨kX6_numbers, (g_in5 22 rfl rfl), (g_in5 24 rfl rfl), (g_in 39 (by decide +kernel) rfl)⟩
set_option maxRecDepth 20000 in
theorem vX6_228 : xCV RX6 228 mX6_mostSteps 0 := ⟨kX6_mostSteps, (g_in5 26 rfl rfl), (g_in5 28 rfl rfl), (g_in 40 (by decide +kernel) rfl)⟩
set_option maxRecDepth 20000 in
theorem vL_52 : xCV RL 52 mX6_run 2 := ⟨kX6_run, (g_in5 30 rfl rfl), (g_in5 31 rfl rfl), (g_in5 32 rfl rfl)⟩
set_option maxRecDepth 20000 in
theorem vL_56 : xCV RL 56 mX6_cluster 2 := ⟨kX6_cluster, (g_in5 34 rfl rfl), (g_in5 35 rfl rfl), (g_in5 36 rfl rfl)⟩
set_option maxRecDepth 20000 in
theorem vL_60 : xCV RL 60 mX6_cost 0 := ⟨kX6_cost, (g_in5 38 rfl rfl), (g_in5 39 rfl rfl), (g_in5 40 rfl rfl)⟩
set_option maxRecDepth 20000 in
theorem vL_64 : xCV RL 64 mX6_line 2 := ⟨kX6_line, (g_in5 42 rfl rfl), (g_in5 43 rfl rfl), (g_in5 44 rfl rfl)⟩
set_option maxRecDepth 20000 in
theorem vX6_231 : xCV RX6 231 mX6_noLine 1 := ⟨kX6_noLine, (g_in5 46 rfl rfl), (g_in5 48 rfl rfl), (g_in 41 (by decide +kernel) rfl)⟩
set_option maxRecDepth 20000 in
theorem vL_69 : xCV RL 69 mX6_bits 1 := ⟨kX6_bits, (g_in5 50 rfl rfl), (g_in5 51 rfl rfl), (g_in5 52 rfl rfl)⟩
set_option maxRecDepth 20000 in
theorem vL_73 : xCV RL 73 mX6_entry 2 := ⟨kX6_entry, (g_in5 55 rfl rfl), (g_in5 56 rfl rfl), (g_in5 57 rfl rfl)⟩
set_option maxRecDepth 20000 in
theorem vL_94 : xCV RL 94 mX6_print 0 := ⟨kX6_print, (g_in5 59 rfl rfl), (g_in5 60 rfl rfl), (g_in5 61 rfl rfl)⟩
set_option maxRecDepth 20000 in
theorem vX6_260 : xCV RX6 260 mX6_printLine 1 := ⟨kX6_printLine, (g_in5 63 rfl rfl), (g_in5 65 rfl rfl), (g_in 42 (by decide +kernel) rfl)⟩
set_option maxRecDepth 20000 in
theorem vX6_240 : xCV RX6 240 mX6_plain 1 := ⟨kX6_plain, (g_in5 67 rfl rfl), (g_in5 69 rfl rfl), (g_in 43 (by decide +kernel) rfl)⟩
set_option maxRecDepth 20000 in
theorem vX6_236 : xCV RX6 236 mX6_put 1 := ⟨kX6_put, (g_in5 74 rfl rfl), (g_in5 76 rfl rfl), (g_in 44 (by decide +kernel) rfl)⟩
set_option maxRecDepth 20000 in
theorem vX6_250 : xCV RX6 250 mX6_name 5 := ⟨kX6_name, (g_in5 78 rfl rfl), (g_in5 80 rfl rfl), (g_in 45 (by decide +kernel) rfl)⟩
set_option maxRecDepth 20000 in
theorem vX6_254 : xCV RX6 254 mX6_number 1 := ⟨kX6_number, (g_in5 82 rfl rfl), (g_in5 84 rfl rfl), (g_in 46 (by decide +kernel) rfl)⟩
set_option maxRecDepth 20000 in
theorem vX6_257 : xCV RX6 257 mX6_sixteen 1 := ⟨kX6_sixteen, (g_in5 86 rfl rfl), (g_in5 88 rfl rfl), (g_in 47 (by decide +kernel) rfl)⟩
set_option maxRecDepth 20000 in
theorem vL_98 : xCV RL 98 mX6_out 1 := ⟨kX6_out, (g_in5 90 rfl rfl), (g_in5 91 rfl rfl), (g_in5 92 rfl rfl)⟩
set_option maxRecDepth 20000 in
theorem clL_7 : Cond.classLink RL 7 RX5 ∈ lw_good ∧ Cond.instantiable RX5 13 ∈ lw_good ∧ Cond.initialized RX5 ∈ lw_good := ⟨(g_in1 16 rfl rfl), (g_in1 17 rfl rfl), (g_in1 1 rfl rfl)⟩
set_option maxRecDepth 20000 in
theorem clX5_9 : Cond.classLink RX5 9 RX2 ∈ lw_good ∧ Cond.instantiable RX2 5 ∈ lw_good ∧ Cond.initialized RX2 ∈ lw_good := ⟨(g_in1 24 rfl rfl), (g_in1 25 rfl rfl), (g_in1 2 rfl rfl)⟩
set_option maxRecDepth 20000 in
theorem ac_int : Cond.arrayClass .int ∈ lw_good := (g_in1 49 rfl rfl)
set_option maxRecDepth 20000 in
theorem clX5_19 : Cond.classLink RX5 19 RX0 ∈ lw_good ∧ Cond.instantiable RX0 10 ∈ lw_good ∧ Cond.initialized RX0 ∈ lw_good := ⟨(g_in1 50 rfl rfl), (g_in1 51 rfl rfl), (g_in1 4 rfl rfl)⟩
set_option maxRecDepth 20000 in
theorem clX5_28 : Cond.classLink RX5 28 RX4 ∈ lw_good ∧ Cond.instantiable RX4 4 ∈ lw_good ∧ Cond.initialized RX4 ∈ lw_good := ⟨(g_in1 87 rfl rfl), (g_in1 88 rfl rfl), (g_in1 5 rfl rfl)⟩
set_option maxRecDepth 20000 in
theorem clX5_37 : Cond.classLink RX5 37 RX1 ∈ lw_good ∧ Cond.instantiable RX1 14 ∈ lw_good ∧ Cond.initialized RX1 ∈ lw_good := ⟨(g_in1 106 rfl rfl), (g_in1 107 rfl rfl), (g_in1 6 rfl rfl)⟩
set_option maxRecDepth 20000 in
theorem ac_long : Cond.arrayClass .long ∈ lw_good := (g_in1 155 rfl rfl)
set_option maxRecDepth 20000 in
theorem clX5_46 : Cond.classLink RX5 46 RX3 ∈ lw_good ∧ Cond.instantiable RX3 2 ∈ lw_good ∧ Cond.initialized RX3 ∈ lw_good := ⟨(g_in1 156 rfl rfl), (g_in1 157 rfl rfl), (g_in1 7 rfl rfl)⟩
set_option maxRecDepth 20000 in
theorem ac_byte : Cond.arrayClass .byte ∈ lw_good := (g_in1 169 rfl rfl)
set_option maxRecDepth 20000 in
theorem cX2_42 : Cond.constantLong RX2 42 (-9223372036854775808) ∈ lw_good := (g_in2 48 rfl rfl)
set_option maxRecDepth 20000 in
theorem cX2_40 : Cond.constantLong RX2 40 (9223372036854775807) ∈ lw_good := (g_in2 53 rfl rfl)
set_option maxRecDepth 20000 in
theorem cX0_77 : Cond.constantLong RX0 77 (64) ∈ lw_good := (g_in2 93 rfl rfl)
set_option maxRecDepth 20000 in
theorem cJ6_265 : Cond.constant RJ6 265 (1431655765) ∈ lw_good := (g_in2 101 rfl rfl)
set_option maxRecDepth 20000 in
theorem cJ6_266 : Cond.constant RJ6 266 (858993459) ∈ lw_good := (g_in2 102 rfl rfl)
set_option maxRecDepth 20000 in
theorem cJ6_267 : Cond.constant RJ6 267 (252645135) ∈ lw_good := (g_in2 103 rfl rfl)
set_option maxRecDepth 20000 in
theorem cX0_86 : Cond.constantLong RX0 86 (100) ∈ lw_good := (g_in2 108 rfl rfl)
set_option maxRecDepth 20000 in
theorem cX4_50 : Cond.constant RX4 50 (2147483647) ∈ lw_good := (g_in2 126 rfl rfl)
set_option maxRecDepth 20000 in
theorem cX1_77 : Cond.constant RX1 77 (-2147483648) ∈ lw_good := (g_in2 147 rfl rfl)
set_option maxRecDepth 20000 in
theorem cX1_78 : Cond.constant RX1 78 (2147483647) ∈ lw_good := (g_in2 148 rfl rfl)
set_option maxRecDepth 20000 in
theorem cX2_74 : Cond.constantLong RX2 74 (63) ∈ lw_good := (g_in2 188 rfl rfl)
set_option maxRecDepth 20000 in
theorem cX5_216 : Cond.constant RX5 216 (-2147483648) ∈ lw_good := (g_in2 236 rfl rfl)
set_option maxRecDepth 20000 in
theorem cX1_159 : Cond.constantLong RX1 159 (64) ∈ lw_good := (g_in3 17 rfl rfl)
set_option maxRecDepth 20000 in
theorem cX1_63 : Cond.constantLong RX1 63 (3072) ∈ lw_good := (g_in3 26 rfl rfl)
set_option maxRecDepth 20000 in
theorem cX5_220 : Cond.constant RX5 220 (2147483647) ∈ lw_good := (g_in3 33 rfl rfl)
set_option maxRecDepth 20000 in
theorem cX5_160 : Cond.constantLong RX5 160 (-101) ∈ lw_good := (g_in3 84 rfl rfl)
set_option maxRecDepth 20000 in
theorem cX5_221 : Cond.constantLong RX5 221 (-2147483648) ∈ lw_good := (g_in3 116 rfl rfl)
set_option maxRecDepth 20000 in
theorem cX5_187 : Cond.constantLong RX5 187 (2147483647) ∈ lw_good := (g_in3 117 rfl rfl)
set_option maxRecDepth 20000 in
theorem cX3_38 : Cond.constant RX3 38 (65536) ∈ lw_good := (g_in3 143 rfl rfl)
set_option maxRecDepth 20000 in
theorem cX3_32 : Cond.constantLong RX3 32 (10) ∈ lw_good := (g_in3 158 rfl rfl)
set_option maxRecDepth 20000 in
theorem cX3_34 : Cond.constantLong RX3 34 (48) ∈ lw_good := (g_in3 159 rfl rfl)
set_option maxRecDepth 20000 in
theorem cX3_36 : Cond.constantLong RX3 36 (15) ∈ lw_good := (g_in3 227 rfl rfl)
set_option maxRecDepth 20000 in
theorem clL_10 : Cond.classLink RL 10 RX6 ∈ lw_good ∧ Cond.instantiable RX6 41 ∈ lw_good ∧ Cond.initialized RX6 ∈ lw_good := ⟨(g_in3 238 rfl rfl), (g_in3 239 rfl rfl), (g_in1 8 rfl rfl)⟩
set_option maxRecDepth 20000 in
theorem cX6_103 : Cond.constant RX6 103 (40000) ∈ lw_good := (g_in4 4 rfl rfl)
set_option maxRecDepth 20000 in
theorem ac_boolean : Cond.arrayClass .boolean ∈ lw_good := (g_in4 129 rfl rfl)
set_option maxRecDepth 20000 in
theorem cX6_108 : Cond.constantLong RX6 108 (15) ∈ lw_good := (g_in4 134 rfl rfl)
set_option maxRecDepth 20000 in
theorem cX6_114 : Cond.constantLong RX6 114 (1000) ∈ lw_good := (g_in4 138 rfl rfl)
set_option maxRecDepth 20000 in
theorem cX6_119 : Cond.constantLong RX6 119 (23) ∈ lw_good := (g_in4 151 rfl rfl)
set_option maxRecDepth 20000 in
theorem cX6_131 : Cond.constantLong RX6 131 (100) ∈ lw_good := (g_in4 160 rfl rfl)
set_option maxRecDepth 20000 in
theorem cX6_133 : Cond.constantLong RX6 133 (256) ∈ lw_good := (g_in4 161 rfl rfl)
set_option maxRecDepth 20000 in
theorem cX6_141 : Cond.constantLong RX6 141 (-2147483648) ∈ lw_good := (g_in4 182 rfl rfl)
set_option maxRecDepth 20000 in
theorem cX6_143 : Cond.constantLong RX6 143 (64) ∈ lw_good := (g_in4 191 rfl rfl)
set_option maxRecDepth 20000 in
theorem cX6_156 : Cond.constantLong RX6 156 (-1) ∈ lw_good := (g_in4 200 rfl rfl)
set_option maxRecDepth 20000 in
theorem cX6_192 : Cond.constantLong RX6 192 (2147483647) ∈ lw_good := (g_in4 205 rfl rfl)
set_option maxRecDepth 20000 in
theorem cX6_234 : Cond.constantLong RX6 234 (-101) ∈ lw_good := (g_in5 54 rfl rfl)
set_option maxRecDepth 20000 in
theorem cX6_244 : Cond.constantLong RX6 244 (9) ∈ lw_good := (g_in5 71 rfl rfl)
set_option maxRecDepth 20000 in
theorem cX6_246 : Cond.constantLong RX6 246 (10) ∈ lw_good := (g_in5 72 rfl rfl)
set_option maxRecDepth 20000 in
theorem cX6_248 : Cond.constantLong RX6 248 (48) ∈ lw_good := (g_in5 73 rfl rfl)
set_option maxRecDepth 20000 in
theorem oinX5 : Cond.methodLink RX5 3 Lib.objectInit ∈ lw_good ∧ Cond.instanceMethod Lib.objectInit ∈ lw_good ∧ Cond.code Lib.objectInit ⟨#[0xb1]⟩ 1 none ∈ lw_good := ⟨(g_in1 21 rfl rfl), (g_in1 22 rfl rfl), (g_in1 23 rfl rfl)⟩
set_option maxRecDepth 20000 in
theorem oinX2 : Cond.methodLink RX2 3 Lib.objectInit ∈ lw_good ∧ Cond.instanceMethod Lib.objectInit ∈ lw_good ∧ Cond.code Lib.objectInit ⟨#[0xb1]⟩ 1 none ∈ lw_good := ⟨(g_in1 29 rfl rfl), (g_in1 22 rfl rfl), (g_in1 23 rfl rfl)⟩
set_option maxRecDepth 20000 in
theorem oinX0 : Cond.methodLink RX0 3 Lib.objectInit ∈ lw_good ∧ Cond.instanceMethod Lib.objectInit ∈ lw_good ∧ Cond.code Lib.objectInit ⟨#[0xb1]⟩ 1 none ∈ lw_good := ⟨(g_in1 55 rfl rfl), (g_in1 22 rfl rfl), (g_in1 23 rfl rfl)⟩
set_option maxRecDepth 20000 in
theorem oinX4 : Cond.methodLink RX4 3 Lib.objectInit ∈ lw_good ∧ Cond.instanceMethod Lib.objectInit ∈ lw_good ∧ Cond.code Lib.objectInit ⟨#[0xb1]⟩ 1 none ∈ lw_good := ⟨(g_in1 92 rfl rfl), (g_in1 22 rfl rfl), (g_in1 23 rfl rfl)⟩
set_option maxRecDepth 20000 in
theorem oinX1 : Cond.methodLink RX1 3 Lib.objectInit ∈ lw_good ∧ Cond.instanceMethod Lib.objectInit ∈ lw_good ∧ Cond.code Lib.objectInit ⟨#[0xb1]⟩ 1 none ∈ lw_good := ⟨(g_in1 111 rfl rfl), (g_in1 22 rfl rfl), (g_in1 23 rfl rfl)⟩
set_option maxRecDepth 20000 in
theorem oinX3 : Cond.methodLink RX3 3 Lib.objectInit ∈ lw_good ∧ Cond.instanceMethod Lib.objectInit ∈ lw_good ∧ Cond.code Lib.objectInit ⟨#[0xb1]⟩ 1 none ∈ lw_good := ⟨(g_in1 161 rfl rfl), (g_in1 22 rfl rfl), (g_in1 23 rfl rfl)⟩
set_option maxRecDepth 20000 in
theorem oinX6 : Cond.methodLink RX6 1 Lib.objectInit ∈ lw_good ∧ Cond.instanceMethod Lib.objectInit ∈ lw_good ∧ Cond.code Lib.objectInit ⟨#[0xb1]⟩ 1 none ∈ lw_good := ⟨(g_in4 3 rfl rfl), (g_in1 22 rfl rfl), (g_in1 23 rfl rfl)⟩
end
section
section
variable {G : xG} {M : xM} {d b pc : Nat} {L st : List Value} {h : xH} {Q : Option Value → xH → Prop}
theorem Ax_cmpgen {a c : Nat} {off : Int} {tgt : Nat} (hd : decode M.2.2.1 pc = .ok (.if_icmp .ge off, 3)) (ht : (pc : Int) + off = (tgt : Int)) (ha : a < 2 ^ 31) (hc : c < 2 ^ 31) (kt : c ≤ a → Ax G M d b tgt L st h Q) (kf : a < c → Ax G M d b (pc + 3) L st h Q) : Ax G M d b pc L (.int (nI c) :: .int (nI a) :: st) h Q :=
  Ax_cmpge hd ht (fun q => kt ((nI_leI hc ha).mp q)) (fun q => kf (by have := mt (nI_leI hc ha).mpr q; omega))
theorem Ax_cmpgtn {a c : Nat} {off : Int} {tgt : Nat} (hd : decode M.2.2.1 pc = .ok (.if_icmp .gt off, 3)) (ht : (pc : Int) + off = (tgt : Int)) (ha : a < 2 ^ 31) (hc : c < 2 ^ 31) (kt : c < a → Ax G M d b tgt L st h Q) (kf : a ≤ c → Ax G M d b (pc + 3) L st h Q) : Ax G M d b pc L (.int (nI c) :: .int (nI a) :: st) h Q :=
  Ax_cmpgt hd ht (fun q => kt ((nI_ltI hc ha).mp q)) (fun q => kf (by have := mt (nI_ltI hc ha).mpr q; omega))
theorem Ax_cmplen {a c : Nat} {off : Int} {tgt : Nat} (hd : decode M.2.2.1 pc = .ok (.if_icmp .le off, 3)) (ht : (pc : Int) + off = (tgt : Int)) (ha : a < 2 ^ 31) (hc : c < 2 ^ 31) (kt : a ≤ c → Ax G M d b tgt L st h Q) (kf : c < a → Ax G M d b (pc + 3) L st h Q) : Ax G M d b pc L (.int (nI c) :: .int (nI a) :: st) h Q :=
  Ax_cmple hd ht (fun q => kt ((nI_leI ha hc).mp q)) (fun q => kf (by have := mt (nI_leI ha hc).mpr q; omega))
theorem Ax_cmpltn {a c : Nat} {off : Int} {tgt : Nat} (hd : decode M.2.2.1 pc = .ok (.if_icmp .lt off, 3)) (ht : (pc : Int) + off = (tgt : Int)) (ha : a < 2 ^ 31) (hc : c < 2 ^ 31) (kt : a < c → Ax G M d b tgt L st h Q) (kf : c ≤ a → Ax G M d b (pc + 3) L st h Q) : Ax G M d b pc L (.int (nI c) :: .int (nI a) :: st) h Q :=
  Ax_cmplt hd ht (fun q => kt ((nI_ltI ha hc).mp q)) (fun q => kf (by have := mt (nI_ltI ha hc).mpr q; omega))
theorem Ax_cmpeqn {a c : Nat} {off : Int} {tgt : Nat} (hd : decode M.2.2.1 pc = .ok (.if_icmp .eq off, 3)) (ht : (pc : Int) + off = (tgt : Int)) (ha : a < 2 ^ 31) (hc : c < 2 ^ 31) (kt : a = c → Ax G M d b tgt L st h Q) (kf : a ≠ c → Ax G M d b (pc + 3) L st h Q) : Ax G M d b pc L (.int (nI c) :: .int (nI a) :: st) h Q :=
  Ax_cmpeq hd ht (fun q => kt ((nI_eq ha hc).mp q)) (fun q => kf (mt (nI_eq ha hc).mpr q))
theorem Ax_cmpnen {a c : Nat} {off : Int} {tgt : Nat} (hd : decode M.2.2.1 pc = .ok (.if_icmp .ne off, 3)) (ht : (pc : Int) + off = (tgt : Int)) (ha : a < 2 ^ 31) (hc : c < 2 ^ 31) (kt : a ≠ c → Ax G M d b tgt L st h Q) (kf : a = c → Ax G M d b (pc + 3) L st h Q) : Ax G M d b pc L (.int (nI c) :: .int (nI a) :: st) h Q :=
  Ax_cmpne hd ht (fun q => kt (mt (nI_eq ha hc).mpr q)) (fun q => kf ((nI_eq ha hc).mp q))
theorem Ax_ifeqn {a : Nat} {off : Int} {tgt : Nat} (hd : decode M.2.2.1 pc = .ok (.ifCond .eq off, 3)) (ht : (pc : Int) + off = (tgt : Int)) (ha : a < 2 ^ 31) (kt : a = 0 → Ax G M d b tgt L st h Q) (kf : a ≠ 0 → Ax G M d b (pc + 3) L st h Q) : Ax G M d b pc L (.int (nI a) :: st) h Q :=
  Ax_ifeq hd ht (fun q => kt (by rcases Nat.eq_zero_or_pos a with e | e; exact e; exact absurd q (nI_ne0 e ha))) (fun q => kf (fun e => q (by rw [e]; rfl)))
theorem Ax_ifnen {a : Nat} {off : Int} {tgt : Nat} (hd : decode M.2.2.1 pc = .ok (.ifCond .ne off, 3)) (ht : (pc : Int) + off = (tgt : Int)) (ha : a < 2 ^ 31) (kt : a ≠ 0 → Ax G M d b tgt L st h Q) (kf : a = 0 → Ax G M d b (pc + 3) L st h Q) : Ax G M d b pc L (.int (nI a) :: st) h Q :=
  Ax_ifne hd ht (fun q => kt (fun e => q (by rw [e]; rfl))) (fun q => kf (by rcases Nat.eq_zero_or_pos a with e | e; exact e; exact absurd q (nI_ne0 e ha)))
theorem Ax_ifgtn {a : Nat} {off : Int} {tgt : Nat} (hd : decode M.2.2.1 pc = .ok (.ifCond .gt off, 3)) (ht : (pc : Int) + off = (tgt : Int)) (ha : a < 2 ^ 31) (kt : 0 < a → Ax G M d b tgt L st h Q) (kf : a = 0 → Ax G M d b (pc + 3) L st h Q) : Ax G M d b pc L (.int (nI a) :: st) h Q :=
  Ax_ifgt hd ht (fun q => kt (by rcases Nat.eq_zero_or_pos a with e | e; (subst e; exact absurd q (by decide)); exact e)) (fun q => kf (by rcases Nat.eq_zero_or_pos a with e | e; exact e; exact absurd ((nI_ltI (by decide) ha).mpr e) q))
theorem Ax_iflen {a : Nat} {off : Int} {tgt : Nat} (hd : decode M.2.2.1 pc = .ok (.ifCond .le off, 3)) (ht : (pc : Int) + off = (tgt : Int)) (ha : a < 2 ^ 31) (kt : a = 0 → Ax G M d b tgt L st h Q) (kf : 0 < a → Ax G M d b (pc + 3) L st h Q) : Ax G M d b pc L (.int (nI a) :: st) h Q :=
  Ax_ifle hd ht (fun q => kt (by rcases Nat.eq_zero_or_pos a with e | e; exact e; exact absurd q (nI_nle e ha))) (fun q => kf (by rcases Nat.eq_zero_or_pos a with e | e; (subst e; exact absurd (by decide) q); exact e))
theorem Ax_ifltn {a : Nat} {off : Int} {tgt : Nat} (hd : decode M.2.2.1 pc = .ok (.ifCond .lt off, 3)) (ht : (pc : Int) + off = (tgt : Int)) (ha : a < 2 ^ 31) (kf : Ax G M d b (pc + 3) L st h Q) : Ax G M d b pc L (.int (nI a) :: st) h Q :=
  Ax_iflt hd ht (fun q => absurd q (nI_pos ha)) (fun _ => kf)
theorem Ax_ifgen {a : Nat} {off : Int} {tgt : Nat} (hd : decode M.2.2.1 pc = .ok (.ifCond .ge off, 3)) (ht : (pc : Int) + off = (tgt : Int)) (ha : a < 2 ^ 31) (kt : Ax G M d b tgt L st h Q) : Ax G M d b pc L (.int (nI a) :: st) h Q :=
  Ax_ifge hd ht (fun _ => kt) (fun q => absurd (nI_pos' ha) q)
theorem xup_s {a : Nat} {c : xC} : (xup h a c).1 a = c := if_pos rfl
theorem xup_n {a q : Nat} {c : xC} (hq : q ≠ a) : (xup h a c).1 q = h.1 q := if_neg hq
theorem xnew_s {c : xC} : (xnew h c).1 h.2 = c := if_pos rfl
theorem xnew_n {q : Nat} {c : xC} (hq : q ≠ h.2) : (xnew h c).1 q = h.1 q := if_neg hq
/-- the heap behind a store, by a name -/
theorem Ax_up {a : Nat} {c : xC} (k : ∀ h1 : xH, h1.1 a = c → (∀ q, q ≠ a → h1.1 q = h.1 q) → h1.2 = h.2 → Ax G M d b pc L st h1 Q) : Ax G M d b pc L st (xup h a c) Q :=
  k _ xup_s (fun _ hq => xup_n hq) rfl
theorem Ax_nw {c : xC} (k : ∀ h1 : xH, h1.1 h.2 = c → (∀ q, q ≠ h.2 → h1.1 q = h.1 q) → h1.2 = h.2 + 1 → Ax G M d b pc L st h1 Q) : Ax G M d b pc L st (xnew h c) Q :=
  k _ xnew_s (fun _ hq => xnew_n hq) rfl
theorem Ax_cVi {idx n a ci N d' : Nat} {T : u_T} {ty : Nat → FieldType} {M' : xM} {fs as stk : List Value} {x : Int32} (hd : decode M.2.2.1 pc = .ok (.invokevirtual idx, 3)) (hw : xCV M.1 idx M' n) (hF : xCF ci M'.2.1.cls T N ty) (hc : h.1 a = cO ci fs) (hM : AM G M' d' 0 (.ref a :: as) h (fun r h' => r = some (.int x) ∧ h' = h)) (hn : as.length = n) (hstk : stk = as.reverse ++ .ref a :: st) (hdd : d' + 1 ≤ d) (hcat : (st.map fun v => v.category).sum ≤ 8)
    (k : Ax G M d b (pc + 3) L (.int x :: st) h Q) : Ax G M d b pc L stk h Q :=
  Ax_callV hd hw hF hc hM hn hstk hdd (Nat.zero_le _) hcat (fun r h' hq => by obtain ⟨rfl, rfl⟩ := hq; exact k)
theorem Ax_cVl {idx n a ci N d' : Nat} {T : u_T} {ty : Nat → FieldType} {M' : xM} {fs as stk : List Value} {x : Int64} (hd : decode M.2.2.1 pc = .ok (.invokevirtual idx, 3)) (hw : xCV M.1 idx M' n) (hF : xCF ci M'.2.1.cls T N ty) (hc : h.1 a = cO ci fs) (hM : AM G M' d' 0 (.ref a :: as) h (fun r h' => r = some (.long x) ∧ h' = h)) (hn : as.length = n) (hstk : stk = as.reverse ++ .ref a :: st) (hdd : d' + 1 ≤ d) (hcat : (st.map fun v => v.category).sum ≤ 8)
    (k : Ax G M d b (pc + 3) L (.long x :: st) h Q) : Ax G M d b pc L stk h Q :=
  Ax_callV hd hw hF hc hM hn hstk hdd (Nat.zero_le _) hcat (fun r h' hq => by obtain ⟨rfl, rfl⟩ := hq; exact k)
theorem Ax_cVa {idx n a ci N d' : Nat} {T : u_T} {ty : Nat → FieldType} {M' : xM} {fs as stk : List Value} {x : Nat} (hd : decode M.2.2.1 pc = .ok (.invokevirtual idx, 3)) (hw : xCV M.1 idx M' n) (hF : xCF ci M'.2.1.cls T N ty) (hc : h.1 a = cO ci fs) (hM : AM G M' d' 0 (.ref a :: as) h (fun r h' => r = some (.ref x) ∧ h' = h)) (hn : as.length = n) (hstk : stk = as.reverse ++ .ref a :: st) (hdd : d' + 1 ≤ d) (hcat : (st.map fun v => v.category).sum ≤ 8)
    (k : Ax G M d b (pc + 3) L (.ref x :: st) h Q) : Ax G M d b pc L stk h Q :=
  Ax_callV hd hw hF hc hM hn hstk hdd (Nat.zero_le _) hcat (fun r h' hq => by obtain ⟨rfl, rfl⟩ := hq; exact k)
theorem Ax_cViE {idx n a ci N d' : Nat} {T : u_T} {ty : Nat → FieldType} {M' : xM} {fs as stk : List Value} {P : Int32 → Prop} (hd : decode M.2.2.1 pc = .ok (.invokevirtual idx, 3)) (hw : xCV M.1 idx M' n) (hF : xCF ci M'.2.1.cls T N ty) (hc : h.1 a = cO ci fs) (hM : AM G M' d' 0 (.ref a :: as) h (fun r h' => ∃ x, r = some (.int x) ∧ P x ∧ h' = h)) (hn : as.length = n) (hstk : stk = as.reverse ++ .ref a :: st) (hdd : d' + 1 ≤ d) (hcat : (st.map fun v => v.category).sum ≤ 8)
    (k : ∀ x, P x → Ax G M d b (pc + 3) L (.int x :: st) h Q) : Ax G M d b pc L stk h Q :=
  Ax_callV hd hw hF hc hM hn hstk hdd (Nat.zero_le _) hcat (fun r h' hq => by obtain ⟨x, rfl, hp, rfl⟩ := hq; exact k x hp)
theorem Ax_cViH {idx n a ci N d' : Nat} {T : u_T} {ty : Nat → FieldType} {M' : xM} {fs as stk : List Value} {b' : Nat} {P : Int32 → xH → Prop} (hd : decode M.2.2.1 pc = .ok (.invokevirtual idx, 3)) (hw : xCV M.1 idx M' n) (hF : xCF ci M'.2.1.cls T N ty) (hc : h.1 a = cO ci fs) (hM : AM G M' d' b' (.ref a :: as) h (fun r h' => ∃ x, r = some (.int x) ∧ P x h')) (hn : as.length = n) (hstk : stk = as.reverse ++ .ref a :: st) (hdd : d' + 1 ≤ d) (hcat : (st.map fun v => v.category).sum ≤ 8) (hbb : b' ≤ b)
    (k : ∀ x h', P x h' → Ax G M d (b - b') (pc + 3) L (.int x :: st) h' Q) : Ax G M d b pc L stk h Q :=
  Ax_callV hd hw hF hc hM hn hstk hdd hbb hcat (fun r h' hq => by obtain ⟨x, rfl, hp⟩ := hq; exact k x h' hp)
theorem Ax_cVlE {idx n a ci N d' : Nat} {T : u_T} {ty : Nat → FieldType} {M' : xM} {fs as stk : List Value} {P : Int64 → Prop} (hd : decode M.2.2.1 pc = .ok (.invokevirtual idx, 3)) (hw : xCV M.1 idx M' n) (hF : xCF ci M'.2.1.cls T N ty) (hc : h.1 a = cO ci fs) (hM : AM G M' d' 0 (.ref a :: as) h (fun r h' => ∃ x, r = some (.long x) ∧ P x ∧ h' = h)) (hn : as.length = n) (hstk : stk = as.reverse ++ .ref a :: st) (hdd : d' + 1 ≤ d) (hcat : (st.map fun v => v.category).sum ≤ 8)
    (k : ∀ x, P x → Ax G M d b (pc + 3) L (.long x :: st) h Q) : Ax G M d b pc L stk h Q :=
  Ax_callV hd hw hF hc hM hn hstk hdd (Nat.zero_le _) hcat (fun r h' hq => by obtain ⟨x, rfl, hp, rfl⟩ := hq; exact k x hp)
theorem Ax_cVlH {idx n a ci N d' : Nat} {T : u_T} {ty : Nat → FieldType} {M' : xM} {fs as stk : List Value} {b' : Nat} {P : Int64 → xH → Prop} (hd : decode M.2.2.1 pc = .ok (.invokevirtual idx, 3)) (hw : xCV M.1 idx M' n) (hF : xCF ci M'.2.1.cls T N ty) (hc : h.1 a = cO ci fs) (hM : AM G M' d' b' (.ref a :: as) h (fun r h' => ∃ x, r = some (.long x) ∧ P x h')) (hn : as.length = n) (hstk : stk = as.reverse ++ .ref a :: st) (hdd : d' + 1 ≤ d) (hcat : (st.map fun v => v.category).sum ≤ 8) (hbb : b' ≤ b)
    (k : ∀ x h', P x h' → Ax G M d (b - b') (pc + 3) L (.long x :: st) h' Q) : Ax G M d b pc L stk h Q :=
  Ax_callV hd hw hF hc hM hn hstk hdd hbb hcat (fun r h' hq => by obtain ⟨x, rfl, hp⟩ := hq; exact k x h' hp)
theorem Ax_cVaE {idx n a ci N d' : Nat} {T : u_T} {ty : Nat → FieldType} {M' : xM} {fs as stk : List Value} {P : Nat → Prop} (hd : decode M.2.2.1 pc = .ok (.invokevirtual idx, 3)) (hw : xCV M.1 idx M' n) (hF : xCF ci M'.2.1.cls T N ty) (hc : h.1 a = cO ci fs) (hM : AM G M' d' 0 (.ref a :: as) h (fun r h' => ∃ x, r = some (.ref x) ∧ P x ∧ h' = h)) (hn : as.length = n) (hstk : stk = as.reverse ++ .ref a :: st) (hdd : d' + 1 ≤ d) (hcat : (st.map fun v => v.category).sum ≤ 8)
    (k : ∀ x, P x → Ax G M d b (pc + 3) L (.ref x :: st) h Q) : Ax G M d b pc L stk h Q :=
  Ax_callV hd hw hF hc hM hn hstk hdd (Nat.zero_le _) hcat (fun r h' hq => by obtain ⟨x, rfl, hp, rfl⟩ := hq; exact k x hp)
theorem Ax_cVaH {idx n a ci N d' : Nat} {T : u_T} {ty : Nat → FieldType} {M' : xM} {fs as stk : List Value} {b' : Nat} {P : Nat → xH → Prop} (hd : decode M.2.2.1 pc = .ok (.invokevirtual idx, 3)) (hw : xCV M.1 idx M' n) (hF : xCF ci M'.2.1.cls T N ty) (hc : h.1 a = cO ci fs) (hM : AM G M' d' b' (.ref a :: as) h (fun r h' => ∃ x, r = some (.ref x) ∧ P x h')) (hn : as.length = n) (hstk : stk = as.reverse ++ .ref a :: st) (hdd : d' + 1 ≤ d) (hcat : (st.map fun v => v.category).sum ≤ 8) (hbb : b' ≤ b)
    (k : ∀ x h', P x h' → Ax G M d (b - b') (pc + 3) L (.ref x :: st) h' Q) : Ax G M d b pc L stk h Q :=
  Ax_callV hd hw hF hc hM hn hstk hdd hbb hcat (fun r h' hq => by obtain ⟨x, rfl, hp⟩ := hq; exact k x h' hp)
theorem Ax_cVv {idx n a ci N d' : Nat} {T : u_T} {ty : Nat → FieldType} {M' : xM} {fs as stk : List Value} {b' : Nat} {P : xH → Prop} (hd : decode M.2.2.1 pc = .ok (.invokevirtual idx, 3)) (hw : xCV M.1 idx M' n) (hF : xCF ci M'.2.1.cls T N ty) (hc : h.1 a = cO ci fs) (hM : AM G M' d' b' (.ref a :: as) h (fun r h' => r = none ∧ P h')) (hn : as.length = n) (hstk : stk = as.reverse ++ .ref a :: st) (hdd : d' + 1 ≤ d) (hcat : (st.map fun v => v.category).sum ≤ 8) (hbb : b' ≤ b)
    (k : ∀ h', P h' → Ax G M d (b - b') (pc + 3) L st h' Q) : Ax G M d b pc L stk h Q :=
  Ax_callV hd hw hF hc hM hn hstk hdd hbb hcat (fun r h' hq => by obtain ⟨rfl, hp⟩ := hq; exact k h' hp)
theorem Ax_cSi {idx n d' : Nat} {M' : xM} {as stk : List Value} {x : Int32} (hd : decode M.2.2.1 pc = .ok (.invokestatic idx, 3)) (hw : xCS M.1 idx M' n) (hM : AM G M' d' 0 as h (fun r h' => r = some (.int x) ∧ h' = h)) (hn : as.length = n) (hstk : stk = as.reverse ++ st) (hdd : d' + 1 ≤ d) (hcat : (st.map fun v => v.category).sum ≤ 8)
    (k : Ax G M d b (pc + 3) L (.int x :: st) h Q) : Ax G M d b pc L stk h Q :=
  Ax_callS hd hw hM hn hstk hdd (Nat.zero_le _) hcat (fun r h' hq => by obtain ⟨rfl, rfl⟩ := hq; exact k)
theorem Ax_cSl {idx n d' : Nat} {M' : xM} {as stk : List Value} {x : Int64} (hd : decode M.2.2.1 pc = .ok (.invokestatic idx, 3)) (hw : xCS M.1 idx M' n) (hM : AM G M' d' 0 as h (fun r h' => r = some (.long x) ∧ h' = h)) (hn : as.length = n) (hstk : stk = as.reverse ++ st) (hdd : d' + 1 ≤ d) (hcat : (st.map fun v => v.category).sum ≤ 8)
    (k : Ax G M d b (pc + 3) L (.long x :: st) h Q) : Ax G M d b pc L stk h Q :=
  Ax_callS hd hw hM hn hstk hdd (Nat.zero_le _) hcat (fun r h' hq => by obtain ⟨rfl, rfl⟩ := hq; exact k)
theorem Ax_cSa {idx n d' : Nat} {M' : xM} {as stk : List Value} {x : Nat} (hd : decode M.2.2.1 pc = .ok (.invokestatic idx, 3)) (hw : xCS M.1 idx M' n) (hM : AM G M' d' 0 as h (fun r h' => r = some (.ref x) ∧ h' = h)) (hn : as.length = n) (hstk : stk = as.reverse ++ st) (hdd : d' + 1 ≤ d) (hcat : (st.map fun v => v.category).sum ≤ 8)
    (k : Ax G M d b (pc + 3) L (.ref x :: st) h Q) : Ax G M d b pc L stk h Q :=
  Ax_callS hd hw hM hn hstk hdd (Nat.zero_le _) hcat (fun r h' hq => by obtain ⟨rfl, rfl⟩ := hq; exact k)
theorem Ax_cSiE {idx n d' : Nat} {M' : xM} {as stk : List Value} {P : Int32 → Prop} (hd : decode M.2.2.1 pc = .ok (.invokestatic idx, 3)) (hw : xCS M.1 idx M' n) (hM : AM G M' d' 0 as h (fun r h' => ∃ x, r = some (.int x) ∧ P x ∧ h' = h)) (hn : as.length = n) (hstk : stk = as.reverse ++ st) (hdd : d' + 1 ≤ d) (hcat : (st.map fun v => v.category).sum ≤ 8)
    (k : ∀ x, P x → Ax G M d b (pc + 3) L (.int x :: st) h Q) : Ax G M d b pc L stk h Q :=
  Ax_callS hd hw hM hn hstk hdd (Nat.zero_le _) hcat (fun r h' hq => by obtain ⟨x, rfl, hp, rfl⟩ := hq; exact k x hp)
theorem Ax_cSiH {idx n d' : Nat} {M' : xM} {as stk : List Value} {b' : Nat} {P : Int32 → xH → Prop} (hd : decode M.2.2.1 pc = .ok (.invokestatic idx, 3)) (hw : xCS M.1 idx M' n) (hM : AM G M' d' b' as h (fun r h' => ∃ x, r = some (.int x) ∧ P x h')) (hn : as.length = n) (hstk : stk = as.reverse ++ st) (hdd : d' + 1 ≤ d) (hcat : (st.map fun v => v.category).sum ≤ 8) (hbb : b' ≤ b)
    (k : ∀ x h', P x h' → Ax G M d (b - b') (pc + 3) L (.int x :: st) h' Q) : Ax G M d b pc L stk h Q :=
  Ax_callS hd hw hM hn hstk hdd hbb hcat (fun r h' hq => by obtain ⟨x, rfl, hp⟩ := hq; exact k x h' hp)
theorem Ax_cSlE {idx n d' : Nat} {M' : xM} {as stk : List Value} {P : Int64 → Prop} (hd : decode M.2.2.1 pc = .ok (.invokestatic idx, 3)) (hw : xCS M.1 idx M' n) (hM : AM G M' d' 0 as h (fun r h' => ∃ x, r = some (.long x) ∧ P x ∧ h' = h)) (hn : as.length = n) (hstk : stk = as.reverse ++ st) (hdd : d' + 1 ≤ d) (hcat : (st.map fun v => v.category).sum ≤ 8)
    (k : ∀ x, P x → Ax G M d b (pc + 3) L (.long x :: st) h Q) : Ax G M d b pc L stk h Q :=
  Ax_callS hd hw hM hn hstk hdd (Nat.zero_le _) hcat (fun r h' hq => by obtain ⟨x, rfl, hp, rfl⟩ := hq; exact k x hp)
theorem Ax_cSlH {idx n d' : Nat} {M' : xM} {as stk : List Value} {b' : Nat} {P : Int64 → xH → Prop} (hd : decode M.2.2.1 pc = .ok (.invokestatic idx, 3)) (hw : xCS M.1 idx M' n) (hM : AM G M' d' b' as h (fun r h' => ∃ x, r = some (.long x) ∧ P x h')) (hn : as.length = n) (hstk : stk = as.reverse ++ st) (hdd : d' + 1 ≤ d) (hcat : (st.map fun v => v.category).sum ≤ 8) (hbb : b' ≤ b)
    (k : ∀ x h', P x h' → Ax G M d (b - b') (pc + 3) L (.long x :: st) h' Q) : Ax G M d b pc L stk h Q :=
  Ax_callS hd hw hM hn hstk hdd hbb hcat (fun r h' hq => by obtain ⟨x, rfl, hp⟩ := hq; exact k x h' hp)
theorem Ax_cSaE {idx n d' : Nat} {M' : xM} {as stk : List Value} {P : Nat → Prop} (hd : decode M.2.2.1 pc = .ok (.invokestatic idx, 3)) (hw : xCS M.1 idx M' n) (hM : AM G M' d' 0 as h (fun r h' => ∃ x, r = some (.ref x) ∧ P x ∧ h' = h)) (hn : as.length = n) (hstk : stk = as.reverse ++ st) (hdd : d' + 1 ≤ d) (hcat : (st.map fun v => v.category).sum ≤ 8)
    (k : ∀ x, P x → Ax G M d b (pc + 3) L (.ref x :: st) h Q) : Ax G M d b pc L stk h Q :=
  Ax_callS hd hw hM hn hstk hdd (Nat.zero_le _) hcat (fun r h' hq => by obtain ⟨x, rfl, hp, rfl⟩ := hq; exact k x hp)
theorem Ax_cSaH {idx n d' : Nat} {M' : xM} {as stk : List Value} {b' : Nat} {P : Nat → xH → Prop} (hd : decode M.2.2.1 pc = .ok (.invokestatic idx, 3)) (hw : xCS M.1 idx M' n) (hM : AM G M' d' b' as h (fun r h' => ∃ x, r = some (.ref x) ∧ P x h')) (hn : as.length = n) (hstk : stk = as.reverse ++ st) (hdd : d' + 1 ≤ d) (hcat : (st.map fun v => v.category).sum ≤ 8) (hbb : b' ≤ b)
    (k : ∀ x h', P x h' → Ax G M d (b - b') (pc + 3) L (.ref x :: st) h' Q) : Ax G M d b pc L stk h Q :=
  Ax_callS hd hw hM hn hstk hdd hbb hcat (fun r h' hq => by obtain ⟨x, rfl, hp⟩ := hq; exact k x h' hp)
theorem Ax_cSv {idx n d' : Nat} {M' : xM} {as stk : List Value} {b' : Nat} {P : xH → Prop} (hd : decode M.2.2.1 pc = .ok (.invokestatic idx, 3)) (hw : xCS M.1 idx M' n) (hM : AM G M' d' b' as h (fun r h' => r = none ∧ P h')) (hn : as.length = n) (hstk : stk = as.reverse ++ st) (hdd : d' + 1 ≤ d) (hcat : (st.map fun v => v.category).sum ≤ 8) (hbb : b' ≤ b)
    (k : ∀ h', P h' → Ax G M d (b - b') (pc + 3) L st h' Q) : Ax G M d b pc L stk h Q :=
  Ax_callS hd hw hM hn hstk hdd hbb hcat (fun r h' hq => by obtain ⟨rfl, hp⟩ := hq; exact k h' hp)
theorem Ax_cIv {idx n a ci d' : Nat} {M' : xM} {fs as stk : List Value} {b' : Nat} {P : xH → Prop} (hci : ci < 99) (hd : decode M.2.2.1 pc = .ok (.invokespecial idx, 3)) (hw : xCX M.1 idx M' n) (hc : h.1 a = cO ci fs) (hM : AM G M' d' b' (.ref a :: as) h (fun r h' => r = none ∧ P h')) (hn : as.length = n) (hstk : stk = as.reverse ++ .ref a :: st) (hdd : d' + 1 ≤ d) (hcat : (st.map fun v => v.category).sum ≤ 8) (hbb : b' ≤ b)
    (k : ∀ h', P h' → Ax G M d (b - b') (pc + 3) L st h' Q) : Ax G M d b pc L stk h Q :=
  Ax_callI hci hd hw hc hM hn hstk hdd hbb hcat (fun r h' hq => by obtain ⟨rfl, hp⟩ := hq; exact k h' hp)
theorem Ax_cYv {idx n a ci d' : Nat} {M' : xM} {fs as stk : List Value} {b' : Nat} {P : xH → Prop} (hci : ci < 99) (hd : decode M.2.2.1 pc = .ok (.invokespecial idx, 3)) (hw : xCY M.1 idx M' n) (hc : h.1 a = cO ci fs) (hM : AM G M' d' b' (.ref a :: as) h (fun r h' => r = none ∧ P h')) (hn : as.length = n) (hstk : stk = as.reverse ++ .ref a :: st) (hdd : d' + 1 ≤ d) (hcat : (st.map fun v => v.category).sum ≤ 8) (hbb : b' ≤ b)
    (k : ∀ h', P h' → Ax G M d (b - b') (pc + 3) L st h' Q) : Ax G M d b pc L stk h Q :=
  Ax_callY hci hd hw hc hM hn hstk hdd hbb hcat (fun r h' hq => by obtain ⟨rfl, hp⟩ := hq; exact k h' hp)
theorem Ax_iaddn {x y : Nat} (hd : decode M.2.2.1 pc = .ok (.iadd, 1)) (k : Ax G M d b (pc + 1) L (.int (nI (x + y)) :: st) h Q) : Ax G M d b pc L (.int (nI y) :: .int (nI x) :: st) h Q := Ax_iadd hd (by rw [nI_add]; exact k)
theorem Ax_isubn {x y : Nat} (hd : decode M.2.2.1 pc = .ok (.isub, 1)) (hle : y ≤ x) (k : Ax G M d b (pc + 1) L (.int (nI (x - y)) :: st) h Q) : Ax G M d b pc L (.int (nI y) :: .int (nI x) :: st) h Q := Ax_isub hd (by rw [pk_sub hle]; exact k)
theorem Ax_imuln {x y : Nat} (hd : decode M.2.2.1 pc = .ok (.imul, 1)) (k : Ax G M d b (pc + 1) L (.int (nI (x * y)) :: st) h Q) : Ax G M d b pc L (.int (nI y) :: .int (nI x) :: st) h Q := Ax_imul hd (by rw [pk_mul]; exact k)
theorem Ax_laddn {x y : Nat} (hd : decode M.2.2.1 pc = .ok (.ladd, 1)) (k : Ax G M d b (pc + 1) L (.long (lN (x + y)) :: st) h Q) : Ax G M d b pc L (.long (lN y) :: .long (lN x) :: st) h Q := Ax_ladd hd (by rw [lN_add]; exact k)
theorem Ax_lsubn {x y : Nat} (hd : decode M.2.2.1 pc = .ok (.lsub, 1)) (hle : y ≤ x) (k : Ax G M d b (pc + 1) L (.long (lN (x - y)) :: st) h Q) : Ax G M d b pc L (.long (lN y) :: .long (lN x) :: st) h Q := Ax_lsub hd (by rw [lN_sub hle]; exact k)
theorem Ax_lmuln {x y : Nat} (hd : decode M.2.2.1 pc = .ok (.lmul, 1)) (k : Ax G M d b (pc + 1) L (.long (lN (x * y)) :: st) h Q) : Ax G M d b pc L (.long (lN y) :: .long (lN x) :: st) h Q := Ax_lmul hd (by rw [lN_mul]; exact k)
theorem Ax_idivn {x y : Nat} (hd : decode M.2.2.1 pc = .ok (.idiv, 1)) (hx : x < 2 ^ 31) (h0 : 0 < y) (hy : y < 2 ^ 31) (k : Ax G M d b (pc + 1) L (.int (nI (x / y)) :: st) h Q) : Ax G M d b pc L (.int (nI y) :: .int (nI x) :: st) h Q := Ax_idiv hd (nI_ne0 h0 hy) (by rw [pk_div hx h0 hy]; exact k)
theorem Ax_ldivn {x y : Nat} (hd : decode M.2.2.1 pc = .ok (.ldiv, 1)) (hx : x < 2 ^ 63) (h0 : 0 < y) (hy : y < 2 ^ 63) (k : Ax G M d b (pc + 1) L (.long (lN (x / y)) :: st) h Q) : Ax G M d b pc L (.long (lN y) :: .long (lN x) :: st) h Q := Ax_ldiv hd (by rw [show (0 : Int64) = lN 0 from rfl, pk_lEQ hy (by decide)]; omega) (by rw [pk_lDiv hx h0 hy]; exact k)
theorem Ax_lremn {x y : Nat} (hd : decode M.2.2.1 pc = .ok (.lrem, 1)) (hx : x < 2 ^ 63) (h0 : 0 < y) (hy : y < 2 ^ 63) (k : Ax G M d b (pc + 1) L (.long (lN (x % y)) :: st) h Q) : Ax G M d b pc L (.long (lN y) :: .long (lN x) :: st) h Q := Ax_lrem hd (by rw [show (0 : Int64) = lN 0 from rfl, pk_lEQ hy (by decide)]; omega) (by rw [pk_lRem hx h0 hy]; exact k)
theorem Ax_i2ln {x : Nat} (hd : decode M.2.2.1 pc = .ok (.i2l, 1)) (hx : x < 2 ^ 31) (k : Ax G M d b (pc + 1) L (.long (lN x) :: st) h Q) : Ax G M d b pc L (.int (nI x) :: st) h Q := Ax_i2l hd (by rw [nI_l hx]; exact k)
theorem Ax_l2in {x : Nat} (hd : decode M.2.2.1 pc = .ok (.l2i, 1)) (k : Ax G M d b (pc + 1) L (.int (nI x) :: st) h Q) : Ax G M d b pc L (.long (lN x) :: st) h Q := Ax_l2i hd (by rw [lN_i]; exact k)
theorem Ax_top {x y : Int32} (e : x = y) (k : Ax G M d b pc L (.int y :: st) h Q) : Ax G M d b pc L (.int x :: st) h Q := e ▸ k
theorem Ax_top2 {x y : Int32} {v : Value} (e : x = y) (k : Ax G M d b pc L (v :: .int y :: st) h Q) : Ax G M d b pc L (v :: .int x :: st) h Q := e ▸ k
theorem Ax_topL {x y : Int64} (e : x = y) (k : Ax G M d b pc L (.long y :: st) h Q) : Ax G M d b pc L (.long x :: st) h Q := e ▸ k
theorem Ax_top2L {x y : Int64} {v : Value} (e : x = y) (k : Ax G M d b pc L (v :: .long y :: st) h Q) : Ax G M d b pc L (v :: .long x :: st) h Q := e ▸ k
/-! comparisons of longs, answers of boolean methods -/
theorem xcmp_lt (x y : Int64) : lg_cmp x y < 0 ↔ x.toInt < y.toInt := by
  unfold lg_cmp
  by_cases h1 : x > y
  · rw [if_pos h1]
    have := Int64.lt_iff_toInt_lt.mp h1
    constructor
    · intro q; exact absurd q (by decide)
    · intro q; omega
  · rw [if_neg h1]
    by_cases h2 : x = y
    · rw [if_pos h2, h2]
      constructor
      · intro q; exact absurd q (by decide)
      · intro q; omega
    · rw [if_neg h2]
      have h3 : ¬ y.toInt < x.toInt := fun q => h1 (Int64.lt_iff_toInt_lt.mpr q)
      have h4 : x.toInt ≠ y.toInt := fun q => h2 (Int64.toInt_inj.mp q)
      constructor
      · intro _; omega
      · intro _; decide
theorem xcmp_gt (x y : Int64) : 0 < lg_cmp x y ↔ y.toInt < x.toInt := by
  unfold lg_cmp
  by_cases h1 : x > y
  · rw [if_pos h1]
    have := Int64.lt_iff_toInt_lt.mp h1
    constructor
    · intro _; exact this
    · intro _; decide
  · rw [if_neg h1]
    have h3 : ¬ y.toInt < x.toInt := fun q => h1 (Int64.lt_iff_toInt_lt.mpr q)
    by_cases h2 : x = y
    · rw [if_pos h2]
      constructor
      · intro q; exact absurd q (by decide)
      · intro q; omega
    · rw [if_neg h2]
      constructor
      · intro q; exact absurd q (by decide)
      · intro q; omega
theorem xcmp_eq (x y : Int64) : lg_cmp x y = 0 ↔ x.toInt = y.toInt := by
  have h1 := xcmp_lt x y
  have h2 := xcmp_gt x y
  constructor
  · intro e
    rw [e] at h1 h2
    have a1 : ¬ x.toInt < y.toInt := fun q => absurd (h1.mpr q) (by decide)
    have a2 : ¬ y.toInt < x.toInt := fun q => absurd (h2.mpr q) (by decide)
    omega
  · intro e
    have : x = y := Int64.toInt_inj.mp e
    subst this
    unfold lg_cmp
    rw [if_neg (by show ¬ x < x; rw [Int64.lt_iff_toInt_lt]; omega), if_pos rfl]
theorem Ax_ifltC {x y : Int64} {off : Int} {tgt : Nat} (hd : decode M.2.2.1 pc = .ok (.ifCond .lt off, 3)) (ht : (pc : Int) + off = (tgt : Int)) (kt : x.toInt < y.toInt → Ax G M d b tgt L st h Q) (kf : y.toInt ≤ x.toInt → Ax G M d b (pc + 3) L st h Q) : Ax G M d b pc L (.int (lg_cmp x y) :: st) h Q :=
  Ax_iflt hd ht (fun q => kt ((xcmp_lt x y).mp q)) (fun q => kf (Int.not_lt.mp (mt (xcmp_lt x y).mpr q)))
theorem Ax_ifgeC {x y : Int64} {off : Int} {tgt : Nat} (hd : decode M.2.2.1 pc = .ok (.ifCond .ge off, 3)) (ht : (pc : Int) + off = (tgt : Int)) (kt : y.toInt ≤ x.toInt → Ax G M d b tgt L st h Q) (kf : x.toInt < y.toInt → Ax G M d b (pc + 3) L st h Q) : Ax G M d b pc L (.int (lg_cmp x y) :: st) h Q :=
  Ax_ifge hd ht (fun q => kt (Int.not_lt.mp (mt (xcmp_lt x y).mpr (Int32.not_lt.mpr q)))) (fun q => kf ((xcmp_lt x y).mp (Int32.not_le.mp q)))
theorem Ax_ifgtC {x y : Int64} {off : Int} {tgt : Nat} (hd : decode M.2.2.1 pc = .ok (.ifCond .gt off, 3)) (ht : (pc : Int) + off = (tgt : Int)) (kt : y.toInt < x.toInt → Ax G M d b tgt L st h Q) (kf : x.toInt ≤ y.toInt → Ax G M d b (pc + 3) L st h Q) : Ax G M d b pc L (.int (lg_cmp x y) :: st) h Q :=
  Ax_ifgt hd ht (fun q => kt ((xcmp_gt x y).mp q)) (fun q => kf (Int.not_lt.mp (mt (xcmp_gt x y).mpr q)))
theorem Ax_ifleC {x y : Int64} {off : Int} {tgt : Nat} (hd : decode M.2.2.1 pc = .ok (.ifCond .le off, 3)) (ht : (pc : Int) + off = (tgt : Int)) (kt : x.toInt ≤ y.toInt → Ax G M d b tgt L st h Q) (kf : y.toInt < x.toInt → Ax G M d b (pc + 3) L st h Q) : Ax G M d b pc L (.int (lg_cmp x y) :: st) h Q :=
  Ax_ifle hd ht (fun q => kt (Int.not_lt.mp (mt (xcmp_gt x y).mpr (Int32.not_lt.mpr q)))) (fun q => kf ((xcmp_gt x y).mp (Int32.not_le.mp q)))
theorem Ax_ifeqC {x y : Int64} {off : Int} {tgt : Nat} (hd : decode M.2.2.1 pc = .ok (.ifCond .eq off, 3)) (ht : (pc : Int) + off = (tgt : Int)) (kt : x.toInt = y.toInt → Ax G M d b tgt L st h Q) (kf : x.toInt ≠ y.toInt → Ax G M d b (pc + 3) L st h Q) : Ax G M d b pc L (.int (lg_cmp x y) :: st) h Q :=
  Ax_ifeq hd ht (fun q => kt ((xcmp_eq x y).mp q)) (fun q => kf (mt (xcmp_eq x y).mpr q))
theorem Ax_ifneC {x y : Int64} {off : Int} {tgt : Nat} (hd : decode M.2.2.1 pc = .ok (.ifCond .ne off, 3)) (ht : (pc : Int) + off = (tgt : Int)) (kt : x.toInt ≠ y.toInt → Ax G M d b tgt L st h Q) (kf : x.toInt = y.toInt → Ax G M d b (pc + 3) L st h Q) : Ax G M d b pc L (.int (lg_cmp x y) :: st) h Q :=
  Ax_ifne hd ht (fun q => kt (mt (xcmp_eq x y).mpr q)) (fun q => kf ((xcmp_eq x y).mp q))
theorem Ax_ifeqB {bb : Bool} {off : Int} {tgt : Nat} (hd : decode M.2.2.1 pc = .ok (.ifCond .eq off, 3)) (ht : (pc : Int) + off = (tgt : Int)) (kt : bb = false → Ax G M d b tgt L st h Q) (kf : bb = true → Ax G M d b (pc + 3) L st h Q) : Ax G M d b pc L (.int (nI bb.toNat) :: st) h Q := by
  cases bb
  · exact Ax_ifeq hd ht (fun _ => kt rfl) (fun q => absurd rfl q)
  · exact Ax_ifeq hd ht (fun q => absurd q (by decide)) (fun _ => kf rfl)
theorem Ax_ifneB {bb : Bool} {off : Int} {tgt : Nat} (hd : decode M.2.2.1 pc = .ok (.ifCond .ne off, 3)) (ht : (pc : Int) + off = (tgt : Int)) (kt : bb = true → Ax G M d b tgt L st h Q) (kf : bb = false → Ax G M d b (pc + 3) L st h Q) : Ax G M d b pc L (.int (nI bb.toNat) :: st) h Q := by
  cases bb
  · exact Ax_ifne hd ht (fun q => absurd rfl q) (fun _ => kf rfl)
  · exact Ax_ifne hd ht (fun _ => kt rfl) (fun q => absurd q (by decide))
end
end
section
/-! words of the abstract side: loops over places, answers -/
def fst (p : Nat → Bool) : Nat → Nat → Option Nat
  | 0, _ => none
  | n + 1, k => if p k = true then some k else fst p n (k + 1)
def oI : Option Nat → Int32
  | none => -1
  | some k => nI k
theorem fst_some {p : Nat → Bool} : ∀ (n k j : Nat), fst p n k = some j → k ≤ j ∧ j < k + n ∧ p j = true ∧ ∀ i, k ≤ i → i < j → p i = false
  | 0, k, j, h => by simp [fst] at h
  | n + 1, k, j, h => by
    rw [fst] at h
    by_cases hp : p k = true
    · rw [if_pos hp] at h
      cases h
      exact ⟨Nat.le_refl _, by omega, hp, fun i h1 h2 => by omega⟩
    · rw [if_neg hp] at h
      obtain ⟨h1, h2, h3, h4⟩ := fst_some n (k + 1) j h
      refine ⟨by omega, by omega, h3, fun i g1 g2 => ?_⟩
      by_cases hik : i = k
      · subst hik; simpa using hp
      · exact h4 i (by omega) g2
theorem fst_none {p : Nat → Bool} : ∀ (n k : Nat), fst p n k = none → ∀ i, k ≤ i → i < k + n → p i = false
  | 0, k, _, i, h1, h2 => by omega
  | n + 1, k, h, i, h1, h2 => by
    rw [fst] at h
    by_cases hp : p k = true
    · rw [if_pos hp] at h; cases h
    · rw [if_neg hp] at h
      by_cases hik : i = k
      · subst hik; simpa using hp
      · exact fst_none n (k + 1) h i (by omega) (by omega)
theorem fst_of {p : Nat → Bool} : ∀ (n k j : Nat), k ≤ j → j < k + n → p j = true → (∀ i, k ≤ i → i < j → p i = false) → fst p n k = some j
  | 0, k, j, h1, h2, _, _ => by omega
  | n + 1, k, j, h1, h2, h3, h4 => by
    rw [fst]
    by_cases hkj : k = j
    · subst hkj; rw [if_pos h3]
    · rw [if_neg (by rw [h4 k (Nat.le_refl _) (by omega)]; decide)]
      exact fst_of n (k + 1) j (by omega) (by omega) h3 (fun i g1 g2 => h4 i (by omega) g2)
theorem fst_no {p : Nat → Bool} : ∀ (n k : Nat), (∀ i, k ≤ i → i < k + n → p i = false) → fst p n k = none
  | 0, k, _ => rfl
  | n + 1, k, h => by
    rw [fst, if_neg (by rw [h k (Nat.le_refl _) (by omega)]; decide)]
    exact fst_no n (k + 1) (fun i g1 g2 => h i (by omega) (by omega))
theorem x_ix {i : Int32} {n : Nat} (h0 : ¬ i < 0) (h1 : ¬ nI n ≤ i) (hn : n < 2 ^ 31) : ∃ k : Nat, k < n ∧ i = nI k := by
  rcases pk_ix i hn with q | q | q
  · exact absurd q h0
  · exact absurd q h1
  · exact q
theorem x_lt {i : Int32} {n : Nat} (h0 : ¬ i < 0) (h1 : i < nI n) (hn : n < 2 ^ 31) : ∃ k : Nat, k < n ∧ i = nI k :=
  x_ix h0 (fun q => by simp only [Int32.lt_iff_toInt_lt, Int32.le_iff_toInt_le] at h1 q; omega) hn
def gIn (n : Nat) (i : Int32) : Bool := decide (¬ i < 0 ∧ ¬ nI n ≤ i)
theorem gIn_f {n : Nat} {i : Int32} (h : i < 0 ∨ nI n ≤ i) : gIn n i = false := by
  unfold gIn
  rw [decide_eq_false_iff_not]
  rintro ⟨h1, h2⟩
  exact h.elim h1 h2
theorem gIn_n {n k : Nat} (h : k < n) (hn : n < 2 ^ 31) : gIn n (nI k) = true := by
  unfold gIn
  rw [decide_eq_true_eq]
  exact ⟨nI_pos (by omega), nI_ge h hn⟩
theorem x_tab4 (x : Int32) : x = nI 0 ∨ x = nI 1 ∨ x = nI 2 ∨ x = nI 3 ∨ (x.toInt < 0 ∨ 3 < x.toInt) := by
  by_cases h : x.toInt < 0 ∨ 3 < x.toInt
  · exact Or.inr (Or.inr (Or.inr (Or.inr h)))
  · have h1 : x.toInt = 0 ∨ x.toInt = 1 ∨ x.toInt = 2 ∨ x.toInt = 3 := by omega
    rcases h1 with h1 | h1 | h1 | h1
    · exact Or.inl (Int32.toInt_inj.mp h1)
    · exact Or.inr (Or.inl (Int32.toInt_inj.mp h1))
    · exact Or.inr (Or.inr (Or.inl (Int32.toInt_inj.mp h1)))
    · exact Or.inr (Or.inr (Or.inr (Or.inl (Int32.toInt_inj.mp h1))))
theorem x_ne4 {x : Int32} (h : x.toInt < 0 ∨ 3 < x.toInt) : x ≠ nI 0 ∧ x ≠ nI 1 ∧ x ≠ nI 2 ∧ x ≠ nI 3 := by
  have a0 : (nI 0).toInt = 0 := rfl
  have a1 : (nI 1).toInt = 1 := rfl
  have a2 : (nI 2).toInt = 2 := rfl
  have a3 : (nI 3).toInt = 3 := rfl
  refine ⟨fun e => ?_, fun e => ?_, fun e => ?_, fun e => ?_⟩ <;> subst e <;> omega
/-- one of four by its number -/
def g4 (what a b c d : Int32) : Int32 := if what = nI 0 then a else if what = nI 1 then b else if what = nI 2 then c else if what = nI 3 then d else -102
end
section
/-! pasted families of numbers -/
theorem wb_tb (n : Nat) : (lN n).toBitVec = BitVec.ofNat 64 n := rfl
theorem wb_inj {a b : Int64} (h : a.toBitVec = b.toBitVec) : a = b := Int64.toBitVec_inj.mp h
theorem wb_tn {n : Nat} (h : n < 2 ^ 64) : (lN n).toBitVec.toNat = n := by rw [wb_tb, BitVec.toNat_ofNat, Nat.mod_eq_of_lt h]
theorem wb_of (x : Int64) : ∃ n, n < 2 ^ 64 ∧ x = lN n := ⟨x.toBitVec.toNat, x.toBitVec.isLt, wb_inj (by rw [wb_tb]; simp)⟩
theorem wb_of32 (x : Int32) : ∃ n, n < 2 ^ 32 ∧ x = nI n := ⟨x.toBitVec.toNat, x.toBitVec.isLt, Int32.toBitVec_inj.mp (by show _ = BitVec.ofNat 32 _; simp)⟩
theorem wb_c : ∀ k, k < 64 → ((nI k).toInt64 &&& 63) = lN k := by decide +kernel
theorem wb_cu : ∀ k, k < 64 → ((nI k).toInt64.toUInt64 &&& Int64.toUInt64 63) = UInt64.ofNat k := by decide +kernel
theorem wb_sm : ∀ k, k < 64 → (BitVec.ofNat 64 k).smod 64 = BitVec.ofNat 64 k := by decide +kernel
theorem wb_pw {a b : Nat} (h : a ≤ b) : 2 ^ b = 2 ^ a * 2 ^ (b - a) := by rw [← Nat.pow_add]; congr 1; omega
theorem wb_lt2 {a b : Nat} (h : a < b) : 2 ^ a < 2 ^ b := Nat.pow_lt_pow_right (by decide) h
theorem wb_mod (n : Nat) : lN n = lN (n % 2 ^ 64) := wb_inj (by rw [wb_tb, wb_tb]; apply BitVec.eq_of_toNat_eq; rw [BitVec.toNat_ofNat, BitVec.toNat_ofNat, Nat.mod_mod])
theorem wb_shr {n k : Nat} (hn : n < 2 ^ 64) (hk : k < 64) : ((lN n).toUInt64 >>> ((nI k).toInt64.toUInt64 &&& Int64.toUInt64 63)).toInt64 = lN (n / 2 ^ k) := by
  rw [wb_cu k hk]
  apply wb_inj
  apply BitVec.eq_of_toNat_eq
  show ((lN n).toUInt64 >>> UInt64.ofNat k).toNat = (BitVec.ofNat 64 _).toNat
  have h1 : (UInt64.ofNat k).toNat = k := by
    show (BitVec.ofNat 64 k).toNat = k
    rw [BitVec.toNat_ofNat, Nat.mod_eq_of_lt (by omega)]
  have h2 : (lN n).toUInt64.toNat = n := wb_tn hn
  rw [UInt64.toNat_shiftRight, h1, h2, Nat.mod_eq_of_lt hk, Nat.shiftRight_eq_div_pow, BitVec.toNat_ofNat, Nat.mod_eq_of_lt (Nat.lt_of_le_of_lt (Nat.div_le_self _ _) hn)]
theorem wb_shl (n : Nat) {k : Nat} (hk : k < 64) : lN n <<< ((nI k).toInt64 &&& 63) = lN (n * 2 ^ k) := by
  rw [wb_c k hk]
  apply wb_inj
  rw [Int64.toBitVec_shiftLeft, wb_tb, wb_tb, wb_tb, wb_sm k hk]
  apply BitVec.eq_of_toNat_eq
  rw [BitVec.shiftLeft_eq', BitVec.toNat_shiftLeft, BitVec.toNat_ofNat, BitVec.toNat_ofNat, BitVec.toNat_ofNat, Nat.mod_eq_of_lt (show k < 2 ^ 64 by omega), Nat.shiftLeft_eq, Nat.mul_mod, Nat.mod_mod, ← Nat.mul_mod]
theorem wb_and {a b : Nat} (ha : a < 2 ^ 64) (hb : b < 2 ^ 64) : lN a &&& lN b = lN (a &&& b) := by
  apply wb_inj
  rw [Int64.toBitVec_and, wb_tb, wb_tb, wb_tb]
  apply BitVec.eq_of_toNat_eq
  rw [BitVec.toNat_and, BitVec.toNat_ofNat, BitVec.toNat_ofNat, BitVec.toNat_ofNat, Nat.mod_eq_of_lt ha, Nat.mod_eq_of_lt hb, Nat.mod_eq_of_lt (Nat.and_lt_two_pow _ hb)]
theorem wb_or {a b : Nat} (ha : a < 2 ^ 64) (hb : b < 2 ^ 64) : lN a ||| lN b = lN (a ||| b) := by
  apply wb_inj
  rw [Int64.toBitVec_or, wb_tb, wb_tb, wb_tb]
  apply BitVec.eq_of_toNat_eq
  rw [BitVec.toNat_or, BitVec.toNat_ofNat, BitVec.toNat_ofNat, BitVec.toNat_ofNat, Nat.mod_eq_of_lt ha, Nat.mod_eq_of_lt hb, Nat.mod_eq_of_lt (Nat.or_lt_two_pow ha hb)]
theorem wb_mask {n k : Nat} (hn : n < 2 ^ 64) (hk : k < 64) : lN n &&& lN (2 ^ k - 1) = lN (n % 2 ^ k) := by
  rw [wb_and hn (by have := wb_lt2 hk; omega), Nat.and_two_pow_sub_one_eq_mod]
theorem wb_a1 {n : Nat} (hn : n < 2 ^ 64) : lN n &&& 1 = lN (n % 2) := wb_mask (k := 1) hn (by decide)
theorem wb_bit {n k : Nat} (hn : n < 2 ^ 64) (hk : k < 64) : ((lN n).toUInt64 >>> ((nI k).toInt64.toUInt64 &&& Int64.toUInt64 63)).toInt64 &&& 1 = lN (n / 2 ^ k % 2) := by
  rw [wb_shr hn hk, wb_a1 (Nat.lt_of_le_of_lt (Nat.div_le_self _ _) hn)]
theorem fa_and (a b : Nat) : nI a &&& nI b = nI (a &&& b) := by
  apply Int32.toBitVec_inj.1
  show BitVec.ofNat 32 a &&& BitVec.ofNat 32 b = BitVec.ofNat 32 (a &&& b)
  apply BitVec.eq_of_getLsbD_eq
  intro i hi
  simp [hi]
theorem fa_or (a b : Nat) : nI a ||| nI b = nI (a ||| b) := by
  apply Int32.toBitVec_inj.1
  show BitVec.ofNat 32 a ||| BitVec.ofNat 32 b = BitVec.ofNat 32 (a ||| b)
  apply BitVec.eq_of_getLsbD_eq
  intro i hi
  simp [hi]
/-! how many bits: the steps of Integer.bitCount, of numbers below 65536 -/
def pop : Nat → Nat → Nat
  | 0, _ => 0
  | k + 1, n => n % 2 + pop k (n / 2)
def bs1 (n : Nat) : Nat := n - (n / 2 &&& 1431655765)
def bs2 (n : Nat) : Nat := (n &&& 858993459) + (n / 4 &&& 858993459)
def bs3 (n : Nat) : Nat := (n + n / 16) &&& 252645135
def bs4 (n : Nat) : Nat := n + n / 256
def bs5 (n : Nat) : Nat := n + n / 65536
def bs6 (n : Nat) : Nat := n &&& 63
theorem and_low (x m k : Nat) (hm : m < 2 ^ k) : x &&& m = (x % 2 ^ k) &&& m := by
  have h1 : x &&& m < 2 ^ k := Nat.and_lt_two_pow _ hm
  have h2 := Nat.and_mod_two_pow (a := x) (b := m) (n := k)
  rw [Nat.mod_eq_of_lt h1, Nat.mod_eq_of_lt hm] at h2
  exact h2
theorem and_two (x m : Nat) : x &&& m = ((x % 256) &&& (m % 256)) + 256 * ((x / 256) &&& (m / 256)) := by
  have h1 := Nat.and_mod_two_pow (a := x) (b := m) (n := 8)
  have h2 := Nat.and_div_two_pow (a := x) (b := m) (n := 8)
  have h3 := Nat.mod_add_div (x &&& m) 256
  rw [show (2 : Nat) ^ 8 = 256 from rfl] at h1 h2
  rw [h1, h2] at h3
  exact h3.symm
theorem b_small : ∀ a, a < 256 → bs1 a < 256 ∧ bs2 (bs1 a) < 69 ∧ bs2 (bs1 a) % 16 < 5 ∧ bs3 (bs2 (bs1 a)) = bs2 (bs1 a) % 16 + bs2 (bs1 a) / 16 ∧ bs3 (bs2 (bs1 a)) = pop 8 a := by decide +kernel
theorem bs1_two {a c : Nat} (ha : a < 256) (hc : c < 256) : bs1 (a + 256 * c) = bs1 a + 256 * bs1 c := by
  unfold bs1
  have e1 : (a + 256 * c) / 2 &&& 1431655765 = (a / 2 &&& 85) + 256 * (c / 2 &&& 85) := by
    rw [and_two]
    have e2 : (a + 256 * c) / 2 % 256 &&& 1431655765 % 256 = a / 2 &&& 85 := by
      rw [show 1431655765 % 256 = 85 from rfl, and_low _ 85 7 (by decide)]
      congr 1
      omega
    have e3 : (a + 256 * c) / 2 / 256 &&& 1431655765 / 256 = c / 2 &&& 85 := by
      rw [show (a + 256 * c) / 2 / 256 = c / 2 by omega, show 1431655765 / 256 = 5592405 from rfl, Nat.and_comm, and_low 5592405 (c / 2) 7 (by omega), Nat.and_comm]
    rw [e2, e3]
  have f : ∀ x : Nat, x < 256 → x / 2 &&& 1431655765 = x / 2 &&& 85 := by
    intro x hx
    rw [Nat.and_comm, and_low 1431655765 (x / 2) 7 (by omega), Nat.and_comm]
  rw [e1, f a ha, f c hc]
  have h1 : a / 2 &&& 85 ≤ a / 2 := Nat.and_le_left
  have h2 : c / 2 &&& 85 ≤ c / 2 := Nat.and_le_left
  omega
theorem bs2_two {a c : Nat} (ha : a < 256) (hc : c < 256) : bs2 (a + 256 * c) = bs2 a + 256 * bs2 c := by
  unfold bs2
  have f : ∀ x : Nat, x < 256 → x &&& 858993459 = x &&& 51 := by
    intro x hx
    rw [Nat.and_comm, and_low 858993459 x 8 (by omega), Nat.and_comm]
  have e1 : (a + 256 * c) &&& 858993459 = (a &&& 51) + 256 * (c &&& 51) := by
    rw [and_two, show (a + 256 * c) % 256 = a by omega, show (a + 256 * c) / 256 = c by omega, show 858993459 % 256 = 51 from rfl, show 858993459 / 256 = 3355443 from rfl]
    congr 2
    rw [Nat.and_comm, and_low 3355443 c 8 (by omega), Nat.and_comm]
  have e4 : (a + 256 * c) / 4 &&& 858993459 = (a / 4 &&& 51) + 256 * (c / 4 &&& 51) := by
    rw [and_two]
    have e2 : (a + 256 * c) / 4 % 256 &&& 858993459 % 256 = a / 4 &&& 51 := by
      rw [show 858993459 % 256 = 51 from rfl, and_low _ 51 6 (by decide)]
      congr 1
      omega
    have e3 : (a + 256 * c) / 4 / 256 &&& 858993459 / 256 = c / 4 &&& 51 := by
      rw [show (a + 256 * c) / 4 / 256 = c / 4 by omega, show 858993459 / 256 = 3355443 from rfl, Nat.and_comm, and_low 3355443 (c / 4) 6 (by omega), Nat.and_comm]
    rw [e2, e3]
  rw [e1, e4, f a ha, f c hc, f (a / 4) (by omega), f (c / 4) (by omega)]
  omega
theorem pop_two {a c : Nat} (ha : a < 256) : pop 16 (a + 256 * c) = pop 8 a + pop 8 c := by
  have key : ∀ k a c : Nat, a < 2 ^ k → pop (k + 8) (a + 2 ^ k * c) = pop k a + pop 8 c := by
    intro k
    induction k with
    | zero => intro a c h; have : a = 0 := by simpa using h
              subst this; simp [pop]
    | succ k ih =>
      intro a c h
      rw [Nat.pow_succ] at h ⊢
      show (a + 2 ^ k * 2 * c) % 2 + pop (k + 8) ((a + 2 ^ k * 2 * c) / 2) = (a % 2 + pop k (a / 2)) + pop 8 c
      have e1 : (a + 2 ^ k * 2 * c) % 2 = a % 2 := by
        rw [show 2 ^ k * 2 * c = 2 * (2 ^ k * c) by ac_rfl]; omega
      have e2 : (a + 2 ^ k * 2 * c) / 2 = a / 2 + 2 ^ k * c := by
        rw [show 2 ^ k * 2 * c = 2 * (2 ^ k * c) by ac_rfl]; omega
      rw [e1, e2, ih (a / 2) c (by omega)]
      omega
  exact key 8 a c ha
theorem bs_pop {n : Nat} (h : n < 65536) : bs6 (bs5 (bs4 (bs3 (bs2 (bs1 n))))) = pop 16 n := by
  obtain ⟨a, c, ha, hc, rfl⟩ : ∃ a c, a < 256 ∧ c < 256 ∧ n = a + 256 * c := ⟨n % 256, n / 256, by omega, by omega, by omega⟩
  obtain ⟨a1, a2, a3, a4, a5⟩ := b_small a ha
  obtain ⟨c1, c2, c3, c4, c5⟩ := b_small c hc
  rw [bs1_two ha hc, bs2_two a1 c1, pop_two ha, ← a5, ← c5, a4, c4]
  generalize bs2 (bs1 a) = x at *
  generalize bs2 (bs1 c) = y at *
  have e3 : bs3 (x + 256 * y) = (x % 16 + x / 16) + 256 * (y % 16 + y / 16) := by
    unfold bs3
    rw [and_two]
    have g : ∀ z w : Nat, z % 16 < 9 → z % 16 = w → z &&& 15 = w := by
      intro z w _ h2
      rw [show (15 : Nat) = 2 ^ 4 - 1 from rfl, Nat.and_two_pow_sub_one_eq_mod]
      exact h2
    have e1 : (x + 256 * y + (x + 256 * y) / 16) % 256 &&& 252645135 % 256 = x % 16 + x / 16 := by
      rw [show 252645135 % 256 = 15 from rfl]
      exact g _ _ (by omega) (by omega)
    have e2 : (x + 256 * y + (x + 256 * y) / 16) / 256 &&& 252645135 / 256 = y % 16 + y / 16 := by
      rw [show 252645135 / 256 = 986895 from rfl, show (x + 256 * y + (x + 256 * y) / 16) / 256 = y + y / 16 by omega, Nat.and_comm, and_low 986895 (y + y / 16) 8 (by omega), Nat.and_comm, show 986895 % 2 ^ 8 = 15 from rfl]
      exact g _ _ (by omega) (by omega)
    rw [e1, e2]
  rw [e3]
  have fin : ∀ p q : Nat, p < 9 → q < 9 → bs6 (bs5 (bs4 (p + 256 * q))) = p + q := by
    intro p q hp hq
    have e4 : bs4 (p + 256 * q) = p + 256 * q + q := by unfold bs4; omega
    have e5 : bs5 (p + 256 * q + q) = p + 256 * q + q := by unfold bs5; omega
    rw [e4, e5]
    unfold bs6
    rw [show (63 : Nat) = 2 ^ 6 - 1 from rfl, Nat.and_two_pow_sub_one_eq_mod]
    omega
  exact fin _ _ (by omega) (by omega)
theorem bs_v1 {n : Nat} (h : n < 65536) : nI n - (((nI n).toUInt32 >>> ((nI 1).toUInt32 &&& Int32.toUInt32 31)).toInt32 &&& 1431655765) = nI (bs1 n) := by
  rw [pk_ushrN (by omega) (nI 1) 1 (by decide), show (1431655765 : Int32) = nI 1431655765 from rfl, fa_and, pk_sub (Nat.le_trans Nat.and_le_left (Nat.div_le_self _ _))]
  rfl
theorem bs_l1 {n : Nat} (h : n < 65536) : bs1 n < 65536 := by unfold bs1; omega
theorem bs_v2 {n : Nat} (h : n < 65536) : (nI n &&& 858993459) + (((nI n).toUInt32 >>> ((nI 2).toUInt32 &&& Int32.toUInt32 31)).toInt32 &&& 858993459) = nI (bs2 n) := by
  rw [pk_ushrN (by omega) (nI 2) 2 (by decide), show (858993459 : Int32) = nI 858993459 from rfl, fa_and, fa_and, nI_add]
  rfl
theorem bs_l2 {n : Nat} : bs2 n < 1717986919 := by
  have h1 : n &&& 858993459 ≤ 858993459 := Nat.and_le_right
  have h2 : n / 4 &&& 858993459 ≤ 858993459 := Nat.and_le_right
  unfold bs2; omega
theorem bs_v3 {n : Nat} (h : n < 1717986919) : (nI n + ((nI n).toUInt32 >>> ((nI 4).toUInt32 &&& Int32.toUInt32 31)).toInt32) &&& 252645135 = nI (bs3 n) := by
  rw [pk_ushrN (by omega) (nI 4) 4 (by decide), show (252645135 : Int32) = nI 252645135 from rfl, nI_add, fa_and]
  rfl
theorem bs_l3 {n : Nat} : bs3 n < 252645136 := by
  have h1 : (n + n / 16) &&& 252645135 ≤ 252645135 := Nat.and_le_right
  unfold bs3; omega
theorem bs_v4 {n : Nat} (h : n < 252645136) : nI n + ((nI n).toUInt32 >>> ((nI 8).toUInt32 &&& Int32.toUInt32 31)).toInt32 = nI (bs4 n) := by
  rw [pk_ushrN (by omega) (nI 8) 8 (by decide), nI_add]
  rfl
theorem bs_l4 {n : Nat} (h : n < 252645136) : bs4 n < 505290272 := by unfold bs4; omega
theorem bs_v5 {n : Nat} (h : n < 505290272) : nI n + ((nI n).toUInt32 >>> ((nI 16).toUInt32 &&& Int32.toUInt32 31)).toInt32 = nI (bs5 n) := by
  rw [pk_ushrN (by omega) (nI 16) 16 (by decide), nI_add]
  rfl
theorem bs_v6 (n : Nat) : nI n &&& nI 63 = nI (bs6 n) := fa_and n 63
/-- one bit more -/
theorem pop_or : ∀ (k n t : Nat), t < k → pop k (n ||| 2 ^ t) = pop k n + if n.testBit t = true then 0 else 1
  | 0, n, t, h => by omega
  | k + 1, n, 0, h => by
    rw [pop, pop, Nat.pow_zero]
    have e1 : (n ||| 1) % 2 = 1 := by
      have : (n ||| 1).testBit 0 = true := by rw [Nat.testBit_or]; simp
      simpa [Nat.testBit_zero] using this
    have e2 : (n ||| 1) / 2 = n / 2 := by
      apply Nat.eq_of_testBit_eq
      intro i
      rw [Nat.testBit_div_two, Nat.testBit_div_two, Nat.testBit_or, show (1 : Nat) = 2 ^ 0 from rfl, Nat.testBit_two_pow]
      simp
    rw [e1, e2, Nat.testBit_zero]
    by_cases hb : n % 2 = 1
    · simp [hb]
    · have : n % 2 = 0 := by omega
      simp [this]
      omega
  | k + 1, n, t + 1, h => by
    rw [pop, pop]
    have e1 : (n ||| 2 ^ (t + 1)) % 2 = n % 2 := by
      have h2 : ∀ x : Nat, x % 2 = if x.testBit 0 = true then 1 else 0 := by
        intro x; rw [Nat.testBit_zero]; by_cases hx : x % 2 = 1 <;> simp [hx]; omega
      rw [h2, h2 n, Nat.testBit_or, Nat.testBit_two_pow]
      simp
    have e2 : (n ||| 2 ^ (t + 1)) / 2 = n / 2 ||| 2 ^ t := by
      apply Nat.eq_of_testBit_eq
      intro i
      rw [Nat.testBit_div_two, Nat.testBit_or, Nat.testBit_or, Nat.testBit_div_two, Nat.testBit_two_pow, Nat.testBit_two_pow]
      simp
    rw [e1, e2, pop_or k (n / 2) t (by omega), Nat.testBit_div_two]
    omega
/-- how many unlike numbers among T i .. T (i + n - 1) -/
def metB (T : Nat → Nat) (i k : Nat) : Bool := (fst (fun q => T q == T k) (k - i) i).isSome
def dcnt (T : Nat → Nat) (i : Nat) : Nat → Nat
  | 0 => 0
  | n + 1 => dcnt T i n + (metB T i (i + n)).not.toNat
def seenN (T : Nat → Nat) (i : Nat) : Nat → Nat
  | 0 => 0
  | n + 1 => seenN T i n ||| 2 ^ T (i + n)
theorem seen_bit {T : Nat → Nat} {i : Nat} : ∀ (n t : Nat), (seenN T i n).testBit t = true ↔ ∃ q, i ≤ q ∧ q < i + n ∧ T q = t
  | 0, t => by
    rw [seenN]
    constructor
    · intro h; simp at h
    · rintro ⟨q, h1, h2, -⟩; omega
  | n + 1, t => by
    rw [seenN, Nat.testBit_or, Bool.or_eq_true, seen_bit n t, Nat.testBit_two_pow, decide_eq_true_eq]
    constructor
    · rintro (⟨q, h1, h2, h3⟩ | h)
      · exact ⟨q, h1, by omega, h3⟩
      · exact ⟨i + n, by omega, by omega, h⟩
    · rintro ⟨q, h1, h2, h3⟩
      by_cases hq : q = i + n
      · right; rw [← h3, hq]
      · left; exact ⟨q, h1, by omega, h3⟩
theorem met_iff {T : Nat → Nat} {i k : Nat} (hk : i ≤ k) : metB T i k = true ↔ ∃ q, i ≤ q ∧ q < k ∧ T q = T k := by
  unfold metB
  cases h : fst (fun q => T q == T k) (k - i) i with
  | none =>
    have := fst_none _ _ h
    constructor
    · intro q; cases q
    · rintro ⟨q, h1, h2, h3⟩
      have := this q h1 (by omega)
      rw [h3] at this
      simp at this
  | some j =>
    obtain ⟨h1, h2, h3, -⟩ := fst_some _ _ _ h
    constructor
    · intro _; exact ⟨j, h1, by omega, eq_of_beq h3⟩
    · intro _; rfl
theorem dcnt_pop {T : Nat → Nat} {i : Nat} : ∀ n : Nat, (∀ q, i ≤ q → q < i + n → T q < 16) → pop 16 (seenN T i n) = dcnt T i n
  | 0, _ => by rw [seenN, dcnt]; decide
  | n + 1, h => by
    rw [seenN, dcnt, pop_or 16 _ _ (h (i + n) (by omega) (by omega)), dcnt_pop n (fun q h1 h2 => h q h1 (by omega))]
    have e := seen_bit (T := T) (i := i) n (T (i + n))
    have e2 := met_iff (T := T) (i := i) (k := i + n) (by omega)
    by_cases hb : metB T i (i + n) = true
    · rw [if_pos (e.mpr (e2.mp hb)), hb]; rfl
    · rw [if_neg (fun q => hb (e2.mpr (e.mp q))), Bool.eq_false_iff.mpr hb]; rfl
theorem seen_lt {T : Nat → Nat} {i : Nat} : ∀ n : Nat, (∀ q, i ≤ q → q < i + n → T q < 16) → seenN T i n < 65536
  | 0, _ => by rw [seenN]; decide
  | n + 1, h => by
    rw [seenN]
    exact Nat.or_lt_two_pow (n := 16) (seen_lt n (fun q h1 h2 => h q h1 (by omega))) (Nat.pow_lt_pow_right (by decide) (h (i + n) (by omega) (by omega)))
end
section
/-! Spans: the cells of an object at o -/
def vSp (h : xH) (o : Nat) (lo hi tg wt : Nat → Int32) (n : Int32) : Prop :=
  h.1 o = cO 2 [.ref (o + 1), .ref (o + 2), .ref (o + 3), .ref (o + 4), .int n] ∧ h.1 (o + 1) = cI 0 24 lo ∧ h.1 (o + 2) = cI 0 24 hi ∧ h.1 (o + 3) = cI 0 24 tg ∧ h.1 (o + 4) = cI 0 24 wt
def gHas (tg : Nat → Int32) (i : Int32) : Bool := gIn 24 i && tg i.toNatClampNeg != -1
section
variable {G : xG} {h : xH} {o : Nat} {lo hi tg wt : Nat → Int32} {n : Int32}
theorem gHas_n {k : Nat} (hk : k < 24) : gHas tg (nI k) = (tg k != -1) := by
  unfold gHas
  rw [gIn_n hk (by decide), nI_clamp (by omega)]
  rfl
theorem tX2_held (hS : vSp h o lo hi tg wt n) : AM G mX2_held 0 0 [.ref o] h (fun r h' => r = some (.int n) ∧ h' = h) := by
  obtain ⟨s, s0, s1, s2, s3⟩ := hS
  refine AM.of rfl rfl (Nat.le_of_ble_eq_true rfl) rfl ?_
  refine Ax_al0 dX2_held_0 ?_
  refine Ax_getf kfX2 fX2_24 dX2_held_1 s rfl ?_
  exact Ax_iret dX2_held_4 rfl rfl ⟨rfl, rfl⟩
theorem tX2_low (hS : vSp h o lo hi tg wt n) {k : Nat} (hk : k < 24) : AM G mX2_low 0 0 [.ref o, .int (nI k)] h (fun r h' => r = some (.int (lo k)) ∧ h' = h) := by
  obtain ⟨s, s0, s1, s2, s3⟩ := hS
  refine AM.of rfl rfl (Nat.le_of_ble_eq_true rfl) rfl ?_
  refine Ax_il1 dX2_low_0 ?_
  refine Ax_ifltn (tgt := 19) dX2_low_1 (by decide) (by omega) ?_
  refine Ax_il1 dX2_low_4 ?_
  refine Ax_bp24 dX2_low_5 ?_
  refine Ax_cmpgen (tgt := 19) dX2_low_7 (by decide) (by omega) (by omega) (fun c7 => ?_) (fun c7 => ?_)
  · omega
  · refine Ax_al0 dX2_low_10 ?_
    refine Ax_getf kfX2 fX2_9 dX2_low_11 s rfl ?_
    refine Ax_il1 dX2_low_14 ?_
    refine Ax_ialdn dX2_low_15 s0 (by omega) (by omega) ?_
    refine Ax_goto (tgt := 20) dX2_low_16 (by decide) ?_
    exact Ax_iret dX2_low_20 rfl rfl ⟨rfl, rfl⟩
theorem tX2_high (hS : vSp h o lo hi tg wt n) {k : Nat} (hk : k < 24) : AM G mX2_high 0 0 [.ref o, .int (nI k)] h (fun r h' => r = some (.int (hi k)) ∧ h' = h) := by
  obtain ⟨s, s0, s1, s2, s3⟩ := hS
  refine AM.of rfl rfl (Nat.le_of_ble_eq_true rfl) rfl ?_
  refine Ax_il1 dX2_high_0 ?_
  refine Ax_ifltn (tgt := 19) dX2_high_1 (by decide) (by omega) ?_
  refine Ax_il1 dX2_high_4 ?_
  refine Ax_bp24 dX2_high_5 ?_
  refine Ax_cmpgen (tgt := 19) dX2_high_7 (by decide) (by omega) (by omega) (fun c7 => ?_) (fun c7 => ?_)
  · omega
  · refine Ax_al0 dX2_high_10 ?_
    refine Ax_getf kfX2 fX2_15 dX2_high_11 s rfl ?_
    refine Ax_il1 dX2_high_14 ?_
    refine Ax_ialdn dX2_high_15 s1 (by omega) (by omega) ?_
    refine Ax_goto (tgt := 20) dX2_high_16 (by decide) ?_
    exact Ax_iret dX2_high_20 rfl rfl ⟨rfl, rfl⟩
theorem tX2_target (hS : vSp h o lo hi tg wt n) {k : Nat} (hk : k < 24) : AM G mX2_target 0 0 [.ref o, .int (nI k)] h (fun r h' => r = some (.int (tg k)) ∧ h' = h) := by
  obtain ⟨s, s0, s1, s2, s3⟩ := hS
  refine AM.of rfl rfl (Nat.le_of_ble_eq_true rfl) rfl ?_
  refine Ax_il1 dX2_target_0 ?_
  refine Ax_ifltn (tgt := 19) dX2_target_1 (by decide) (by omega) ?_
  refine Ax_il1 dX2_target_4 ?_
  refine Ax_bp24 dX2_target_5 ?_
  refine Ax_cmpgen (tgt := 19) dX2_target_7 (by decide) (by omega) (by omega) (fun c7 => ?_) (fun c7 => ?_)
  · omega
  · refine Ax_al0 dX2_target_10 ?_
    refine Ax_getf kfX2 fX2_18 dX2_target_11 s rfl ?_
    refine Ax_il1 dX2_target_14 ?_
    refine Ax_ialdn dX2_target_15 s2 (by omega) (by omega) ?_
    refine Ax_goto (tgt := 20) dX2_target_16 (by decide) ?_
    exact Ax_iret dX2_target_20 rfl rfl ⟨rfl, rfl⟩
theorem tX2_weight (hS : vSp h o lo hi tg wt n) {k : Nat} (hk : k < 24) : AM G mX2_weight 0 0 [.ref o, .int (nI k)] h (fun r h' => r = some (.int (wt k)) ∧ h' = h) := by
  obtain ⟨s, s0, s1, s2, s3⟩ := hS
  refine AM.of rfl rfl (Nat.le_of_ble_eq_true rfl) rfl ?_
  refine Ax_il1 dX2_weight_0 ?_
  refine Ax_ifltn (tgt := 19) dX2_weight_1 (by decide) (by omega) ?_
  refine Ax_il1 dX2_weight_4 ?_
  refine Ax_bp24 dX2_weight_5 ?_
  refine Ax_cmpgen (tgt := 19) dX2_weight_7 (by decide) (by omega) (by omega) (fun c7 => ?_) (fun c7 => ?_)
  · omega
  · refine Ax_al0 dX2_weight_10 ?_
    refine Ax_getf kfX2 fX2_21 dX2_weight_11 s rfl ?_
    refine Ax_il1 dX2_weight_14 ?_
    refine Ax_ialdn dX2_weight_15 s3 (by omega) (by omega) ?_
    refine Ax_goto (tgt := 20) dX2_weight_16 (by decide) ?_
    exact Ax_iret dX2_weight_20 rfl rfl ⟨rfl, rfl⟩
theorem tX2_has (hS : vSp h o lo hi tg wt n) (i : Int32) : AM G mX2_has 0 0 [.ref o, .int i] h (fun r h' => r = some (.int (nI (gHas tg i).toNat)) ∧ h' = h) := by
  obtain ⟨s, s0, s1, s2, s3⟩ := hS
  refine AM.of rfl rfl (Nat.le_of_ble_eq_true rfl) rfl ?_
  refine Ax_il1 dX2_has_0 ?_
  refine Ax_iflt (tgt := 24) dX2_has_1 (by decide) (fun c1 => ?_) (fun c1 => ?_)
  · have e : gHas tg i = false := by unfold gHas; rw [gIn_f (Or.inl c1)]; rfl
    rw [e]
    refine Ax_ic0 dX2_has_24 ?_
    exact Ax_iret dX2_has_25 rfl (by decide) ⟨rfl, rfl⟩
  refine Ax_il1 dX2_has_4 ?_
  refine Ax_bp24 dX2_has_5 ?_
  refine Ax_cmpge (tgt := 24) dX2_has_7 (by decide) (fun c7 => ?_) (fun c7 => ?_)
  · have e : gHas tg i = false := by unfold gHas; rw [gIn_f (Or.inr c7)]; rfl
    rw [e]
    refine Ax_ic0 dX2_has_24 ?_
    exact Ax_iret dX2_has_25 rfl (by decide) ⟨rfl, rfl⟩
  obtain ⟨k, hk, rfl⟩ := x_ix c1 c7 (by decide)
  rw [gHas_n hk]
  refine Ax_al0 dX2_has_10 ?_
  refine Ax_getf kfX2 fX2_18 dX2_has_11 s rfl ?_
  refine Ax_il1 dX2_has_14 ?_
  refine Ax_ialdn dX2_has_15 s2 (by omega) (by omega) ?_
  refine Ax_icm1 dX2_has_16 ?_
  refine Ax_cmpeq (tgt := 24) dX2_has_17 (by decide) (fun c17 => ?_) (fun c17 => ?_)
  · rw [c17]
    refine Ax_ic0 dX2_has_24 ?_
    exact Ax_iret dX2_has_25 rfl (by decide) ⟨rfl, rfl⟩
  · rw [show (tg k != -1) = true from bne_iff_ne.mpr c17]
    refine Ax_ic1 dX2_has_20 ?_
    refine Ax_goto (tgt := 25) dX2_has_21 (by decide) ?_
    exact Ax_iret dX2_has_25 rfl (by decide) ⟨rfl, rfl⟩
theorem tX2_firstFree (hS : vSp h o lo hi tg wt n) : AM G mX2_firstFree 0 0 [.ref o] h (fun r h' => r = some (.int (oI (fst (fun k => tg k == -1) 24 0))) ∧ h' = h) := by
  obtain ⟨s, s0, s1, s2, s3⟩ := hS
  refine AM.of rfl rfl (Nat.le_of_ble_eq_true rfl) rfl ?_
  refine Ax_ic0 dX2_firstFree_0 ?_
  refine Ax_is1 dX2_firstFree_1 (Nat.le_of_ble_eq_true rfl) (by rfl) ?_
  suffices hloop : ∀ m k, k + m = 24 → fst (fun k => tg k == -1) m k = fst (fun k => tg k == -1) 24 0 → Ax G mX2_firstFree 0 0 2 [.ref o, .int (nI k)] [] h (fun r h' => r = some (.int (oI (fst (fun k => tg k == -1) 24 0))) ∧ h' = h) from hloop 24 0 rfl rfl
  intro m
  induction m with
  | zero =>
    intro k hk hf
    obtain rfl : k = 24 := by omega
    rw [← hf]
    refine Ax_il1 dX2_firstFree_2 ?_
    refine Ax_bp24 dX2_firstFree_3 ?_
    refine Ax_cmpgen (tgt := 26) dX2_firstFree_5 (by decide) (by omega) (by omega) (fun c5 => ?_) (fun c5 => ?_)
    · refine Ax_icm1 dX2_firstFree_26 ?_
      exact Ax_iret dX2_firstFree_27 rfl rfl ⟨rfl, rfl⟩
    · omega
  | succ m ih =>
    intro k hk hf
    rw [fst] at hf
    refine Ax_il1 dX2_firstFree_2 ?_
    refine Ax_bp24 dX2_firstFree_3 ?_
    refine Ax_cmpgen (tgt := 26) dX2_firstFree_5 (by decide) (by omega) (by omega) (fun c5 => ?_) (fun c5 => ?_)
    · omega
    refine Ax_al0 dX2_firstFree_8 ?_
    refine Ax_getf kfX2 fX2_18 dX2_firstFree_9 s rfl ?_
    refine Ax_il1 dX2_firstFree_12 ?_
    refine Ax_ialdn dX2_firstFree_13 s2 (by omega) (by omega) ?_
    refine Ax_icm1 dX2_firstFree_14 ?_
    refine Ax_cmpne (tgt := 20) dX2_firstFree_15 (by decide) (fun c15 => ?_) (fun c15 => ?_)
    · rw [if_neg (by simpa using c15)] at hf
      refine Ax_inc1_1n dX2_firstFree_20 (Nat.le_of_ble_eq_true rfl) (by rfl) ?_
      refine Ax_goto (tgt := 2) dX2_firstFree_23 (by decide) ?_
      exact ih (k + 1) (by omega) hf
    · rw [if_pos (by simpa using c15)] at hf
      rw [← hf]
      refine Ax_il1 dX2_firstFree_18 ?_
      exact Ax_iret dX2_firstFree_19 rfl rfl ⟨rfl, rfl⟩
theorem tX2_firstMeeting (hS : vSp h o lo hi tg wt n) (low high : Int32) : AM G mX2_firstMeeting 0 0 [.ref o, .int low, .int high] h (fun r h' => r = some (.int (oI (fst (fun k => tg k != -1 && decide (lo k ≤ high) && decide (low ≤ hi k)) 24 0))) ∧ h' = h) := by
  obtain ⟨s, s0, s1, s2, s3⟩ := hS
  refine AM.of rfl rfl (Nat.le_of_ble_eq_true rfl) rfl ?_
  refine Ax_ic0 dX2_firstMeeting_0 ?_
  refine Ax_is3 dX2_firstMeeting_1 (Nat.le_of_ble_eq_true rfl) (by rfl) ?_
  generalize hp : (fun k => tg k != -1 && decide (lo k ≤ high) && decide (low ≤ hi k)) = p
  suffices hloop : ∀ m k, k + m = 24 → fst p m k = fst p 24 0 → Ax G mX2_firstMeeting 0 0 2 [.ref o, .int low, .int high, .int (nI k)] [] h (fun r h' => r = some (.int (oI (fst p 24 0))) ∧ h' = h) from hloop 24 0 rfl rfl
  intro m
  induction m with
  | zero =>
    intro k hk hf
    obtain rfl : k = 24 := by omega
    rw [← hf]
    refine Ax_il3 dX2_firstMeeting_2 ?_
    refine Ax_bp24 dX2_firstMeeting_3 ?_
    refine Ax_cmpgen (tgt := 46) dX2_firstMeeting_5 (by decide) (by omega) (by omega) (fun c5 => ?_) (fun c5 => ?_)
    · refine Ax_icm1 dX2_firstMeeting_46 ?_
      exact Ax_iret dX2_firstMeeting_47 rfl rfl ⟨rfl, rfl⟩
    · omega
  | succ m ih =>
    intro k hk hf
    rw [fst] at hf
    have hpk : p k = (tg k != -1 && decide (lo k ≤ high) && decide (low ≤ hi k)) := by rw [← hp]
    have hno : p k = false → Ax G mX2_firstMeeting 0 0 40 [.ref o, .int low, .int high, .int (nI k)] [] h (fun r h' => r = some (.int (oI (fst p 24 0))) ∧ h' = h) := by
      intro hpf
      rw [if_neg (by rw [hpf]; decide)] at hf
      refine Ax_inc3_1n dX2_firstMeeting_40 (Nat.le_of_ble_eq_true rfl) (by rfl) ?_
      refine Ax_goto (tgt := 2) dX2_firstMeeting_43 (by decide) ?_
      exact ih (k + 1) (by omega) hf
    refine Ax_il3 dX2_firstMeeting_2 ?_
    refine Ax_bp24 dX2_firstMeeting_3 ?_
    refine Ax_cmpgen (tgt := 46) dX2_firstMeeting_5 (by decide) (by omega) (by omega) (fun c5 => ?_) (fun c5 => ?_)
    · omega
    refine Ax_al0 dX2_firstMeeting_8 ?_
    refine Ax_getf kfX2 fX2_18 dX2_firstMeeting_9 s rfl ?_
    refine Ax_il3 dX2_firstMeeting_12 ?_
    refine Ax_ialdn dX2_firstMeeting_13 s2 (by omega) (by omega) ?_
    refine Ax_icm1 dX2_firstMeeting_14 ?_
    refine Ax_cmpeq (tgt := 40) dX2_firstMeeting_15 (by decide) (fun c15 => ?_) (fun c15 => ?_)
    · exact hno (by rw [hpk, c15]; rfl)
    refine Ax_al0 dX2_firstMeeting_18 ?_
    refine Ax_getf kfX2 fX2_9 dX2_firstMeeting_19 s rfl ?_
    refine Ax_il3 dX2_firstMeeting_22 ?_
    refine Ax_ialdn dX2_firstMeeting_23 s0 (by omega) (by omega) ?_
    refine Ax_il2 dX2_firstMeeting_24 ?_
    refine Ax_cmpgt (tgt := 40) dX2_firstMeeting_25 (by decide) (fun c25 => ?_) (fun c25 => ?_)
    · exact hno (by rw [hpk, decide_eq_false (Int32.not_le.mpr c25)]; simp)
    refine Ax_il1 dX2_firstMeeting_28 ?_
    refine Ax_al0 dX2_firstMeeting_29 ?_
    refine Ax_getf kfX2 fX2_15 dX2_firstMeeting_30 s rfl ?_
    refine Ax_il3 dX2_firstMeeting_33 ?_
    refine Ax_ialdn dX2_firstMeeting_34 s1 (by omega) (by omega) ?_
    refine Ax_cmpgt (tgt := 40) dX2_firstMeeting_35 (by decide) (fun c35 => ?_) (fun c35 => ?_)
    · exact hno (by rw [hpk, decide_eq_false (Int32.not_le.mpr c35)]; simp)
    rw [if_pos (by rw [hpk, bne_iff_ne.mpr c15, decide_eq_true (Int32.not_lt.mp c25), decide_eq_true (Int32.not_lt.mp c35)]; rfl)] at hf
    rw [← hf]
    refine Ax_il3 dX2_firstMeeting_38 ?_
    exact Ax_iret dX2_firstMeeting_39 rfl rfl ⟨rfl, rfl⟩
end
end
section
/-- nothing but the cells o .. o + w - 1 is touched -/
def xFr (o w : Nat) (h h' : xH) : Prop := (∀ q, (q < o ∨ o + w ≤ q) → h'.1 q = h.1 q) ∧ h'.2 = h.2
theorem xFr.rf {o w : Nat} {h : xH} : xFr o w h h := ⟨fun _ _ => rfl, rfl⟩
theorem xFr.tr {o w : Nat} {h h' h'' : xH} (a : xFr o w h h') (b : xFr o w h' h'') : xFr o w h h'' := ⟨fun q hq => (b.1 q hq).trans (a.1 q hq), b.2.trans a.2⟩
theorem xFr.wide {o w o' w' : Nat} {h h' : xH} (a : xFr o w h h') (h1 : o' ≤ o) (h2 : o + w ≤ o' + w') : xFr o' w' h h' := ⟨fun q hq => a.1 q (by omega), a.2⟩
def IsNext (lo tg : Nat → Int32) (after : Int) : Option Nat → Prop
  | none => ∀ j, j < 24 → tg j ≠ -1 → (lo j).toInt ≤ after
  | some i => i < 24 ∧ tg i ≠ -1 ∧ after < (lo i).toInt ∧ ∀ j, j < 24 → tg j ≠ -1 → after < (lo j).toInt → (lo i).toInt ≤ (lo j).toInt
def NextTo (lo tg : Nat → Int32) (after : Int) (k : Nat) (lv : Int64) : Option Nat → Prop
  | none => lv.toInt = 9223372036854775807 ∧ ∀ j, j < k → tg j ≠ -1 → (lo j).toInt ≤ after
  | some i => lv.toInt = (lo i).toInt ∧ i < k ∧ tg i ≠ -1 ∧ after < (lo i).toInt ∧ ∀ j, j < k → tg j ≠ -1 → after < (lo j).toInt → (lo i).toInt ≤ (lo j).toInt
theorem NextTo.keep {lo tg : Nat → Int32} {after : Int} {k : Nat} {lv : Int64} {r : Option Nat} (h : NextTo lo tg after k lv r) (hk : tg k = -1 ∨ (lo k).toInt ≤ after ∨ lv.toInt ≤ (lo k).toInt) : NextTo lo tg after (k + 1) lv r := by
  cases r with
  | none =>
    refine ⟨h.1, fun j hj ht => ?_⟩
    by_cases hjk : j = k
    · subst hjk
      have := Int32.toInt_lt (lo j)
      have h1 := h.1
      rcases hk with q | q | q
      · exact absurd q ht
      · exact q
      · omega
    · exact h.2 j (by omega) ht
  | some i =>
    obtain ⟨h1, h2, h3, h4, h5⟩ := h
    refine ⟨h1, by omega, h3, h4, fun j hj ht ha => ?_⟩
    by_cases hjk : j = k
    · subst hjk
      rcases hk with q | q | q
      · exact absurd q ht
      · omega
      · omega
    · exact h5 j (by omega) ht ha
theorem NextTo.new {lo tg : Nat → Int32} {after : Int} {k : Nat} {lv : Int64} {r : Option Nat} (h : NextTo lo tg after k lv r) (h1 : tg k ≠ -1) (h2 : after < (lo k).toInt) (h3 : (lo k).toInt < lv.toInt) : NextTo lo tg after (k + 1) (lo k).toInt64 (some k) := by
  refine ⟨Int32.toInt_toInt64 _, by omega, h1, h2, fun j hj ht ha => ?_⟩
  by_cases hjk : j = k
  · subst hjk; exact Int.le_refl _
  · cases r with
    | none =>
      have := h.2 j (by omega) ht
      omega
    | some i =>
      obtain ⟨g1, g2, g3, g4, g5⟩ := h
      have := g5 j (by omega) ht ha
      omega
theorem NextTo.fin {lo tg : Nat → Int32} {after : Int} {lv : Int64} {r : Option Nat} (h : NextTo lo tg after 24 lv r) : IsNext lo tg after r := by
  cases r with
  | none => exact h.2
  | some i => exact h.2
section
variable {G : xG} {h : xH} {o : Nat} {lo hi tg wt : Nat → Int32} {n : Int32}
def gTell (lo hi tg wt : Nat → Int32) (i what : Int32) : Int32 := if gHas tg i = true then g4 what (lo i.toNatClampNeg) (hi i.toNatClampNeg) (tg i.toNatClampNeg) (wt i.toNatClampNeg) else -101
theorem gHas_t {i : Int32} (hb : gHas tg i = true) : ∃ k, k < 24 ∧ i = nI k ∧ tg k ≠ -1 := by
  have h1 : gIn 24 i = true := by
    unfold gHas at hb
    rw [Bool.and_eq_true] at hb
    exact hb.1
  unfold gIn at h1
  rw [decide_eq_true_eq] at h1
  obtain ⟨k, hk, rfl⟩ := x_ix h1.1 h1.2 (by decide)
  rw [gHas_n hk] at hb
  exact ⟨k, hk, rfl, bne_iff_ne.mp hb⟩
theorem tX2_tell (hS : vSp h o lo hi tg wt n) (i what : Int32) : AM G mX2_tell 1 0 [.ref o, .int i, .int what] h (fun r h' => r = some (.int (gTell lo hi tg wt i what)) ∧ h' = h) := by
  obtain ⟨s, s0, s1, s2, s3⟩ := id hS
  refine AM.of rfl rfl (Nat.le_of_ble_eq_true rfl) rfl ?_
  refine Ax_al0 dX2_tell_0 ?_
  refine Ax_il1 dX2_tell_1 ?_
  refine Ax_cVi dX2_tell_2 vX2_34 kfX2 s (tX2_has hS i) rfl rfl (by decide) (by simp [Value.category]) ?_
  refine Ax_ifneB (tgt := 11) dX2_tell_5 (by decide) (fun c5 => ?_) (fun c5 => ?_)
  · obtain ⟨k, hk, rfl, hb⟩ := gHas_t c5
    have e : gTell lo hi tg wt (nI k) what = g4 what (lo k) (hi k) (tg k) (wt k) := by
      unfold gTell
      rw [if_pos c5, nI_clamp (by omega)]
    rw [e]
    refine Ax_il2 dX2_tell_11 ?_
    rcases x_tab4 what with rfl | rfl | rfl | rfl | hw
    · refine Ax_tabI (tgt := 44) dX2_tell_12 (by decide) (by decide) rfl (by decide) ?_
      refine Ax_al0 dX2_tell_44 ?_
      refine Ax_getf kfX2 fX2_9 dX2_tell_45 s rfl ?_
      refine Ax_il1 dX2_tell_48 ?_
      refine Ax_ialdn dX2_tell_49 s0 (by omega) (by omega) ?_
      exact Ax_iret dX2_tell_50 rfl rfl ⟨rfl, rfl⟩
    · refine Ax_tabI (tgt := 51) dX2_tell_12 (by decide) (by decide) rfl (by decide) ?_
      refine Ax_al0 dX2_tell_51 ?_
      refine Ax_getf kfX2 fX2_15 dX2_tell_52 s rfl ?_
      refine Ax_il1 dX2_tell_55 ?_
      refine Ax_ialdn dX2_tell_56 s1 (by omega) (by omega) ?_
      exact Ax_iret dX2_tell_57 rfl rfl ⟨rfl, rfl⟩
    · refine Ax_tabI (tgt := 58) dX2_tell_12 (by decide) (by decide) rfl (by decide) ?_
      refine Ax_al0 dX2_tell_58 ?_
      refine Ax_getf kfX2 fX2_18 dX2_tell_59 s rfl ?_
      refine Ax_il1 dX2_tell_62 ?_
      refine Ax_ialdn dX2_tell_63 s2 (by omega) (by omega) ?_
      exact Ax_iret dX2_tell_64 rfl rfl ⟨rfl, rfl⟩
    · refine Ax_tabI (tgt := 65) dX2_tell_12 (by decide) (by decide) rfl (by decide) ?_
      refine Ax_al0 dX2_tell_65 ?_
      refine Ax_getf kfX2 fX2_21 dX2_tell_66 s rfl ?_
      refine Ax_il1 dX2_tell_69 ?_
      refine Ax_ialdn dX2_tell_70 s3 (by omega) (by omega) ?_
      exact Ax_iret dX2_tell_71 rfl rfl ⟨rfl, rfl⟩
    · have e2 : g4 what (lo k) (hi k) (tg k) (wt k) = -102 := by
        obtain ⟨q0, q1, q2, q3⟩ := x_ne4 hw
        unfold g4
        rw [if_neg q0, if_neg q1, if_neg q2, if_neg q3]
      rw [e2]
      refine Ax_tabO (tgt := 72) dX2_tell_12 (by assumption) (by decide) ?_
      refine Ax_bpm102 dX2_tell_72 ?_
      exact Ax_iret dX2_tell_74 rfl rfl ⟨rfl, rfl⟩
  · have e : gTell lo hi tg wt i what = -101 := by
      unfold gTell
      rw [if_neg (by rw [c5]; decide)]
    rw [e]
    refine Ax_bpm101 dX2_tell_8 ?_
    exact Ax_iret dX2_tell_10 rfl rfl ⟨rfl, rfl⟩
end
end
section
section
variable {G : xG} {h : xH} {o : Nat} {lo hi tg wt : Nat → Int32} {n : Int32}
theorem tX2_nextByLow (hS : vSp h o lo hi tg wt n) (after : Int64) : AM G mX2_nextByLow 0 0 [.ref o, .long after] h (fun r h' => ∃ x, r = some (.int x) ∧ (∃ q, x = oI q ∧ IsNext lo tg after.toInt q) ∧ h' = h) := by
  obtain ⟨s, s0, s1, s2, s3⟩ := id hS
  refine AM.of rfl rfl (Nat.le_of_ble_eq_true rfl) rfl ?_
  refine Ax_icm1 dX2_nextByLow_0 ?_
  refine Ax_is3 dX2_nextByLow_1 (Nat.le_of_ble_eq_true rfl) (by rfl) ?_
  refine Ax_ldc2 dX2_nextByLow_2 cX2_40 ?_
  refine Ax_ls4 dX2_nextByLow_5 (Nat.le_of_ble_eq_true rfl) (by rfl) ?_
  refine Ax_ic0 dX2_nextByLow_7 ?_
  refine Ax_is6 dX2_nextByLow_8 (Nat.le_of_ble_eq_true rfl) (by rfl) ?_
  suffices hloop : ∀ m k r lv, k + m = 24 → NextTo lo tg after.toInt k lv r → Ax G mX2_nextByLow 0 0 10 [.ref o, .long after, .null, .int (oI r), .long lv, .null, .int (nI k)] [] h (fun r h' => ∃ x, r = some (.int x) ∧ (∃ q, x = oI q ∧ IsNext lo tg after.toInt q) ∧ h' = h) from hloop 24 0 none _ rfl ⟨by decide, fun j hj => by omega⟩
  intro m
  induction m with
  | zero =>
    intro k r lv hk hN
    obtain rfl : k = 24 := by omega
    refine Ax_il6 dX2_nextByLow_10 ?_
    refine Ax_bp24 dX2_nextByLow_12 ?_
    refine Ax_cmpgen (tgt := 74) dX2_nextByLow_14 (by decide) (by omega) (by omega) (fun c14 => ?_) (fun c14 => ?_)
    · refine Ax_il3 dX2_nextByLow_74 ?_
      exact Ax_iret dX2_nextByLow_75 rfl rfl ⟨_, rfl, ⟨r, rfl, hN.fin⟩, rfl⟩
    · omega
  | succ m ih =>
    intro k r lv hk hN
    have hno : (tg k = -1 ∨ (lo k).toInt ≤ after.toInt ∨ lv.toInt ≤ (lo k).toInt) → Ax G mX2_nextByLow 0 0 68 [.ref o, .long after, .null, .int (oI r), .long lv, .null, .int (nI k)] [] h (fun r h' => ∃ x, r = some (.int x) ∧ (∃ q, x = oI q ∧ IsNext lo tg after.toInt q) ∧ h' = h) := by
      intro hq
      refine Ax_inc6_1n dX2_nextByLow_68 (Nat.le_of_ble_eq_true rfl) (by rfl) ?_
      refine Ax_goto (tgt := 10) dX2_nextByLow_71 (by decide) ?_
      exact ih (k + 1) r lv (by omega) (hN.keep hq)
    refine Ax_il6 dX2_nextByLow_10 ?_
    refine Ax_bp24 dX2_nextByLow_12 ?_
    refine Ax_cmpgen (tgt := 74) dX2_nextByLow_14 (by decide) (by omega) (by omega) (fun c14 => ?_) (fun c14 => ?_)
    · omega
    refine Ax_al0 dX2_nextByLow_17 ?_
    refine Ax_getf kfX2 fX2_18 dX2_nextByLow_18 s rfl ?_
    refine Ax_il6 dX2_nextByLow_21 ?_
    refine Ax_ialdn dX2_nextByLow_23 s2 (by omega) (by omega) ?_
    refine Ax_icm1 dX2_nextByLow_24 ?_
    refine Ax_cmpeq (tgt := 68) dX2_nextByLow_25 (by decide) (fun c25 => ?_) (fun c25 => ?_)
    · exact hno (Or.inl c25)
    refine Ax_al0 dX2_nextByLow_28 ?_
    refine Ax_getf kfX2 fX2_9 dX2_nextByLow_29 s rfl ?_
    refine Ax_il6 dX2_nextByLow_32 ?_
    refine Ax_ialdn dX2_nextByLow_34 s0 (by omega) (by omega) ?_
    refine Ax_i2l dX2_nextByLow_35 ?_
    refine Ax_ll1 dX2_nextByLow_36 ?_
    refine Ax_lcmp dX2_nextByLow_37 ?_
    refine Ax_ifleC (tgt := 68) dX2_nextByLow_38 (by decide) (fun c38 => ?_) (fun c38 => ?_)
    · rw [Int32.toInt_toInt64] at c38
      exact hno (Or.inr (Or.inl c38))
    refine Ax_al0 dX2_nextByLow_41 ?_
    refine Ax_getf kfX2 fX2_9 dX2_nextByLow_42 s rfl ?_
    refine Ax_il6 dX2_nextByLow_45 ?_
    refine Ax_ialdn dX2_nextByLow_47 s0 (by omega) (by omega) ?_
    refine Ax_i2l dX2_nextByLow_48 ?_
    refine Ax_ll4 dX2_nextByLow_49 ?_
    refine Ax_lcmp dX2_nextByLow_51 ?_
    refine Ax_ifgeC (tgt := 68) dX2_nextByLow_52 (by decide) (fun c52 => ?_) (fun c52 => ?_)
    · rw [Int32.toInt_toInt64] at c52
      exact hno (Or.inr (Or.inr c52))
    rw [Int32.toInt_toInt64] at c38 c52
    refine Ax_il6 dX2_nextByLow_55 ?_
    refine Ax_is3 dX2_nextByLow_57 (Nat.le_of_ble_eq_true rfl) (by rfl) ?_
    refine Ax_al0 dX2_nextByLow_58 ?_
    refine Ax_getf kfX2 fX2_9 dX2_nextByLow_59 s rfl ?_
    refine Ax_il6 dX2_nextByLow_62 ?_
    refine Ax_ialdn dX2_nextByLow_64 s0 (by omega) (by omega) ?_
    refine Ax_i2l dX2_nextByLow_65 ?_
    refine Ax_ls4 dX2_nextByLow_66 (Nat.le_of_ble_eq_true rfl) (by rfl) ?_
    refine Ax_inc6_1n dX2_nextByLow_68 (Nat.le_of_ble_eq_true rfl) (by rfl) ?_
    refine Ax_goto (tgt := 10) dX2_nextByLow_71 (by decide) ?_
    exact ih (k + 1) (some k) _ (by omega) (hN.new c25 c38 c52)
theorem tX2_set {m : Nat} (hS : vSp h o lo hi tg wt (nI m)) {k : Nat} (hk : k < 24) (low high target weight : Int32) : AM G mX2_set 0 0 [.ref o, .int (nI k), .int low, .int high, .int target, .int weight] h
    (fun r h' => r = none ∧ vSp h' o (upd lo k low) (upd hi k high) (upd tg k target) (upd wt k weight) (nI (if tg k = -1 then m + 1 else m)) ∧ xFr o 5 h h') := by
  obtain ⟨s, s0, s1, s2, s3⟩ := id hS
  refine AM.of rfl rfl (Nat.le_of_ble_eq_true rfl) rfl ?_
  refine Ax_il1 dX2_set_0 ?_
  refine Ax_ifltn (tgt := 10) dX2_set_1 (by decide) (by omega) ?_
  refine Ax_il1 dX2_set_4 ?_
  refine Ax_bp24 dX2_set_5 ?_
  refine Ax_cmpltn (tgt := 11) dX2_set_7 (by decide) (by omega) (by omega) (fun c7 => ?_) (fun c7 => ?_)
  · have hrest : ∀ (h1 : xH) (m1 : Nat), vSp h1 o lo hi tg wt (nI m1) → m1 = (if tg k = -1 then m + 1 else m) → xFr o 5 h h1 → Ax G mX2_set 0 0 31 [.ref o, .int (nI k), .int low, .int high, .int target, .int weight] [] h1 (fun r h' => r = none ∧ vSp h' o (upd lo k low) (upd hi k high) (upd tg k target) (upd wt k weight) (nI (if tg k = -1 then m + 1 else m)) ∧ xFr o 5 h h') := by
      intro h1 m1 hS1 hm hF
      obtain ⟨s, s0, s1, s2, s3⟩ := hS1
      have fr : ∀ q, (q < o ∨ o + 5 ≤ q) → h1.1 q = h1.1 q := fun _ _ => rfl
      have zr : h1.2 = h1.2 := rfl
      refine Ax_al0 dX2_set_31 ?_
      refine Ax_getf kfX2 fX2_9 dX2_set_32 s rfl ?_
      refine Ax_il1 dX2_set_35 ?_
      refine Ax_il2 dX2_set_36 ?_
      refine Ax_iastn dX2_set_37 s0 (by omega) (by omega) (Ax_up (fun h11 e11 f11 z11 => ?_))
      replace s := (f11 _ (by omega)).trans s
      replace s0 := e11
      replace s1 := (f11 _ (by omega)).trans s1
      replace s2 := (f11 _ (by omega)).trans s2
      replace s3 := (f11 _ (by omega)).trans s3
      replace fr : ∀ q, (q < o ∨ o + 5 ≤ q) → h11.1 q = h1.1 q := fun q hq => (f11 q (by omega)).trans (fr q hq)
      replace zr := z11.trans zr
      refine Ax_al0 dX2_set_38 ?_
      refine Ax_getf kfX2 fX2_15 dX2_set_39 s rfl ?_
      refine Ax_il1 dX2_set_42 ?_
      refine Ax_il3 dX2_set_43 ?_
      refine Ax_iastn dX2_set_44 s1 (by omega) (by omega) (Ax_up (fun h12 e12 f12 z12 => ?_))
      replace s := (f12 _ (by omega)).trans s
      replace s0 := (f12 _ (by omega)).trans s0
      replace s1 := e12
      replace s2 := (f12 _ (by omega)).trans s2
      replace s3 := (f12 _ (by omega)).trans s3
      replace fr : ∀ q, (q < o ∨ o + 5 ≤ q) → h12.1 q = h1.1 q := fun q hq => (f12 q (by omega)).trans (fr q hq)
      replace zr := z12.trans zr
      refine Ax_al0 dX2_set_45 ?_
      refine Ax_getf kfX2 fX2_18 dX2_set_46 s rfl ?_
      refine Ax_il1 dX2_set_49 ?_
      refine Ax_il4 dX2_set_50 ?_
      refine Ax_iastn dX2_set_52 s2 (by omega) (by omega) (Ax_up (fun h13 e13 f13 z13 => ?_))
      replace s := (f13 _ (by omega)).trans s
      replace s0 := (f13 _ (by omega)).trans s0
      replace s1 := (f13 _ (by omega)).trans s1
      replace s2 := e13
      replace s3 := (f13 _ (by omega)).trans s3
      replace fr : ∀ q, (q < o ∨ o + 5 ≤ q) → h13.1 q = h1.1 q := fun q hq => (f13 q (by omega)).trans (fr q hq)
      replace zr := z13.trans zr
      refine Ax_al0 dX2_set_53 ?_
      refine Ax_getf kfX2 fX2_21 dX2_set_54 s rfl ?_
      refine Ax_il1 dX2_set_57 ?_
      refine Ax_il5 dX2_set_58 ?_
      refine Ax_iastn dX2_set_60 s3 (by omega) (by omega) (Ax_up (fun h14 e14 f14 z14 => ?_))
      replace s := (f14 _ (by omega)).trans s
      replace s0 := (f14 _ (by omega)).trans s0
      replace s1 := (f14 _ (by omega)).trans s1
      replace s2 := (f14 _ (by omega)).trans s2
      replace s3 := e14
      replace fr : ∀ q, (q < o ∨ o + 5 ≤ q) → h14.1 q = h1.1 q := fun q hq => (f14 q (by omega)).trans (fr q hq)
      replace zr := z14.trans zr
      exact Ax_ret dX2_set_61 rfl ⟨rfl, ⟨by rw [← hm]; exact s, s0, s1, s2, s3⟩, hF.tr ⟨fr, zr⟩⟩
    refine Ax_al0 dX2_set_11 ?_
    refine Ax_getf kfX2 fX2_18 dX2_set_12 s rfl ?_
    refine Ax_il1 dX2_set_15 ?_
    refine Ax_ialdn dX2_set_16 s2 (by omega) (by omega) ?_
    refine Ax_icm1 dX2_set_17 ?_
    refine Ax_cmpne (tgt := 31) dX2_set_18 (by decide) (fun c18 => ?_) (fun c18 => ?_)
    · exact hrest h m hS (by rw [if_neg c18]) xFr.rf
    · have fr : ∀ q, (q < o ∨ o + 5 ≤ q) → h.1 q = h.1 q := fun _ _ => rfl
      have zr : h.2 = h.2 := rfl
      refine Ax_al0 dX2_set_21 ?_
      refine Ax_dup dX2_set_22 rfl ?_
      refine Ax_getf kfX2 fX2_24 dX2_set_23 s rfl ?_
      refine Ax_ic1 dX2_set_26 ?_
      refine Ax_iaddn dX2_set_27 ?_
      refine Ax_putf kfX2 fX2_24 dX2_set_28 s (Nat.le_of_ble_eq_true rfl) (Or.inl rfl) (by rfl) (by rfl) (Ax_up (fun h1 e1 f1 z1 => ?_))
      replace s := e1
      replace s0 := (f1 _ (by omega)).trans s0
      replace s1 := (f1 _ (by omega)).trans s1
      replace s2 := (f1 _ (by omega)).trans s2
      replace s3 := (f1 _ (by omega)).trans s3
      replace fr : ∀ q, (q < o ∨ o + 5 ≤ q) → h1.1 q = h.1 q := fun q hq => (f1 q (by omega)).trans (fr q hq)
      replace zr := z1.trans zr
      exact hrest _ (m + 1) ⟨s, s0, s1, s2, s3⟩ (by rw [if_pos c18]) ⟨fr, zr⟩
  · omega
theorem tX2_free {m : Nat} (hS : vSp h o lo hi tg wt (nI (m + 1))) {k : Nat} (hk : k < 24) (hb : tg k ≠ -1) : AM G mX2_free 1 0 [.ref o, .int (nI k)] h
    (fun r h' => r = none ∧ vSp h' o lo hi (upd tg k (-1)) wt (nI m) ∧ xFr o 5 h h') := by
  obtain ⟨s, s0, s1, s2, s3⟩ := id hS
  refine AM.of rfl rfl (Nat.le_of_ble_eq_true rfl) rfl ?_
  refine Ax_al0 dX2_free_0 ?_
  refine Ax_il1 dX2_free_1 ?_
  refine Ax_cVi dX2_free_2 vX2_34 kfX2 s (tX2_has hS (nI k)) rfl rfl (by decide) (by simp [Value.category]) ?_
  refine Ax_ifeqB (tgt := 25) dX2_free_5 (by decide) (fun c5 => ?_) (fun c5 => ?_)
  · rw [gHas_n hk, bne_iff_ne.mpr hb] at c5
    cases c5
  · have fr : ∀ q, (q < o ∨ o + 5 ≤ q) → h.1 q = h.1 q := fun _ _ => rfl
    have zr : h.2 = h.2 := rfl
    refine Ax_al0 dX2_free_8 ?_
    refine Ax_getf kfX2 fX2_18 dX2_free_9 s rfl ?_
    refine Ax_il1 dX2_free_12 ?_
    refine Ax_icm1 dX2_free_13 ?_
    refine Ax_iastn dX2_free_14 s2 (by omega) (by omega) (Ax_up (fun h1 e1 f1 z1 => ?_))
    replace s := (f1 _ (by omega)).trans s
    replace s0 := (f1 _ (by omega)).trans s0
    replace s1 := (f1 _ (by omega)).trans s1
    replace s2 := e1
    replace s3 := (f1 _ (by omega)).trans s3
    replace fr : ∀ q, (q < o ∨ o + 5 ≤ q) → h1.1 q = h.1 q := fun q hq => (f1 q (by omega)).trans (fr q hq)
    replace zr := z1.trans zr
    refine Ax_al0 dX2_free_15 ?_
    refine Ax_dup dX2_free_16 rfl ?_
    refine Ax_getf kfX2 fX2_24 dX2_free_17 s rfl ?_
    refine Ax_ic1 dX2_free_20 ?_
    refine Ax_isubn dX2_free_21 (by omega) ?_
    refine Ax_putf kfX2 fX2_24 dX2_free_22 s (Nat.le_of_ble_eq_true rfl) (Or.inl rfl) (by rfl) (by rfl) (Ax_up (fun h2 e2 f2 z2 => ?_))
    replace s := e2
    replace s0 := (f2 _ (by omega)).trans s0
    replace s1 := (f2 _ (by omega)).trans s1
    replace s2 := (f2 _ (by omega)).trans s2
    replace s3 := (f2 _ (by omega)).trans s3
    replace fr : ∀ q, (q < o ∨ o + 5 ≤ q) → h2.1 q = h.1 q := fun q hq => (f2 q (by omega)).trans (fr q hq)
    replace zr := z2.trans zr
    exact Ax_ret dX2_free_25 rfl ⟨rfl, ⟨s, s0, s1, s2, s3⟩, fr, zr⟩
end
end
section
section
variable {G : xG} {h : xH}
theorem Ax_mmax {M : xM} {d b pc idx : Nat} {L st : List Value} {Q : Option Value → xH → Prop} {x y : Int32} (hd : decode M.2.2.1 pc = .ok (.invokestatic idx, 3)) (hw : xCS M.1 idx mJ9_max_7cf53 2) (hdd : 1 ≤ d) (hcat : (st.map fun v => v.category).sum ≤ 8)
    (k : Ax G M d b (pc + 3) L (.int (if x < y then y else x) :: st) h Q) : Ax G M d b pc L (.int y :: .int x :: st) h Q := by
  intro p e R s m args below meth c H locs cells slots ls Z C hR hL hlo hc hs hend
  have hts := C.2.2.2.2.2.2.2.1
  have hRd := C.2.2.2.2.2.2.2.2.2
  exact va_mmax C.1 C.2.1 (C.2.2.1.trans hL.1.symm) C.2.2.2.2.2.2.1 (hts _ hw.2.1) (hts _ hw.2.2) (hts _ hw.1.2.2.2.2.1) (hts _ hw.1.1) (by omega) (by rw [x_catsum]; omega) (by omega) (by omega) hd (k p e R s m args below meth c H locs cells slots ls Z C hR hL hlo hc hs hend)
theorem Ax_mmin {M : xM} {d b pc idx : Nat} {L st : List Value} {Q : Option Value → xH → Prop} {x y : Int32} (hd : decode M.2.2.1 pc = .ok (.invokestatic idx, 3)) (hw : xCS M.1 idx mJ9_min_7cf53 2) (hdd : 1 ≤ d) (hcat : (st.map fun v => v.category).sum ≤ 8)
    (k : Ax G M d b (pc + 3) L (.int (if y < x then y else x) :: st) h Q) : Ax G M d b pc L (.int y :: .int x :: st) h Q := by
  intro p e R s m args below meth c H locs cells slots ls Z C hR hL hlo hc hs hend
  have hts := C.2.2.2.2.2.2.2.1
  have hRd := C.2.2.2.2.2.2.2.2.2
  exact va_mmin C.1 C.2.1 (C.2.2.1.trans hL.1.symm) C.2.2.2.2.2.2.1 (hts _ hw.2.1) (hts _ hw.2.2) (hts _ hw.1.2.2.2.2.1) (hts _ hw.1.1) (by omega) (by rw [x_catsum]; omega) (by omega) (by omega) hd (k p e R s m args below meth c H locs cells slots ls Z C hR hL hlo hc hs hend)
theorem Ax_mminL {M : xM} {d b pc idx : Nat} {L st : List Value} {Q : Option Value → xH → Prop} {x y : Int64} (hd : decode M.2.2.1 pc = .ok (.invokestatic idx, 3)) (hw : xCS M.1 idx mJ9_min_f86c9 2) (hdd : 1 ≤ d) (hcat : (st.map fun v => v.category).sum ≤ 8)
    (k : Ax G M d b (pc + 3) L (.long (if y < x then y else x) :: st) h Q) : Ax G M d b pc L (.long y :: .long x :: st) h Q := by
  intro p e R s m args below meth c H locs cells slots ls Z C hR hL hlo hc hs hend
  have hts := C.2.2.2.2.2.2.2.1
  have hRd := C.2.2.2.2.2.2.2.2.2
  exact va_mmin_long C.1 C.2.1 (C.2.2.1.trans hL.1.symm) C.2.2.2.2.2.2.1 (hts _ hw.2.1) (hts _ hw.2.2) (hts _ hw.1.2.2.2.2.1) (hts _ hw.1.1) (by omega) (by rw [x_catsum]; omega) (by omega) (by omega) hd (k p e R s m args below meth c H locs cells slots ls Z C hR hL hlo hc hs hend)
theorem tJ7_fill {a n : Nat} {f : Nat → Int32} (hc : h.1 a = cI 0 n f) (hn : n < 2 ^ 31) (v : Int32) : AM G mJ7_fill_53178 0 0 [.ref a, .int v] h
    (fun r h' => r = none ∧ (∃ g, h'.1 a = cI 0 n g ∧ ∀ j, j < n → g j = v) ∧ (∀ q, q ≠ a → h'.1 q = h.1 q) ∧ h'.2 = h.2) := by
  refine AM.of rfl rfl (Nat.le_of_ble_eq_true rfl) rfl ?_
  refine Ax_ic0 dJ7_fill_53178_0 ?_
  refine Ax_is2 dJ7_fill_53178_1 (Nat.le_of_ble_eq_true rfl) (by rfl) ?_
  refine Ax_al0 dJ7_fill_53178_2 ?_
  refine Ax_alen (by decide) dJ7_fill_53178_3 hc ?_
  refine Ax_is3 dJ7_fill_53178_4 (Nat.le_of_ble_eq_true rfl) (by rfl) ?_
  suffices hloop : ∀ m k h1 g, k + m = n → h1.1 a = cI 0 n g → (∀ j, j < k → g j = v) → (∀ q, q ≠ a → h1.1 q = h.1 q) → h1.2 = h.2 → Ax G mJ7_fill_53178 0 0 5 [.ref a, .int v, .int (nI k), .int (nI n)] [] h1 (fun r h' => r = none ∧ (∃ g, h'.1 a = cI 0 n g ∧ ∀ j, j < n → g j = v) ∧ (∀ q, q ≠ a → h'.1 q = h.1 q) ∧ h'.2 = h.2) from hloop n 0 h f (by omega) hc (fun j hj => by omega) (fun _ _ => rfl) rfl
  intro m
  induction m with
  | zero =>
    intro k h1 g hk hc hg hF hz
    obtain rfl : k = n := by omega
    refine Ax_il2 dJ7_fill_53178_5 ?_
    refine Ax_il3 dJ7_fill_53178_6 ?_
    refine Ax_cmpgen (tgt := 20) dJ7_fill_53178_7 (by decide) (by omega) (by omega) (fun c7 => ?_) (fun c7 => ?_)
    · exact Ax_ret dJ7_fill_53178_20 rfl ⟨rfl, ⟨g, hc, hg⟩, hF, hz⟩
    · omega
  | succ m ih =>
    intro k h1 g hk hc hg hF hz
    refine Ax_il2 dJ7_fill_53178_5 ?_
    refine Ax_il3 dJ7_fill_53178_6 ?_
    refine Ax_cmpgen (tgt := 20) dJ7_fill_53178_7 (by decide) (by omega) (by omega) (fun c7 => ?_) (fun c7 => ?_)
    · omega
    have fr : ∀ q, q ≠ a → h1.1 q = h1.1 q := fun _ _ => rfl
    have zr : h1.2 = h1.2 := rfl
    refine Ax_al0 dJ7_fill_53178_10 ?_
    refine Ax_il2 dJ7_fill_53178_11 ?_
    refine Ax_il1 dJ7_fill_53178_12 ?_
    refine Ax_iastn dJ7_fill_53178_13 hc (by omega) (by omega) (Ax_up (fun h11 e11 f11 z11 => ?_))
    replace hc := e11
    replace fr : ∀ q, q ≠ a → h11.1 q = h1.1 q := fun q hq => (f11 q (by omega)).trans (fr q hq)
    replace zr := z11.trans zr
    refine Ax_inc2_1n dJ7_fill_53178_14 (Nat.le_of_ble_eq_true rfl) (by rfl) ?_
    refine Ax_goto (tgt := 5) dJ7_fill_53178_17 (by decide) ?_
    refine ih (k + 1) _ _ (by omega) hc (fun j hj => ?_) (fun q hq => (fr q hq).trans (hF q hq)) (zr.trans hz)
    by_cases hjk : j = k
    · subst hjk; exact pk_us
    · rw [pk_un hjk]; exact hg j (by omega)
theorem tJ6_bitCount {n : Nat} (hn : n < 65536) : AM G mJ6_bitCount_0f7a4 0 0 [.int (nI n)] h (fun r h' => r = some (.int (nI (pop 16 n))) ∧ h' = h) := by
  refine AM.of rfl rfl (Nat.le_of_ble_eq_true rfl) rfl ?_
  rw [← bs_pop hn]
  refine Ax_il0 dJ6_bitCount_0f7a4_0 ?_
  refine Ax_il0 dJ6_bitCount_0f7a4_1 ?_
  refine Ax_ic1 dJ6_bitCount_0f7a4_2 ?_
  refine Ax_iushr dJ6_bitCount_0f7a4_3 ?_
  refine Ax_ldcw dJ6_bitCount_0f7a4_4 cJ6_265 ?_
  refine Ax_iand dJ6_bitCount_0f7a4_7 ?_
  refine Ax_isub dJ6_bitCount_0f7a4_8 ?_
  refine Ax_top (bs_v1 hn) ?_
  refine Ax_is0 dJ6_bitCount_0f7a4_9 (Nat.le_of_ble_eq_true rfl) ?_
  refine Ax_il0 dJ6_bitCount_0f7a4_10 ?_
  refine Ax_ldcw dJ6_bitCount_0f7a4_11 cJ6_266 ?_
  refine Ax_iand dJ6_bitCount_0f7a4_14 ?_
  refine Ax_il0 dJ6_bitCount_0f7a4_15 ?_
  refine Ax_ic2 dJ6_bitCount_0f7a4_16 ?_
  refine Ax_iushr dJ6_bitCount_0f7a4_17 ?_
  refine Ax_ldcw dJ6_bitCount_0f7a4_18 cJ6_266 ?_
  refine Ax_iand dJ6_bitCount_0f7a4_21 ?_
  refine Ax_iadd dJ6_bitCount_0f7a4_22 ?_
  refine Ax_top (bs_v2 (bs_l1 hn)) ?_
  refine Ax_is0 dJ6_bitCount_0f7a4_23 (Nat.le_of_ble_eq_true rfl) ?_
  refine Ax_il0 dJ6_bitCount_0f7a4_24 ?_
  refine Ax_il0 dJ6_bitCount_0f7a4_25 ?_
  refine Ax_ic4 dJ6_bitCount_0f7a4_26 ?_
  refine Ax_iushr dJ6_bitCount_0f7a4_27 ?_
  refine Ax_iadd dJ6_bitCount_0f7a4_28 ?_
  refine Ax_ldcw dJ6_bitCount_0f7a4_29 cJ6_267 ?_
  refine Ax_iand dJ6_bitCount_0f7a4_32 ?_
  refine Ax_top (bs_v3 bs_l2) ?_
  refine Ax_is0 dJ6_bitCount_0f7a4_33 (Nat.le_of_ble_eq_true rfl) ?_
  refine Ax_il0 dJ6_bitCount_0f7a4_34 ?_
  refine Ax_il0 dJ6_bitCount_0f7a4_35 ?_
  refine Ax_bp8 dJ6_bitCount_0f7a4_36 ?_
  refine Ax_iushr dJ6_bitCount_0f7a4_38 ?_
  refine Ax_iadd dJ6_bitCount_0f7a4_39 ?_
  refine Ax_top (bs_v4 bs_l3) ?_
  refine Ax_is0 dJ6_bitCount_0f7a4_40 (Nat.le_of_ble_eq_true rfl) ?_
  refine Ax_il0 dJ6_bitCount_0f7a4_41 ?_
  refine Ax_il0 dJ6_bitCount_0f7a4_42 ?_
  refine Ax_bp16 dJ6_bitCount_0f7a4_43 ?_
  refine Ax_iushr dJ6_bitCount_0f7a4_45 ?_
  refine Ax_iadd dJ6_bitCount_0f7a4_46 ?_
  refine Ax_top (bs_v5 (bs_l4 bs_l3)) ?_
  refine Ax_is0 dJ6_bitCount_0f7a4_47 (Nat.le_of_ble_eq_true rfl) ?_
  refine Ax_il0 dJ6_bitCount_0f7a4_48 ?_
  refine Ax_bp63 dJ6_bitCount_0f7a4_49 ?_
  refine Ax_iand dJ6_bitCount_0f7a4_51 ?_
  refine Ax_top (bs_v6 _) ?_
  exact Ax_iret dJ6_bitCount_0f7a4_52 rfl rfl ⟨rfl, rfl⟩
end
end
section
/-! mathematics of cases and runs: low, high, target, weight -/
abbrev Run : Type := Int32 × Int32 × Nat × Nat
abbrev Cs : Type := Nat → Option Run
def z4 : Run := (0, 0, 0, 0)
def gC (C : Cs) (k : Nat) : Run := (C k).getD z4
def clo (C : Cs) (k : Nat) : Int := (gC C k).1.toInt
def cOk (C : Cs) : Prop := (∀ k c, C k = some c → k < 24 ∧ c.1.toInt ≤ c.2.1.toInt ∧ c.2.2.1 < 16 ∧ c.2.2.2 ≤ 1000) ∧ ∀ j k c d, j ≠ k → C j = some c → C k = some d → c.2.1.toInt < d.1.toInt ∨ d.2.1.toInt < c.1.toInt
def CRep (C : Cs) (lo hi tg wt : Nat → Int32) : Prop := ∀ k, k < 24 → (C k = none ∧ tg k = -1) ∨ ∃ c, C k = some c ∧ lo k = c.1 ∧ hi k = c.2.1 ∧ tg k = nI c.2.2.1 ∧ wt k = nI c.2.2.2
def ins (C : Cs) (i : Nat) : List Nat → List Nat
  | [] => [i]
  | j :: t => if clo C i < clo C j then i :: j :: t else j :: ins C i t
def ordF (C : Cs) : Nat → List Nat
  | 0 => []
  | n + 1 => if (C n).isSome = true then ins C n (ordF C n) else ordF C n
def ordL (C : Cs) : List Nat := ordF C 24
theorem ins_mem {C : Cs} {i j : Nat} : ∀ l : List Nat, j ∈ ins C i l ↔ j = i ∨ j ∈ l
  | [] => by simp [ins]
  | a :: t => by
    rw [ins]
    split
    · simp
    · rw [List.mem_cons, ins_mem t, List.mem_cons]
      constructor
      · rintro (h | h | h)
        · exact Or.inr (Or.inl h)
        · exact Or.inl h
        · exact Or.inr (Or.inr h)
      · rintro (h | h | h)
        · exact Or.inr (Or.inl h)
        · exact Or.inl h
        · exact Or.inr (Or.inr h)
theorem ins_len {C : Cs} {i : Nat} : ∀ l : List Nat, (ins C i l).length = l.length + 1
  | [] => rfl
  | a :: t => by
    rw [ins]
    split
    · rfl
    · rw [List.length_cons, ins_len t, List.length_cons]
theorem ins_sort {C : Cs} {i : Nat} : ∀ l : List Nat, l.Pairwise (fun a b => clo C a < clo C b) → (∀ j ∈ l, clo C j ≠ clo C i) → (ins C i l).Pairwise (fun a b => clo C a < clo C b)
  | [], _, _ => List.pairwise_singleton _ _
  | a :: t, h, hn => by
    rw [ins]
    rw [List.pairwise_cons] at h
    split
    · rename_i q
      rw [List.pairwise_cons]
      refine ⟨fun b hb => ?_, List.pairwise_cons.mpr h⟩
      rcases List.mem_cons.mp hb with e | e
      · rw [e]; exact q
      · exact Int.lt_trans q (h.1 b e)
    · rename_i q
      rw [List.pairwise_cons]
      refine ⟨fun b hb => ?_, ins_sort t h.2 (fun j hj => hn j (List.mem_cons_of_mem _ hj))⟩
      rcases (ins_mem t).mp hb with e | e
      · rw [e]
        have := hn a List.mem_cons_self
        omega
      · exact h.1 b e
theorem ordF_mem {C : Cs} {j : Nat} : ∀ n : Nat, j ∈ ordF C n ↔ j < n ∧ (C j).isSome = true
  | 0 => by simp [ordF]
  | n + 1 => by
    rw [ordF]
    by_cases h : (C n).isSome = true
    · rw [if_pos h, ins_mem, ordF_mem n]
      constructor
      · rintro (q | ⟨q, r⟩)
        · subst q; exact ⟨by omega, h⟩
        · exact ⟨by omega, r⟩
      · rintro ⟨q, r⟩
        by_cases e : j = n
        · exact Or.inl e
        · exact Or.inr ⟨by omega, r⟩
    · rw [if_neg h, ordF_mem n]
      constructor
      · rintro ⟨q, r⟩; exact ⟨by omega, r⟩
      · rintro ⟨q, r⟩
        refine ⟨?_, r⟩
        by_cases e : j = n
        · subst e; exact absurd r h
        · omega
theorem ordF_len {C : Cs} : ∀ n : Nat, (ordF C n).length ≤ n
  | 0 => Nat.le_refl _
  | n + 1 => by
    rw [ordF]
    have := ordF_len (C := C) n
    split
    · rw [ins_len]; omega
    · omega
theorem gC_some {C : Cs} {k : Nat} {c : Run} (h : C k = some c) : gC C k = c := by unfold gC; rw [h]; rfl
theorem clo_ne {C : Cs} (hC : cOk C) {j k : Nat} (hjk : j ≠ k) (hj : (C j).isSome = true) (hk : (C k).isSome = true) : clo C j ≠ clo C k := by
  obtain ⟨c, hc⟩ := Option.isSome_iff_exists.mp hj
  obtain ⟨d, hd⟩ := Option.isSome_iff_exists.mp hk
  unfold clo
  rw [gC_some hc, gC_some hd]
  have h1 := hC.1 j c hc
  have h2 := hC.1 k d hd
  have h3 := hC.2 j k c d hjk hc hd
  omega
theorem ordF_sort {C : Cs} (hC : cOk C) : ∀ n : Nat, (ordF C n).Pairwise (fun a b => clo C a < clo C b)
  | 0 => List.Pairwise.nil
  | n + 1 => by
    rw [ordF]
    split
    · rename_i h
      refine ins_sort _ (ordF_sort hC n) (fun j hj => ?_)
      have := (ordF_mem n).mp hj
      exact clo_ne hC (by omega) this.2 h
    · exact ordF_sort hC n
theorem ord_mem {C : Cs} (hC : cOk C) {j : Nat} : j ∈ ordL C ↔ (C j).isSome = true := by
  unfold ordL
  rw [ordF_mem]
  constructor
  · exact fun h => h.2
  · intro h
    obtain ⟨c, hc⟩ := Option.isSome_iff_exists.mp h
    exact ⟨(hC.1 j c hc).1, h⟩
theorem ord_len {C : Cs} : (ordL C).length ≤ 24 := ordF_len 24
theorem ord_sort {C : Cs} (hC : cOk C) : (ordL C).Pairwise (fun a b => clo C a < clo C b) := ordF_sort hC 24
theorem CRep.tg_ne {C : Cs} {lo hi tg wt : Nat → Int32} (hR : CRep C lo hi tg wt) {k : Nat} (hk : k < 24) (hC : cOk C) : tg k ≠ -1 ↔ (C k).isSome = true := by
  rcases hR k hk with ⟨h1, h2⟩ | ⟨c, h1, h2, h3, h4, h5⟩
  · rw [h1, h2]; simp
  · rw [h1, h4]
    have := (hC.1 k c h1).2.2.1
    constructor
    · intro _; rfl
    · intro _ e
      have h := congrArg Int32.toInt e
      rw [nI_toInt (by omega)] at h
      have h7 : (-1 : Int32).toInt = -1 := rfl
      omega
theorem CRep.lo {C : Cs} {lo hi tg wt : Nat → Int32} (hR : CRep C lo hi tg wt) {k : Nat} (hk : k < 24) (hs : (C k).isSome = true) : lo k = (gC C k).1 ∧ hi k = (gC C k).2.1 ∧ tg k = nI (gC C k).2.2.1 ∧ wt k = nI (gC C k).2.2.2 := by
  rcases hR k hk with ⟨h1, h2⟩ | ⟨c, h1, h2, h3, h4, h5⟩
  · rw [h1] at hs; cases hs
  · rw [gC_some h1]; exact ⟨h2, h3, h4, h5⟩
/-- the case with the next low is the first one that is not yet done -/
theorem next_head {C : Cs} {lo hi tg wt : Nat → Int32} (hC : cOk C) (hR : CRep C lo hi tg wt) {done todo : List Nat} (hL : ordL C = done ++ todo) {after : Int} (h1 : ∀ j ∈ done, clo C j ≤ after) (h2 : ∀ j ∈ todo, after < clo C j) {r : Option Nat} (hN : IsNext lo tg after r) : r = todo.head? := by
  have hin : ∀ j, j ∈ done ∨ j ∈ todo → j < 24 ∧ tg j ≠ -1 ∧ (lo j).toInt = clo C j := by
    intro j hj
    have hm : j ∈ ordL C := by rw [hL]; exact List.mem_append.mpr hj
    have hs := (ord_mem hC).mp hm
    have hk : j < 24 := by
      obtain ⟨c, hc⟩ := Option.isSome_iff_exists.mp hs
      exact (hC.1 j c hc).1
    exact ⟨hk, (hR.tg_ne hk hC).mpr hs, by rw [(hR.lo hk hs).1]; rfl⟩
  have hsort := ord_sort hC
  rw [hL, List.pairwise_append] at hsort
  cases todo with
  | nil =>
    cases r with
    | none => rfl
    | some i =>
      obtain ⟨g1, g2, g3, -⟩ := hN
      have hm := (ord_mem hC).mpr ((hR.tg_ne g1 hC).mp g2)
      rw [hL, List.append_nil] at hm
      have := h1 i hm
      have := (hin i (Or.inl hm)).2.2
      omega
  | cons i t =>
    obtain ⟨q1, q2, q3⟩ := hin i (Or.inr List.mem_cons_self)
    have q4 := h2 i List.mem_cons_self
    cases r with
    | none =>
      have := hN i q1 q2
      omega
    | some i' =>
      obtain ⟨g1, g2, g3, g4⟩ := hN
      have g5 := g4 i q1 q2 (by omega)
      have hm := (ord_mem hC).mpr ((hR.tg_ne g1 hC).mp g2)
      rw [hL] at hm
      rcases List.mem_append.mp hm with hm | hm
      · have := h1 i' hm
        have := (hin i' (Or.inl hm)).2.2
        omega
      · have e := (hin i' (Or.inr hm)).2.2
        rcases List.mem_cons.mp hm with hm | hm
        · rw [hm]; rfl
        · have := (List.pairwise_cons.mp hsort.2.1).1 i' hm
          omega
/-! runs -/
def gR (R : List Run) (k : Nat) : Run := R.getD k z4
def rlo (R : List Run) (k : Nat) : Int32 := (gR R k).1
def rhi (R : List Run) (k : Nat) : Int32 := (gR R k).2.1
def rtg (R : List Run) (k : Nat) : Nat := (gR R k).2.2.1
def rwt (R : List Run) (k : Nat) : Nat := (gR R k).2.2.2
def jnB (R : List Run) (c : Run) : Bool := decide (0 < R.length ∧ rtg R (R.length - 1) = c.2.2.1 ∧ (rhi R (R.length - 1)).toInt + 1 = c.1.toInt)
def jnM (R : List Run) (c : Run) : List Run := R.set (R.length - 1) (rlo R (R.length - 1), c.2.1, c.2.2.1, rwt R (R.length - 1) + c.2.2.2)
def jn (R : List Run) (c : Run) : List Run := if jnB R c = true then jnM R c else R ++ [c]
def Rep (R : List Run) (lo hi tg wt : Nat → Int32) : Prop := ∀ k, k < R.length → lo k = rlo R k ∧ hi k = rhi R k ∧ tg k = nI (rtg R k) ∧ wt k = nI (rwt R k)
theorem gR_app {R : List Run} {c : Run} (k : Nat) : gR (R ++ [c]) k = if k = R.length then c else gR R k := by
  unfold gR
  rw [List.getD_eq_getElem?_getD, List.getD_eq_getElem?_getD]
  by_cases h : k = R.length
  · subst h; simp
  · rw [if_neg h]
    rcases Nat.lt_or_ge k R.length with q | q
    · rw [List.getElem?_append_left q]
    · rw [List.getElem?_append_right q, List.getElem?_eq_none (by simp; omega), List.getElem?_eq_none q]
theorem gR_set {R : List Run} {c : Run} {i : Nat} (hi : i < R.length) (k : Nat) : gR (R.set i c) k = if k = i then c else gR R k := by
  unfold gR
  rw [List.getD_eq_getElem?_getD, List.getD_eq_getElem?_getD]
  by_cases h : k = i
  · subst h; rw [List.getElem?_set_self hi]; simp
  · rw [if_neg h, List.getElem?_set_ne (Ne.symm h)]
/-- a row of runs as it comes out of cases -/
def RInv (R : List Run) : Prop := (∀ k, k < R.length → (rlo R k).toInt ≤ (rhi R k).toInt ∧ rtg R k < 16) ∧ ∀ k, k + 1 < R.length → (rhi R k).toInt < (rlo R (k + 1)).toInt
def sm (f : Nat → Nat) (i : Nat) : Nat → Nat
  | 0 => 0
  | n + 1 => sm f i n + f (i + n)
theorem sm_congr {f g : Nat → Nat} {i : Nat} : ∀ n : Nat, (∀ k, i ≤ k → k < i + n → f k = g k) → sm f i n = sm g i n
  | 0, _ => rfl
  | n + 1, h => by rw [sm, sm, sm_congr n (fun k h1 h2 => h k h1 (by omega)), h (i + n) (by omega) (by omega)]
theorem sm_le {f g : Nat → Nat} {i : Nat} : ∀ n : Nat, (∀ k, i ≤ k → k < i + n → f k ≤ g k) → sm f i n ≤ sm g i n
  | 0, _ => Nat.le_refl _
  | n + 1, h => by
    rw [sm, sm]
    have := sm_le (f := f) (g := g) (i := i) n (fun k h1 h2 => h k h1 (by omega))
    have := h (i + n) (by omega) (by omega)
    omega
theorem sm_split {f : Nat → Nat} {i m : Nat} : ∀ n : Nat, sm f i (m + n) = sm f i m + sm f (i + m) n
  | 0 => rfl
  | n + 1 => by rw [← Nat.add_assoc, sm, sm, sm_split n]; rw [show i + (m + n) = i + m + n by omega]; omega
def rsum (R : List Run) : Nat := sm (rwt R) 0 R.length
theorem jn_len {R : List Run} {c : Run} : (jn R c).length = R.length ∨ (jn R c).length = R.length + 1 := by
  unfold jn
  split
  · left; unfold jnM; simp
  · right; simp
theorem jn_sum {R : List Run} {c : Run} : rsum (jn R c) = rsum R + c.2.2.2 := by
  unfold jn rsum
  split
  · rename_i h
    unfold jnB at h
    rw [decide_eq_true_eq] at h
    have hl : R.length - 1 < R.length := by omega
    have e : (jnM R c).length = (R.length - 1) + 1 := by unfold jnM; simp; omega
    have e2 : sm (rwt R) 0 R.length = sm (rwt R) 0 ((R.length - 1) + 1) := by rw [show R.length - 1 + 1 = R.length by omega]
    rw [e, e2, sm, sm, Nat.zero_add]
    have e3 : rwt (jnM R c) (R.length - 1) = rwt R (R.length - 1) + c.2.2.2 := by
      unfold rwt jnM
      rw [gR_set hl, if_pos rfl]
      rfl
    have e4 : sm (rwt (jnM R c)) 0 (R.length - 1) = sm (rwt R) 0 (R.length - 1) := by
      refine sm_congr _ (fun k _ h2 => ?_)
      unfold rwt jnM
      rw [gR_set hl, if_neg (by omega)]
    rw [e3, e4]
    omega
  · have e : (R ++ [c]).length = R.length + 1 := by simp
    rw [e, sm, Nat.zero_add]
    have e3 : rwt (R ++ [c]) R.length = c.2.2.2 := by
      unfold rwt
      rw [gR_app, if_pos rfl]
    have e4 : sm (rwt (R ++ [c])) 0 R.length = sm (rwt R) 0 R.length := by
      refine sm_congr _ (fun k _ h2 => ?_)
      unfold rwt
      rw [gR_app, if_neg (by omega)]
    rw [e3, e4]
theorem jn_inv {R : List Run} {c : Run} (hR : RInv R) (hc : c.1.toInt ≤ c.2.1.toInt ∧ c.2.2.1 < 16) (hl : 0 < R.length → (rhi R (R.length - 1)).toInt < c.1.toInt) : RInv (jn R c) ∧ rhi (jn R c) ((jn R c).length - 1) = c.2.1 ∧ 0 < (jn R c).length := by
  unfold jn
  split
  · rename_i h
    unfold jnB at h
    rw [decide_eq_true_eq] at h
    have hl1 : R.length - 1 < R.length := by omega
    have hlen : (jnM R c).length = R.length := by unfold jnM; simp
    have hg : ∀ k, gR (jnM R c) k = if k = R.length - 1 then (rlo R (R.length - 1), c.2.1, c.2.2.1, rwt R (R.length - 1) + c.2.2.2) else gR R k := fun k => by unfold jnM; rw [gR_set hl1]
    refine ⟨⟨fun k hk => ?_, fun k hk => ?_⟩, ?_, ?_⟩
    · unfold rlo rhi rtg
      rw [hg]
      split
      · have := (hR.1 (R.length - 1) hl1).1
        have := hl h.1
        exact ⟨by show (rlo R (R.length - 1)).toInt ≤ c.2.1.toInt; omega, hc.2⟩
      · exact hR.1 k (by omega)
    · have h2 := hR.2 k (by omega)
      unfold rlo rhi at h2 ⊢
      rw [hg, hg, if_neg (by omega)]
      split
      · rename_i q
        rw [q] at h2
        exact h2
      · exact h2
    · unfold rhi
      rw [hg, hlen, if_pos rfl]
    · omega
  · have hlen : (R ++ [c]).length = R.length + 1 := by simp
    refine ⟨⟨fun k hk => ?_, fun k hk => ?_⟩, ?_, ?_⟩
    · unfold rlo rhi rtg
      rw [gR_app]
      split
      · exact hc
      · exact hR.1 k (by omega)
    · unfold rlo rhi
      rw [gR_app, gR_app, if_neg (by omega)]
      split
      · have := hl (by omega)
        unfold rhi at this
        rw [show k = R.length - 1 by omega]
        exact this
      · exact hR.2 k (by omega)
    · unfold rhi
      rw [gR_app, hlen, if_pos (by omega)]
    · omega
def runsF (C : Cs) (rest : Nat) (l : List Nat) : List Run := (l.filter (fun i => (gC C i).2.2.1 != rest)).foldl (fun R i => jn R (gC C i)) []
def runsOf (C : Cs) (rest : Nat) : List Run := runsF C rest (ordL C)
theorem runsF_snoc {C : Cs} {rest : Nat} {l : List Nat} {i : Nat} : runsF C rest (l ++ [i]) = if ((gC C i).2.2.1 != rest) = true then jn (runsF C rest l) (gC C i) else runsF C rest l := by
  unfold runsF
  rw [List.filter_append, List.foldl_append]
  by_cases h : ((gC C i).2.2.1 != rest) = true
  · rw [if_pos h]
    simp only [List.filter_cons, if_pos h, List.filter_nil, List.foldl_cons, List.foldl_nil]
  · rw [if_neg h]
    simp only [List.filter_cons, if_neg h, List.filter_nil, List.foldl_nil]
/-- what holds of the runs of any first part of the cases by lows -/
theorem runsF_inv0 {C : Cs} {rest : Nat} (hC : cOk C) : ∀ (n : Nat) (l m : List Nat), l.length = n → ordL C = l ++ m → RInv (runsF C rest l) ∧ (runsF C rest l).length ≤ l.length ∧ rsum (runsF C rest l) ≤ 1000 * l.length ∧ (0 < (runsF C rest l).length → ∀ j ∈ m, (rhi (runsF C rest l) ((runsF C rest l).length - 1)).toInt < clo C j) := by
  intro n
  induction n with
  | zero =>
    intro l m h hm
    have : l = [] := List.eq_nil_of_length_eq_zero h
    subst this
    exact ⟨⟨fun k hk => (Nat.not_lt_zero _ hk).elim, fun k hk => (Nat.not_lt_zero _ hk).elim⟩, Nat.le_refl _, Nat.zero_le _, fun h => (Nat.not_lt_zero _ h).elim⟩
  | succ n ih =>
    intro l m h hm
    obtain ⟨l', i, rfl⟩ : ∃ l' i, l = l' ++ [i] := ⟨l.dropLast, l.getLast (by intro e; rw [e] at h; cases h), (List.dropLast_concat_getLast _).symm⟩
    have hl : l'.length = n := by simpa using h
    have hm' : ordL C = l' ++ (i :: m) := by rw [hm]; simp
    obtain ⟨h1, h2, h3, h4⟩ := ih l' (i :: m) hl hm'
    have hi : i ∈ ordL C := by rw [hm']; simp
    obtain ⟨c, hc⟩ := Option.isSome_iff_exists.mp ((ord_mem hC).mp hi)
    have hcc := hC.1 i c hc
    have hsort := ord_sort hC
    rw [hm', List.pairwise_append] at hsort
    have hlt : ∀ j ∈ m, c.2.1.toInt < clo C j := by
      intro j hj
      have h5 := (List.pairwise_cons.mp hsort.2.1).1 j hj
      have hjm : j ∈ ordL C := by rw [hm']; simp [hj]
      obtain ⟨d, hd⟩ := Option.isSome_iff_exists.mp ((ord_mem hC).mp hjm)
      have hij : i ≠ j := by intro e; rw [e] at h5; omega
      have h6 := hC.2 i j c d hij hc hd
      unfold clo at h5 ⊢
      rw [gC_some hc, gC_some hd] at h5
      rw [gC_some hd]
      have := (hC.1 j d hd).2.1
      omega
    rw [runsF_snoc, gC_some hc]
    split
    · obtain ⟨g1, g2, g3⟩ := jn_inv (c := c) h1 ⟨hcc.2.1, hcc.2.2.1⟩ (fun q => by have := h4 q i List.mem_cons_self; unfold clo at this; rw [gC_some hc] at this; exact this)
      refine ⟨g1, ?_, ?_, fun _ j hj => ?_⟩
      · rcases jn_len (R := runsF C rest l') (c := c) with e | e <;> omega
      · rw [jn_sum]; have := hcc.2.2.2; omega
      · rw [g2]; exact hlt j hj
    · refine ⟨h1, by omega, by omega, fun q j hj => h4 q j (List.mem_cons_of_mem _ hj)⟩
theorem runsF_inv {C : Cs} {rest : Nat} (hC : cOk C) (l m : List Nat) (hm : ordL C = l ++ m) : RInv (runsF C rest l) ∧ (runsF C rest l).length ≤ l.length ∧ rsum (runsF C rest l) ≤ 1000 * l.length ∧ (0 < (runsF C rest l).length → ∀ j ∈ m, (rhi (runsF C rest l) ((runsF C rest l).length - 1)).toInt < clo C j) := runsF_inv0 hC l.length l m rfl hm
theorem runs_inv {C : Cs} (hC : cOk C) (rest : Nat) : RInv (runsOf C rest) ∧ (runsOf C rest).length ≤ 24 ∧ rsum (runsOf C rest) ≤ 24000 := by
  have h := runsF_inv (rest := rest) hC (ordL C) [] (by simp)
  have hl := ord_len (C := C)
  exact ⟨h.1, Nat.le_trans h.2.1 hl, by show rsum (runsF C rest (ordL C)) ≤ 24000; have := h.2.2.1; omega⟩
end
section
/-! sums without wrap-around -/
theorem L_add {a b : Int64} (h1 : -9223372036854775808 ≤ a.toInt + b.toInt) (h2 : a.toInt + b.toInt < 9223372036854775808) : (a + b).toInt = a.toInt + b.toInt := by
  rw [Int64.toInt_add, Int.bmod]
  split <;> omega
theorem L_sub {a b : Int64} (h1 : -9223372036854775808 ≤ a.toInt - b.toInt) (h2 : a.toInt - b.toInt < 9223372036854775808) : (a - b).toInt = a.toInt - b.toInt := by
  rw [Int64.toInt_sub, Int.bmod]
  split <;> omega
theorem L_mul {a b : Int64} (h1 : -9223372036854775808 ≤ a.toInt * b.toInt) (h2 : a.toInt * b.toInt < 9223372036854775808) : (a * b).toInt = a.toInt * b.toInt := by
  rw [Int64.toInt_mul, Int.bmod]
  generalize a.toInt * b.toInt = x at *
  split <;> omega
theorem I_add {a b : Int32} (h1 : -2147483648 ≤ a.toInt + b.toInt) (h2 : a.toInt + b.toInt < 2147483648) : (a + b).toInt = a.toInt + b.toInt := by
  rw [Int32.toInt_add, Int.bmod]
  split <;> omega
theorem I_sub {a b : Int32} (h1 : -2147483648 ≤ a.toInt - b.toInt) (h2 : a.toInt - b.toInt < 2147483648) : (a - b).toInt = a.toInt - b.toInt := by
  rw [Int32.toInt_sub, Int.bmod]
  split <;> omega
theorem I_lo (x : Int32) : -2147483648 ≤ x.toInt := Int32.le_toInt x
theorem I_hi (x : Int32) : x.toInt < 2147483648 := Int32.toInt_lt x
theorem L_1 : (lN 1).toInt = 1 := by decide
theorem L_lN {n : Nat} (h : n < 9223372036854775808) : (lN n).toInt = (n : Int) := pk_lT h
theorem L_of {x : Int64} {n : Nat} (h : x.toInt = (n : Int)) (hn : n < 9223372036854775808) : x = lN n := Int64.toInt_inj.mp (by rw [h, L_lN hn])
theorem I_of {x : Int32} {n : Nat} (h : x.toInt = (n : Int)) (hn : n < 2147483648) : x = nI n := Int32.toInt_inj.mp (by rw [h, nI_toInt hn])
theorem vSp.fr {h h' : xH} {o o' w : Nat} {lo hi tg wt : Nat → Int32} {n : Int32} (hS : vSp h o lo hi tg wt n) (hF : xFr o' w h h') (hd : o + 5 ≤ o' ∨ o' + w ≤ o) : vSp h' o lo hi tg wt n :=
  ⟨(hF.1 _ (by omega)).trans hS.1, (hF.1 _ (by omega)).trans hS.2.1, (hF.1 _ (by omega)).trans hS.2.2.1, (hF.1 _ (by omega)).trans hS.2.2.2.1, (hF.1 _ (by omega)).trans hS.2.2.2.2⟩
/-- Spans that hold the runs R -/
def vRuns (h : xH) (o : Nat) (R : List Run) : Prop := ∃ lo hi tg wt, vSp h o lo hi tg wt (nI R.length) ∧ Rep R lo hi tg wt ∧ ∀ k, R.length ≤ k → k < 24 → tg k = -1
theorem vRuns.fr {h h' : xH} {o o' w : Nat} {R : List Run} (hS : vRuns h o R) (hF : xFr o' w h h') (hd : o + 5 ≤ o' ∨ o' + w ≤ o) : vRuns h' o R := by
  obtain ⟨lo, hi, tg, wt, h1, h2, h3⟩ := hS
  exact ⟨lo, hi, tg, wt, h1.fr hF hd, h2, h3⟩
theorem vRuns.obj {h : xH} {o : Nat} {R : List Run} (hS : vRuns h o R) : h.1 o = cO 2 [.ref (o + 1), .ref (o + 2), .ref (o + 3), .ref (o + 4), .int (nI R.length)] := by
  obtain ⟨lo, hi, tg, wt, h1, -⟩ := hS
  exact h1.1
theorem Rep.app {R : List Run} {lo hi tg wt : Nat → Int32} (hR : Rep R lo hi tg wt) (c : Run) : Rep (R ++ [c]) (upd lo R.length c.1) (upd hi R.length c.2.1) (upd tg R.length (nI c.2.2.1)) (upd wt R.length (nI c.2.2.2)) := by
  intro k hk
  have hl : (R ++ [c]).length = R.length + 1 := by simp
  unfold rlo rhi rtg rwt
  rw [gR_app]
  by_cases h : k = R.length
  · subst h
    rw [if_pos rfl]
    exact ⟨pk_us, pk_us, pk_us, pk_us⟩
  · rw [if_neg h, pk_un h, pk_un h, pk_un h, pk_un h]
    exact hR k (by omega)
theorem Rep.mrg {R : List Run} {lo hi tg wt : Nat → Int32} (hR : Rep R lo hi tg wt) {c : Run} {m : Nat} (hm : R.length = m + 1) (ht : rtg R m = c.2.2.1) : Rep (jnM R c) lo (upd hi m c.2.1) tg (upd wt m (wt m + nI c.2.2.2)) := by
  intro k hk
  have hl : (jnM R c).length = R.length := by unfold jnM; simp
  have hm1 : R.length - 1 = m := by omega
  unfold rlo rhi rtg rwt jnM
  rw [hm1, gR_set (by omega)]
  by_cases h : k = m
  · subst h
    obtain ⟨h1, h2, h3, h4⟩ := hR k (by omega)
    rw [if_pos rfl, pk_us, pk_us, h4, nI_add]
    exact ⟨h1, rfl, by rw [h3, ht], rfl⟩
  · rw [if_neg h, pk_un h, pk_un h]
    exact hR k (by omega)
section
variable {G : xG} {h : xH} {o : Nat} {R : List Run}
theorem tR_low (hV : vRuns h o R) (hl : R.length ≤ 24) {k : Nat} (hk : k < R.length) : AM G mX2_low 0 0 [.ref o, .int (nI k)] h (fun r h' => r = some (.int (rlo R k)) ∧ h' = h) := by
  obtain ⟨lo, hi, tg, wt, hS, hR, -⟩ := hV
  have := tX2_low (G := G) hS (k := k) (by omega)
  rw [(hR k hk).1] at this
  exact this
theorem tR_high (hV : vRuns h o R) (hl : R.length ≤ 24) {k : Nat} (hk : k < R.length) : AM G mX2_high 0 0 [.ref o, .int (nI k)] h (fun r h' => r = some (.int (rhi R k)) ∧ h' = h) := by
  obtain ⟨lo, hi, tg, wt, hS, hR, -⟩ := hV
  have := tX2_high (G := G) hS (k := k) (by omega)
  rw [(hR k hk).2.1] at this
  exact this
theorem tR_target (hV : vRuns h o R) (hl : R.length ≤ 24) {k : Nat} (hk : k < R.length) : AM G mX2_target 0 0 [.ref o, .int (nI k)] h (fun r h' => r = some (.int (nI (rtg R k))) ∧ h' = h) := by
  obtain ⟨lo, hi, tg, wt, hS, hR, -⟩ := hV
  have := tX2_target (G := G) hS (k := k) (by omega)
  rw [(hR k hk).2.2.1] at this
  exact this
theorem tR_weight (hV : vRuns h o R) (hl : R.length ≤ 24) {k : Nat} (hk : k < R.length) : AM G mX2_weight 0 0 [.ref o, .int (nI k)] h (fun r h' => r = some (.int (nI (rwt R k))) ∧ h' = h) := by
  obtain ⟨lo, hi, tg, wt, hS, hR, -⟩ := hV
  have := tX2_weight (G := G) hS (k := k) (by omega)
  rw [(hR k hk).2.2.2] at this
  exact this
theorem tR_held (hV : vRuns h o R) : AM G mX2_held 0 0 [.ref o] h (fun r h' => r = some (.int (nI R.length)) ∧ h' = h) := by
  obtain ⟨lo, hi, tg, wt, hS, -⟩ := hV
  exact tX2_held hS
theorem tX2_join (hV : vRuns h o R) (hl : R.length < 24) (hI : RInv R) (low high : Int32) {t w : Nat} (ht : t < 16) : AM G mX2_join 2 0 [.ref o, .int low, .int high, .int (nI t), .int (nI w)] h
    (fun r h' => r = none ∧ vRuns h' o (jn R (low, high, t, w)) ∧ xFr o 5 h h') := by
  obtain ⟨lo, hi, tg, wt, hS, hR, hN⟩ := id hV
  obtain ⟨s, s0, s1, s2, s3⟩ := id hS
  refine AM.of rfl rfl (Nat.le_of_ble_eq_true rfl) rfl ?_
  have happ : ∀ x, jnB R (low, high, t, w) = false → Ax G mX2_join 2 0 67 [.ref o, .int low, .int high, .int (nI t), .int (nI w), .int x] [] h (fun r h' => r = none ∧ vRuns h' o (jn R (low, high, t, w)) ∧ xFr o 5 h h') := by
    intro x hj
    have e : jn R (low, high, t, w) = R ++ [(low, high, t, w)] := by unfold jn; rw [if_neg (by rw [hj]; decide)]
    rw [e]
    refine Ax_al0 dX2_join_67 ?_
    refine Ax_al0 dX2_join_68 ?_
    refine Ax_getf kfX2 fX2_24 dX2_join_69 s rfl ?_
    refine Ax_il1 dX2_join_72 ?_
    refine Ax_il2 dX2_join_73 ?_
    refine Ax_il3 dX2_join_74 ?_
    refine Ax_il4 dX2_join_75 ?_
    refine Ax_cVv dX2_join_77 vX2_65 kfX2 s (tX2_set hS (k := R.length) hl low high (nI t) (nI w)) rfl rfl (by decide) (by simp [Value.category]) (Nat.le_refl _) (fun h21 q21 => ?_)
    obtain ⟨g1, g2⟩ := q21
    rw [if_pos (hN R.length (Nat.le_refl _) hl)] at g1
    exact Ax_ret dX2_join_80 rfl ⟨rfl, ⟨_, _, _, _, by simpa using g1, hR.app _, fun k h1 h2 => by (have hl2 : (R ++ [(low, high, t, w)]).length = R.length + 1 := by simp); rw [pk_un (by omega)]; exact hN k (by omega) h2⟩, g2⟩
  cases hm : R.length with
  | zero =>
    rw [hm] at s
    refine Ax_al0 dX2_join_0 ?_
    refine Ax_getf kfX2 fX2_24 dX2_join_1 s rfl ?_
    refine Ax_ic1 dX2_join_4 ?_
    refine Ax_isub dX2_join_5 ?_
    refine Ax_is5 dX2_join_6 (Nat.le_of_ble_eq_true rfl) (by rfl) ?_
    refine Ax_al0 dX2_join_8 ?_
    refine Ax_il5 dX2_join_9 ?_
    refine Ax_cVi dX2_join_11 vX2_34 kfX2 s (tX2_has hS _) rfl rfl (by decide) (by simp [Value.category]) ?_
    refine Ax_ifeqB (tgt := 67) dX2_join_14 (by decide) (fun c14 => ?_) (fun c14 => ?_)
    · exact happ _ (by unfold jnB; rw [decide_eq_false_iff_not]; omega)
    · have e : gHas tg (nI 0 - nI 1) = false := by unfold gHas; rw [show gIn 24 (nI 0 - nI 1) = false by decide]; rfl
      rw [e] at c14
      cases c14
  | succ m =>
    rw [hm] at s
    have hm1 : R.length - 1 = m := by omega
    obtain ⟨g1, g2, g3, g4⟩ := hR m (by omega)
    have hb : rtg R m < 16 := (hI.1 m (by omega)).2
    have hno : ¬ (rtg R m = t ∧ (rhi R m).toInt + 1 = low.toInt) → jnB R (low, high, t, w) = false := by
      intro q
      unfold jnB
      rw [decide_eq_false_iff_not, hm1]
      exact fun z => q z.2
    have he : (hi m).toInt64.toInt + (lN 1).toInt = (rhi R m).toInt + 1 := by rw [g2, Int32.toInt_toInt64, L_1]
    have hb1 := I_lo (rhi R m)
    have hb2 := I_hi (rhi R m)
    refine Ax_al0 dX2_join_0 ?_
    refine Ax_getf kfX2 fX2_24 dX2_join_1 s rfl ?_
    refine Ax_ic1 dX2_join_4 ?_
    refine Ax_isubn dX2_join_5 (by omega) ?_
    refine Ax_is5 dX2_join_6 (Nat.le_of_ble_eq_true rfl) (by rfl) ?_
    refine Ax_al0 dX2_join_8 ?_
    refine Ax_il5 dX2_join_9 ?_
    refine Ax_cVi dX2_join_11 vX2_34 kfX2 s (tX2_has hS _) rfl rfl (by decide) (by simp [Value.category]) ?_
    refine Ax_ifeqB (tgt := 67) dX2_join_14 (by decide) (fun c14 => ?_) (fun c14 => ?_)
    · rw [show m + 1 - 1 = m by omega, gHas_n (by omega), g3] at c14
      have := congrArg Int32.toInt (bne_eq_false_iff_eq.mp c14)
      rw [nI_toInt (by omega)] at this
      have h7 : (-1 : Int32).toInt = -1 := rfl
      omega
    rw [show m + 1 - 1 = m by omega]
    refine Ax_al0 dX2_join_17 ?_
    refine Ax_getf kfX2 fX2_18 dX2_join_18 s rfl ?_
    refine Ax_il5 dX2_join_21 ?_
    refine Ax_ialdn dX2_join_23 s2 (by omega) (by omega) ?_
    refine Ax_il3 dX2_join_24 ?_
    refine Ax_cmpne (tgt := 67) dX2_join_25 (by decide) (fun c25 => ?_) (fun c25 => ?_)
    · exact happ _ (hno (fun z => c25 (by rw [g3, z.1])))
    have ht2 : rtg R m = t := by
      rw [g3] at c25
      exact (nI_eq (by omega) (by omega)).mp c25
    refine Ax_al0 dX2_join_28 ?_
    refine Ax_getf kfX2 fX2_15 dX2_join_29 s rfl ?_
    refine Ax_il5 dX2_join_32 ?_
    refine Ax_ialdn dX2_join_34 s1 (by omega) (by omega) ?_
    refine Ax_i2l dX2_join_35 ?_
    refine Ax_lc1 dX2_join_36 ?_
    refine Ax_ladd dX2_join_37 ?_
    refine Ax_il1 dX2_join_38 ?_
    refine Ax_i2l dX2_join_39 ?_
    refine Ax_lcmp dX2_join_40 ?_
    refine Ax_ifneC (tgt := 67) dX2_join_41 (by decide) (fun c41 => ?_) (fun c41 => ?_)
    · rw [L_add (by rw [he]; omega) (by rw [he]; omega), he, Int32.toInt_toInt64] at c41
      exact happ _ (hno (fun z => c41 z.2))
    rw [L_add (by rw [he]; omega) (by rw [he]; omega), he, Int32.toInt_toInt64] at c41
    have e : jn R (low, high, t, w) = jnM R (low, high, t, w) := by
      unfold jn
      rw [if_pos (by unfold jnB; rw [decide_eq_true_eq, hm1]; exact ⟨by omega, ht2, c41⟩)]
    rw [e]
    have hl2 : (jnM R (low, high, t, w)).length = m + 1 := by unfold jnM; simp [hm]
    have fr : ∀ q, (q < o ∨ o + 5 ≤ q) → h.1 q = h.1 q := fun _ _ => rfl
    have zr : h.2 = h.2 := rfl
    refine Ax_al0 dX2_join_44 ?_
    refine Ax_getf kfX2 fX2_15 dX2_join_45 s rfl ?_
    refine Ax_il5 dX2_join_48 ?_
    refine Ax_il2 dX2_join_50 ?_
    refine Ax_iastn dX2_join_51 s1 (by omega) (by omega) (Ax_up (fun h31 e31 f31 z31 => ?_))
    replace s := (f31 _ (by omega)).trans s
    replace s0 := (f31 _ (by omega)).trans s0
    replace s1 := e31
    replace s2 := (f31 _ (by omega)).trans s2
    replace s3 := (f31 _ (by omega)).trans s3
    replace fr : ∀ q, (q < o ∨ o + 5 ≤ q) → h31.1 q = h.1 q := fun q hq => (f31 q (by omega)).trans (fr q hq)
    replace zr := z31.trans zr
    refine Ax_al0 dX2_join_52 ?_
    refine Ax_getf kfX2 fX2_21 dX2_join_53 s rfl ?_
    refine Ax_il5 dX2_join_56 ?_
    refine Ax_dup2 dX2_join_58 rfl rfl ?_
    refine Ax_ialdn dX2_join_59 s3 (by omega) (by omega) ?_
    refine Ax_il4 dX2_join_60 ?_
    refine Ax_iadd dX2_join_62 ?_
    refine Ax_iastn dX2_join_63 s3 (by omega) (by omega) (Ax_up (fun h32 e32 f32 z32 => ?_))
    replace s := (f32 _ (by omega)).trans s
    replace s0 := (f32 _ (by omega)).trans s0
    replace s1 := (f32 _ (by omega)).trans s1
    replace s2 := (f32 _ (by omega)).trans s2
    replace s3 := e32
    replace fr : ∀ q, (q < o ∨ o + 5 ≤ q) → h32.1 q = h.1 q := fun q hq => (f32 q (by omega)).trans (fr q hq)
    replace zr := z32.trans zr
    refine Ax_goto (tgt := 80) dX2_join_64 (by decide) ?_
    exact Ax_ret dX2_join_80 rfl ⟨rfl, ⟨_, _, _, _, by rw [hl2]; exact ⟨s, s0, s1, s2, s3⟩, hR.mrg (c := (low, high, t, w)) hm ht2, fun k h1 h2 => hN k (by omega) h2⟩, fr, zr⟩
end
end
section
section
variable {G : xG} {h : xH} {o oc : Nat} {C : Cs}
theorem tX2_gather {lo hi tg wt clo' chi ctg cwt : Nat → Int32} {n cn : Int32} (hS : vSp h o lo hi tg wt n) (hc : vSp h oc clo' chi ctg cwt cn) (hd : oc + 5 ≤ o ∨ o + 5 ≤ oc) (hC : cOk C) (hR : CRep C clo' chi ctg cwt) {rest : Nat} (hr : rest < 16) : AM G mX2_gather 3 0 [.ref o, .ref oc, .int (nI rest)] h
    (fun r h' => r = none ∧ vRuns h' o (runsOf C rest) ∧ xFr o 5 h h') := by
  obtain ⟨s, s0, s1, s2, s3⟩ := id hS
  have c0 := hc.1
  refine AM.of rfl rfl (Nat.le_of_ble_eq_true rfl) rfl ?_
  refine Ax_al0 dX2_gather_0 ?_
  refine Ax_getf kfX2 fX2_18 dX2_gather_1 s rfl ?_
  refine Ax_icm1 dX2_gather_4 ?_
  refine Ax_cSv dX2_gather_5 sX2_28 (tJ7_fill s2 (by decide) _) rfl rfl (by decide) (by simp [Value.category]) (Nat.le_refl _) (fun h2 q2 => ?_)
  obtain ⟨⟨g, e1, e2⟩, e3, e4⟩ := q2
  replace s := (e3 _ (by omega)).trans s
  replace c0 := (e3 _ (by omega)).trans c0
  replace s0 := (e3 _ (by omega)).trans s0
  replace s1 := (e3 _ (by omega)).trans s1
  replace s2 := e1
  replace s3 := (e3 _ (by omega)).trans s3
  have hF2 : xFr o 5 h h2 := ⟨fun q hq => e3 q (by omega), e4⟩
  have fr : ∀ q, (q < o ∨ o + 5 ≤ q) → h2.1 q = h2.1 q := fun _ _ => rfl
  have zr : h2.2 = h2.2 := rfl
  refine Ax_al0 dX2_gather_8 ?_
  refine Ax_ic0 dX2_gather_9 ?_
  refine Ax_putf kfX2 fX2_24 dX2_gather_10 s (Nat.le_of_ble_eq_true rfl) (Or.inl rfl) (by rfl) (by rfl) (Ax_up (fun h4 e4 f4 z4 => ?_))
  replace s := e4
  replace s0 := (f4 _ (by omega)).trans s0
  replace s1 := (f4 _ (by omega)).trans s1
  replace s2 := (f4 _ (by omega)).trans s2
  replace s3 := (f4 _ (by omega)).trans s3
  replace c0 := (f4 _ (by omega)).trans c0
  replace fr : ∀ q, (q < o ∨ o + 5 ≤ q) → h4.1 q = h2.1 q := fun q hq => (f4 q (by omega)).trans (fr q hq)
  replace zr := z4.trans zr
  refine Ax_al1 dX2_gather_13 ?_
  refine Ax_ldc2 dX2_gather_14 cX2_42 ?_
  refine Ax_cViE dX2_gather_17 vX2_44 kfX2 c0 (tX2_nextByLow ((hc.fr hF2 hd).fr ⟨fr, zr⟩ hd) _) rfl rfl (by decide) (by simp [Value.category]) (fun x17 p17 => ?_)
  refine Ax_is3 dX2_gather_20 (Nat.le_of_ble_eq_true rfl) (by rfl) ?_
  obtain ⟨q, hq, hN⟩ := p17
  subst hq
  have hF3 : xFr o 5 h h4 := hF2.tr ⟨fr, zr⟩
  have hmin : (-9223372036854775808 : Int64).toInt = -9223372036854775808 := by decide
  have hhead : q = (ordL C).head? := next_head hC hR (done := []) (todo := ordL C) rfl (fun j hj => absurd hj List.not_mem_nil) (fun j hj => by rw [hmin]; have := I_lo (gC C j).1; unfold clo; omega) hN
  subst hhead
  have hV0 : vRuns h4 o (runsF C rest []) := ⟨_, _, _, _, ⟨s, s0, s1, s2, s3⟩, fun k hk => (Nat.not_lt_zero _ hk).elim, fun k _ hk => e2 k hk⟩
  suffices hloop : ∀ todo done k h1, ordL C = done ++ todo → k + todo.length ≤ 24 → done.length ≤ k → vRuns h1 o (runsF C rest done) → xFr o 5 h h1 → Ax G mX2_gather 3 0 24 [.ref o, .ref oc, .int (nI rest), .int (oI todo.head?), .int (nI k)] [] h1 (fun r h' => r = none ∧ vRuns h' o (runsOf C rest) ∧ xFr o 5 h h') by
    refine Ax_ic0 dX2_gather_21 ?_
    refine Ax_is4 dX2_gather_22 (Nat.le_of_ble_eq_true rfl) (by rfl) ?_
    exact hloop (ordL C) [] 0 h4 rfl (by have := ord_len (C := C); omega) (Nat.le_refl _) hV0 hF3
  clear hV0 hF3 hN hmin fr zr s s0 s1 s2 s3 c0 hF2 e1 e2 e3 e4
  intro todo
  induction todo with
  | nil =>
    intro done k h1 hL hk hdl hV hF
    rw [List.append_nil] at hL
    have s := hV.obj
    have hfin : vRuns h1 o (runsOf C rest) := by unfold runsOf; rw [hL]; exact hV
    refine Ax_il4 dX2_gather_24 ?_
    refine Ax_bp24 dX2_gather_26 ?_
    refine Ax_cmpgen (tgt := 86) dX2_gather_28 (by decide) (by omega) (by omega) (fun c28 => ?_) (fun c28 => ?_)
    · exact Ax_ret dX2_gather_86 rfl ⟨rfl, hfin, hF⟩
    refine Ax_il3 dX2_gather_31 ?_
    refine Ax_icm1 dX2_gather_32 ?_
    refine Ax_cmpeq (tgt := 86) dX2_gather_33 (by decide) (fun c33 => ?_) (fun c33 => ?_)
    · exact Ax_ret dX2_gather_86 rfl ⟨rfl, hfin, hF⟩
    · exact absurd rfl c33
  | cons i t ih =>
    intro done k h1 hL hk hdl hV hF
    rw [List.length_cons] at hk
    show Ax G mX2_gather 3 0 24 [.ref o, .ref oc, .int (nI rest), .int (nI i), .int (nI k)] [] h1 _
    have hi : i ∈ ordL C := by rw [hL]; simp
    have his := (ord_mem hC).mp hi
    obtain ⟨c, hcc⟩ := Option.isSome_iff_exists.mp his
    have hck := hC.1 i c hcc
    have hi24 := hck.1
    obtain ⟨r1, r2, r3, r4⟩ := hR.lo hi24 his
    rw [gC_some hcc] at r1 r2 r3 r4
    have hinv := runsF_inv (rest := rest) hC done (i :: t) hL
    have hL' : ordL C = (done ++ [i]) ++ t := by rw [hL]; simp
    have hsort := ord_sort hC
    rw [hL', List.pairwise_append] at hsort
    have hc1 := hc.fr hF hd
    have c0 := hc1.1
    have s := hV.obj
    have hnext : ∀ h5, vRuns h5 o (runsF C rest (done ++ [i])) → xFr o 5 h h5 → Ax G mX2_gather 3 0 69 [.ref o, .ref oc, .int (nI rest), .int (nI i), .int (nI k)] [] h5 (fun r h' => r = none ∧ vRuns h' o (runsOf C rest) ∧ xFr o 5 h h') := by
      intro h5 hV5 hF5
      have hc5 := hc.fr hF5 hd
      have c0 := hc5.1
      refine Ax_al1 dX2_gather_69 ?_
      refine Ax_al1 dX2_gather_70 ?_
      refine Ax_il3 dX2_gather_71 ?_
      refine Ax_cVi dX2_gather_72 vX2_52 kfX2 c0 (tX2_low hc5 hi24) rfl rfl (by decide) (by simp [Value.category]) ?_
      refine Ax_i2l dX2_gather_75 ?_
      refine Ax_cViE dX2_gather_76 vX2_44 kfX2 c0 (tX2_nextByLow hc5 _) rfl rfl (by decide) (by simp [Value.category]) (fun x76 p76 => ?_)
      obtain ⟨q, hq, hN⟩ := p76
      subst hq
      have hhead : q = t.head? := next_head hC hR (done := done ++ [i]) (todo := t) hL' (fun j hj => by
        rw [Int32.toInt_toInt64, r1]
        rcases List.mem_append.mp hj with hj | hj
        · have := (List.pairwise_append.mp hsort.1).2.2 j hj i (List.mem_singleton.mpr rfl)
          unfold clo at this
          rw [gC_some hcc] at this
          unfold clo
          omega
        · rw [List.mem_singleton.mp hj]
          unfold clo
          rw [gC_some hcc]
          omega) (fun j hj => by
        rw [Int32.toInt_toInt64, r1]
        have := hsort.2.2 i (List.mem_append.mpr (Or.inr (List.mem_singleton.mpr rfl))) j hj
        unfold clo at this
        rw [gC_some hcc] at this
        exact this) hN
      subst hhead
      refine Ax_is3 dX2_gather_79 (Nat.le_of_ble_eq_true rfl) (by rfl) ?_
      refine Ax_inc4_1n dX2_gather_80 (Nat.le_of_ble_eq_true rfl) (by rfl) ?_
      refine Ax_goto (tgt := 24) dX2_gather_83 (by decide) ?_
      exact ih (done ++ [i]) (k + 1) h5 hL' (by omega) (by simp; omega) hV5 hF5
    have tlo := tX2_low (G := G) hc1 hi24
    have thi := tX2_high (G := G) hc1 hi24
    have ttg := tX2_target (G := G) hc1 hi24
    have twt := tX2_weight (G := G) hc1 hi24
    rw [r1] at tlo
    rw [r2] at thi
    rw [r3] at ttg
    rw [r4] at twt
    refine Ax_il4 dX2_gather_24 ?_
    refine Ax_bp24 dX2_gather_26 ?_
    refine Ax_cmpgen (tgt := 86) dX2_gather_28 (by decide) (by omega) (by omega) (fun c28 => ?_) (fun c28 => ?_)
    · omega
    refine Ax_il3 dX2_gather_31 ?_
    refine Ax_icm1 dX2_gather_32 ?_
    refine Ax_cmpeq (tgt := 86) dX2_gather_33 (by decide) (fun c33 => ?_) (fun c33 => ?_)
    · exfalso
      have := congrArg Int32.toInt c33
      rw [nI_toInt (by omega)] at this
      have h7 : (-1 : Int32).toInt = -1 := rfl
      omega
    refine Ax_al1 dX2_gather_36 ?_
    refine Ax_il3 dX2_gather_37 ?_
    refine Ax_cVi dX2_gather_38 vX2_48 kfX2 c0 ttg rfl rfl (by decide) (by simp [Value.category]) ?_
    refine Ax_il2 dX2_gather_41 ?_
    refine Ax_cmpeqn (tgt := 69) dX2_gather_42 (by decide) (by omega) (by omega) (fun c42 => ?_) (fun c42 => ?_)
    · refine hnext h1 ?_ hF
      rw [runsF_snoc, if_neg]
      · exact hV
      · rw [gC_some hcc]
        simp [c42]
    refine Ax_al0 dX2_gather_45 ?_
    refine Ax_al1 dX2_gather_46 ?_
    refine Ax_il3 dX2_gather_47 ?_
    refine Ax_cVi dX2_gather_48 vX2_52 kfX2 c0 tlo rfl rfl (by decide) (by simp [Value.category]) ?_
    refine Ax_al1 dX2_gather_51 ?_
    refine Ax_il3 dX2_gather_52 ?_
    refine Ax_cVi dX2_gather_53 vX2_55 kfX2 c0 thi rfl rfl (by decide) (by simp [Value.category]) ?_
    refine Ax_al1 dX2_gather_56 ?_
    refine Ax_il3 dX2_gather_57 ?_
    refine Ax_cVi dX2_gather_58 vX2_48 kfX2 c0 ttg rfl rfl (by decide) (by simp [Value.category]) ?_
    refine Ax_al1 dX2_gather_61 ?_
    refine Ax_il3 dX2_gather_62 ?_
    refine Ax_cVi dX2_gather_63 vX2_58 kfX2 c0 twt rfl rfl (by decide) (by simp [Value.category]) ?_
    refine Ax_cVv dX2_gather_66 vX2_61 kfX2 s (tX2_join hV (by omega) hinv.1 c.1 c.2.1 hck.2.2.1) rfl rfl (by decide) (by simp [Value.category]) (Nat.le_refl _) (fun h31 q31 => ?_)
    refine hnext _ ?_ (hF.tr q31.2)
    rw [runsF_snoc, if_pos]
    · rw [gC_some hcc]; exact q31.1
    · rw [gC_some hcc]
      simpa using c42
end
end
section
/-! sums over runs; the row of bits of a target -/
def wid (R : List Run) (k : Nat) : Nat := ((rhi R k).toInt - (rlo R k).toInt + 1).toNat
def off (R : List Run) (f : Nat) (x : Int32) : Int := x.toInt - (rlo R f).toInt
/-- bit b of the row of target t: b lies in a run f .. f + n - 1 of target t, from the first low on -/
def bitP (R : List Run) (f n t b : Nat) : Prop := ∃ k, f ≤ k ∧ k < f + n ∧ rtg R k = t ∧ (rlo R k).toInt - (rlo R f).toInt ≤ b ∧ (b : Int) ≤ (rhi R k).toInt - (rlo R f).toInt
def IsRow (R : List Run) (f n t x : Nat) : Prop := x < 2 ^ 64 ∧ ∀ b, b < 64 → (x.testBit b = true ↔ bitP R f n t b)
theorem IsRow.eq {R : List Run} {f n t x y : Nat} (h1 : IsRow R f n t x) (h2 : IsRow R f n t y) : x = y := by
  apply Nat.eq_of_testBit_eq
  intro b
  by_cases hb : b < 64
  · have := (h1.2 b hb).trans (h2.2 b hb).symm
    cases hx : x.testBit b <;> cases hy : y.testBit b <;> simp_all
  · rw [Nat.testBit_lt_two_pow (Nat.lt_of_lt_of_le h1.1 (Nat.pow_le_pow_right (by decide) (by omega))), Nat.testBit_lt_two_pow (Nat.lt_of_lt_of_le h2.1 (Nat.pow_le_pow_right (by decide) (by omega)))]
theorem rlo_mono {R : List Run} (hI : RInv R) : ∀ (n j : Nat), j + n < R.length → (rlo R j).toInt ≤ (rlo R (j + n)).toInt
  | 0, _, _ => Int.le_refl _
  | n + 1, j, h => by
    have h1 := rlo_mono hI n j (by omega)
    have h2 := (hI.1 (j + n) (by omega)).1
    have h3 := hI.2 (j + n) (by omega)
    rw [← Nat.add_assoc]
    omega
section
variable {G : xG} {h : xH} {o : Nat} {R : List Run}
theorem tX2_unlikeTargets (hV : vRuns h o R) (hl : R.length ≤ 24) (hI : RInv R) {f n : Nat} (hn : f + n < R.length) : AM G mX2_unlikeTargets 1 0 [.ref o, .int (nI f), .int (nI (f + n))] h (fun r h' => r = some (.int (nI (dcnt (rtg R) f (n + 1)))) ∧ h' = h) := by
  have s := hV.obj
  have hT : ∀ m, m ≤ n + 1 → ∀ q, f ≤ q → q < f + m → rtg R q < 16 := fun m hm q h1 h2 => (hI.1 q (by omega)).2
  refine AM.of rfl rfl (Nat.le_of_ble_eq_true rfl) rfl ?_
  refine Ax_ic0 dX2_unlikeTargets_0 ?_
  refine Ax_is3 dX2_unlikeTargets_1 (Nat.le_of_ble_eq_true rfl) (by rfl) ?_
  refine Ax_il1 dX2_unlikeTargets_2 ?_
  refine Ax_is4 dX2_unlikeTargets_3 (Nat.le_of_ble_eq_true rfl) (by rfl) ?_
  suffices hloop : ∀ m k, k + m = n + 1 → Ax G mX2_unlikeTargets 1 0 5 [.ref o, .int (nI f), .int (nI (f + n)), .int (nI (seenN (rtg R) f k)), .int (nI (f + k))] [] h (fun r h' => r = some (.int (nI (dcnt (rtg R) f (n + 1)))) ∧ h' = h) from hloop (n + 1) 0 (by omega)
  intro m
  induction m with
  | zero =>
    intro k hk
    obtain rfl : k = n + 1 := by omega
    have hseen := seen_lt (n + 1) (hT (n + 1) (Nat.le_refl _))
    rw [← dcnt_pop (n + 1) (hT (n + 1) (Nat.le_refl _))]
    refine Ax_il4 dX2_unlikeTargets_5 ?_
    refine Ax_il2 dX2_unlikeTargets_7 ?_
    refine Ax_cmpgtn (tgt := 35) dX2_unlikeTargets_8 (by decide) (by omega) (by omega) (fun c8 => ?_) (fun c8 => ?_)
    · refine Ax_il3 dX2_unlikeTargets_35 ?_
      refine Ax_cSi dX2_unlikeTargets_36 sX2_69 (tJ6_bitCount hseen) rfl rfl (by decide) (by simp [Value.category]) ?_
      exact Ax_iret dX2_unlikeTargets_39 rfl rfl ⟨rfl, rfl⟩
    · omega
  | succ m ih =>
    intro k hk
    refine Ax_il4 dX2_unlikeTargets_5 ?_
    refine Ax_il2 dX2_unlikeTargets_7 ?_
    refine Ax_cmpgtn (tgt := 35) dX2_unlikeTargets_8 (by decide) (by omega) (by omega) (fun c8 => ?_) (fun c8 => ?_)
    · omega
    refine Ax_il4 dX2_unlikeTargets_11 ?_
    refine Ax_bp24 dX2_unlikeTargets_13 ?_
    refine Ax_cmpgen (tgt := 35) dX2_unlikeTargets_15 (by decide) (by omega) (by omega) (fun c15 => ?_) (fun c15 => ?_)
    · omega
    have e : nI (seenN (rtg R) f k) ||| (nI 1 <<< (nI (rtg R (f + k)) &&& 31)) = nI (seenN (rtg R) f (k + 1)) := by
      have ht := (hI.1 (f + k) (by omega)).2
      rw [pk_shlN (n := 1) (nI (rtg R (f + k)) &&& 31) (rtg R (f + k)) (by
        have : ∀ j, j < 16 → ((nI j &&& 31).toBitVec.smod 32).toNat = j := by decide
        exact this _ ht) (by rw [Nat.one_mul]; exact Nat.lt_of_lt_of_le (Nat.pow_lt_pow_right (by decide) ht) (by decide)), fa_or, Nat.one_mul]
      rfl
    refine Ax_il3 dX2_unlikeTargets_18 ?_
    refine Ax_ic1 dX2_unlikeTargets_19 ?_
    refine Ax_al0 dX2_unlikeTargets_20 ?_
    refine Ax_il4 dX2_unlikeTargets_21 ?_
    refine Ax_cVi dX2_unlikeTargets_23 vX2_48 kfX2 s (tR_target hV hl (k := f + k) (by omega)) rfl rfl (by decide) (by simp [Value.category]) ?_
    refine Ax_ishl dX2_unlikeTargets_26 ?_
    refine Ax_ior dX2_unlikeTargets_27 ?_
    refine Ax_top e ?_
    refine Ax_is3 dX2_unlikeTargets_28 (Nat.le_of_ble_eq_true rfl) (by rfl) ?_
    refine Ax_inc4_1n dX2_unlikeTargets_29 (Nat.le_of_ble_eq_true rfl) (by rfl) ?_
    refine Ax_goto (tgt := 5) dX2_unlikeTargets_32 (by decide) ?_
    exact ih (k + 1) (by omega)
theorem tX2_intsIn (hV : vRuns h o R) (hl : R.length ≤ 24) (hI : RInv R) {f n : Nat} (hn : f + n < R.length) : AM G mX2_intsIn 1 0 [.ref o, .int (nI f), .int (nI (f + n))] h (fun r h' => r = some (.long (lN (sm (wid R) f (n + 1)))) ∧ h' = h) := by
  have s := hV.obj
  refine AM.of rfl rfl (Nat.le_of_ble_eq_true rfl) rfl ?_
  refine Ax_lc0 dX2_intsIn_0 ?_
  refine Ax_ls3 dX2_intsIn_1 (Nat.le_of_ble_eq_true rfl) (by rfl) ?_
  refine Ax_il1 dX2_intsIn_2 ?_
  refine Ax_is5 dX2_intsIn_3 (Nat.le_of_ble_eq_true rfl) (by rfl) ?_
  suffices hloop : ∀ m k, k + m = n + 1 → Ax G mX2_intsIn 1 0 5 [.ref o, .int (nI f), .int (nI (f + n)), .long (lN (sm (wid R) f k)), .null, .int (nI (f + k))] [] h (fun r h' => r = some (.long (lN (sm (wid R) f (n + 1)))) ∧ h' = h) from hloop (n + 1) 0 (by omega)
  intro m
  induction m with
  | zero =>
    intro k hk
    obtain rfl : k = n + 1 := by omega
    refine Ax_il5 dX2_intsIn_5 ?_
    refine Ax_il2 dX2_intsIn_7 ?_
    refine Ax_cmpgtn (tgt := 44) dX2_intsIn_8 (by decide) (by omega) (by omega) (fun c8 => ?_) (fun c8 => ?_)
    · refine Ax_ll3 dX2_intsIn_44 ?_
      exact Ax_lret dX2_intsIn_45 rfl ⟨rfl, rfl⟩
    · omega
  | succ m ih =>
    intro k hk
    refine Ax_il5 dX2_intsIn_5 ?_
    refine Ax_il2 dX2_intsIn_7 ?_
    refine Ax_cmpgtn (tgt := 44) dX2_intsIn_8 (by decide) (by omega) (by omega) (fun c8 => ?_) (fun c8 => ?_)
    · omega
    refine Ax_il5 dX2_intsIn_11 ?_
    refine Ax_bp24 dX2_intsIn_13 ?_
    refine Ax_cmpgen (tgt := 44) dX2_intsIn_15 (by decide) (by omega) (by omega) (fun c15 => ?_) (fun c15 => ?_)
    · omega
    have e : (rhi R (f + k)).toInt64 - (rlo R (f + k)).toInt64 + lN 1 = lN (wid R (f + k)) := by
      have h1 := I_lo (rhi R (f + k)); have h2 := I_hi (rhi R (f + k)); have h3 := I_lo (rlo R (f + k)); have h4 := I_hi (rlo R (f + k))
      have h5 := (hI.1 (f + k) (by omega)).1
      have e1 : ((rhi R (f + k)).toInt64 - (rlo R (f + k)).toInt64).toInt = (rhi R (f + k)).toInt - (rlo R (f + k)).toInt := by
        rw [L_sub (by rw [Int32.toInt_toInt64, Int32.toInt_toInt64]; omega) (by rw [Int32.toInt_toInt64, Int32.toInt_toInt64]; omega), Int32.toInt_toInt64, Int32.toInt_toInt64]
      refine L_of ?_ (by unfold wid; omega)
      rw [L_add (by rw [e1, L_1]; omega) (by rw [e1, L_1]; omega), e1, L_1]
      unfold wid
      omega
    refine Ax_ll3 dX2_intsIn_18 ?_
    refine Ax_al0 dX2_intsIn_19 ?_
    refine Ax_il5 dX2_intsIn_20 ?_
    refine Ax_cVi dX2_intsIn_22 vX2_55 kfX2 s (tR_high hV hl (k := f + k) (by omega)) rfl rfl (by decide) (by simp [Value.category]) ?_
    refine Ax_i2l dX2_intsIn_25 ?_
    refine Ax_al0 dX2_intsIn_26 ?_
    refine Ax_il5 dX2_intsIn_27 ?_
    refine Ax_cVi dX2_intsIn_29 vX2_52 kfX2 s (tR_low hV hl (k := f + k) (by omega)) rfl rfl (by decide) (by simp [Value.category]) ?_
    refine Ax_i2l dX2_intsIn_32 ?_
    refine Ax_lsub dX2_intsIn_33 ?_
    refine Ax_lc1 dX2_intsIn_34 ?_
    refine Ax_ladd dX2_intsIn_35 ?_
    refine Ax_topL e ?_
    refine Ax_laddn dX2_intsIn_36 ?_
    refine Ax_ls3 dX2_intsIn_37 (Nat.le_of_ble_eq_true rfl) (by rfl) ?_
    refine Ax_inc5_1n dX2_intsIn_38 (Nat.le_of_ble_eq_true rfl) (by rfl) ?_
    refine Ax_goto (tgt := 5) dX2_intsIn_41 (by decide) ?_
    exact ih (k + 1) (by omega)
theorem tX2_weightOf (hV : vRuns h o R) (hl : R.length ≤ 24) {f n : Nat} (hn : f + n < R.length) : AM G mX2_weightOf 1 0 [.ref o, .int (nI f), .int (nI (f + n))] h (fun r h' => r = some (.int (nI (sm (rwt R) f (n + 1)))) ∧ h' = h) := by
  have s := hV.obj
  refine AM.of rfl rfl (Nat.le_of_ble_eq_true rfl) rfl ?_
  refine Ax_ic0 dX2_weightOf_0 ?_
  refine Ax_is3 dX2_weightOf_1 (Nat.le_of_ble_eq_true rfl) (by rfl) ?_
  refine Ax_il1 dX2_weightOf_2 ?_
  refine Ax_is4 dX2_weightOf_3 (Nat.le_of_ble_eq_true rfl) (by rfl) ?_
  suffices hloop : ∀ m k, k + m = n + 1 → Ax G mX2_weightOf 1 0 5 [.ref o, .int (nI f), .int (nI (f + n)), .int (nI (sm (rwt R) f k)), .int (nI (f + k))] [] h (fun r h' => r = some (.int (nI (sm (rwt R) f (n + 1)))) ∧ h' = h) from hloop (n + 1) 0 (by omega)
  intro m
  induction m with
  | zero =>
    intro k hk
    obtain rfl : k = n + 1 := by omega
    refine Ax_il4 dX2_weightOf_5 ?_
    refine Ax_il2 dX2_weightOf_7 ?_
    refine Ax_cmpgtn (tgt := 33) dX2_weightOf_8 (by decide) (by omega) (by omega) (fun c8 => ?_) (fun c8 => ?_)
    · refine Ax_il3 dX2_weightOf_33 ?_
      exact Ax_iret dX2_weightOf_34 rfl rfl ⟨rfl, rfl⟩
    · omega
  | succ m ih =>
    intro k hk
    refine Ax_il4 dX2_weightOf_5 ?_
    refine Ax_il2 dX2_weightOf_7 ?_
    refine Ax_cmpgtn (tgt := 33) dX2_weightOf_8 (by decide) (by omega) (by omega) (fun c8 => ?_) (fun c8 => ?_)
    · omega
    refine Ax_il4 dX2_weightOf_11 ?_
    refine Ax_bp24 dX2_weightOf_13 ?_
    refine Ax_cmpgen (tgt := 33) dX2_weightOf_15 (by decide) (by omega) (by omega) (fun c15 => ?_) (fun c15 => ?_)
    · omega
    refine Ax_il3 dX2_weightOf_18 ?_
    refine Ax_al0 dX2_weightOf_19 ?_
    refine Ax_il4 dX2_weightOf_20 ?_
    refine Ax_cVi dX2_weightOf_22 vX2_58 kfX2 s (tR_weight hV hl (k := f + k) (by omega)) rfl rfl (by decide) (by simp [Value.category]) ?_
    refine Ax_iaddn dX2_weightOf_25 ?_
    refine Ax_is3 dX2_weightOf_26 (Nat.le_of_ble_eq_true rfl) (by rfl) ?_
    refine Ax_inc4_1n dX2_weightOf_27 (Nat.le_of_ble_eq_true rfl) (by rfl) ?_
    refine Ax_goto (tgt := 5) dX2_weightOf_30 (by decide) ?_
    exact ih (k + 1) (by omega)
end
end
section
section
variable {G : xG} {h : xH} {o : Nat} {R : List Run}
theorem row_lt {x b : Nat} (hx : x < 2 ^ 64) (hb : b < 64) : x ||| 2 ^ b < 2 ^ 64 := Nat.or_lt_two_pow hx (Nat.pow_lt_pow_right (by decide) hb)
theorem tX2_rowOfBits (hV : vRuns h o R) (hl : R.length ≤ 24) (hI : RInv R) {f n t : Nat} (hn : f + n < R.length) (ht : t < 16) (hw : (rhi R (f + n)).toInt - (rlo R f).toInt < 64) : AM G mX2_rowOfBits 1 0 [.ref o, .int (nI f), .int (nI (f + n)), .int (nI t)] h (fun r h' => ∃ x, r = some (.long x) ∧ (∃ z, x = lN z ∧ IsRow R f (n + 1) t z) ∧ h' = h) := by
  obtain ⟨lo, hi, tg, wt, hS, hR, -⟩ := id hV
  obtain ⟨s, s0, s1, s2, s3⟩ := id hS
  refine AM.of rfl rfl (Nat.le_of_ble_eq_true rfl) rfl ?_
  refine Ax_il1 dX2_rowOfBits_0 ?_
  refine Ax_ifltn (tgt := 10) dX2_rowOfBits_1 (by decide) (by omega) ?_
  refine Ax_il1 dX2_rowOfBits_4 ?_
  refine Ax_bp24 dX2_rowOfBits_5 ?_
  refine Ax_cmpltn (tgt := 12) dX2_rowOfBits_7 (by decide) (by omega) (by omega) (fun c7 => ?_) (fun c7 => ?_)
  rotate_left
  · omega
  refine Ax_lc0 dX2_rowOfBits_12 ?_
  refine Ax_ls4 dX2_rowOfBits_13 (Nat.le_of_ble_eq_true rfl) (by rfl) ?_
  refine Ax_il1 dX2_rowOfBits_15 ?_
  refine Ax_is6 dX2_rowOfBits_16 (Nat.le_of_ble_eq_true rfl) (by rfl) ?_
  suffices hloop : ∀ m k x, k + m = n + 1 → IsRow R f k t x → Ax G mX2_rowOfBits 1 0 18 [.ref o, .int (nI f), .int (nI (f + n)), .int (nI t), .long (lN x), .null, .int (nI (f + k)), .null, .null, .null, .null, .null, .null] [] h (fun r h' => ∃ x, r = some (.long x) ∧ (∃ z, x = lN z ∧ IsRow R f (n + 1) t z) ∧ h' = h) from hloop (n + 1) 0 0 (by omega) ⟨by decide, fun b hb => by
    constructor
    · intro q; simp at q
    · rintro ⟨k, h1, h2, -⟩; omega⟩
  intro m
  induction m with
  | zero =>
    intro k x hk hx
    obtain rfl : k = n + 1 := by omega
    refine Ax_il6 dX2_rowOfBits_18 ?_
    refine Ax_il2 dX2_rowOfBits_20 ?_
    refine Ax_cmpgtn (tgt := 121) dX2_rowOfBits_21 (by decide) (by omega) (by omega) (fun c21 => ?_) (fun c21 => ?_)
    · refine Ax_ll4 dX2_rowOfBits_121 ?_
      exact Ax_lret dX2_rowOfBits_123 rfl ⟨_, rfl, ⟨x, rfl, hx⟩, rfl⟩
    · omega
  | succ m ih =>
    intro k x hk hx
    have hfk : f + k < R.length := by omega
    have hnx : ∀ x' v7 v8 v9 v10 v11 v12, IsRow R f (k + 1) t x' → Ax G mX2_rowOfBits 1 0 115 [.ref o, .int (nI f), .int (nI (f + n)), .int (nI t), .long (lN x'), .null, .int (nI (f + k)), v7, v8, v9, v10, v11, v12] [] h (fun r h' => ∃ x, r = some (.long x) ∧ (∃ z, x = lN z ∧ IsRow R f (n + 1) t z) ∧ h' = h) := by
      intro x' v7 v8 v9 v10 v11 v12 hx'
      refine Ax_inc6_1n dX2_rowOfBits_115 (Nat.le_of_ble_eq_true rfl) (by rfl) ?_
      refine Ax_goto (tgt := 18) dX2_rowOfBits_118 (by decide) ?_
      refine Ax_L (L' := [.ref o, .int (nI f), .int (nI (f + n)), .int (nI t), .long (lN x'), .null, .int (nI (f + (k + 1))), .null, .null, .null, .null, .null, .null]) (by simp [x_sub]; rfl) ?_
      exact ih (k + 1) x' (by omega) hx'
    obtain ⟨r1, r2, r3, -⟩ := hR (f + k) hfk
    obtain ⟨f1, -, -, -⟩ := hR f (by omega)
    have i1 := I_lo (rlo R (f + k)); have i2 := I_hi (rlo R (f + k)); have i3 := I_lo (rhi R (f + k)); have i4 := I_hi (rhi R (f + k)); have i5 := I_lo (rlo R f); have i6 := I_hi (rlo R f)
    have m1 := rlo_mono hI k f hfk
    have m2 := (hI.1 (f + k) hfk).1
    have m3 : (rhi R (f + k)).toInt ≤ (rhi R (f + n)).toInt := by
      by_cases hkn : k = n
      · subst hkn; exact Int.le_refl _
      · have q1 := hI.2 (f + k) (by omega)
        have q2 := rlo_mono hI (n - k - 1) (f + k + 1) (by omega)
        rw [show f + k + 1 + (n - k - 1) = f + n by omega] at q2
        have q3 := (hI.1 (f + n) (by omega)).1
        omega
    refine Ax_il6 dX2_rowOfBits_18 ?_
    refine Ax_il2 dX2_rowOfBits_20 ?_
    refine Ax_cmpgtn (tgt := 121) dX2_rowOfBits_21 (by decide) (by omega) (by omega) (fun c21 => ?_) (fun c21 => ?_)
    · omega
    refine Ax_il6 dX2_rowOfBits_24 ?_
    refine Ax_bp24 dX2_rowOfBits_26 ?_
    refine Ax_cmpgen (tgt := 121) dX2_rowOfBits_28 (by decide) (by omega) (by omega) (fun c28 => ?_) (fun c28 => ?_)
    · omega
    refine Ax_al0 dX2_rowOfBits_31 ?_
    refine Ax_getf kfX2 fX2_18 dX2_rowOfBits_32 s rfl ?_
    refine Ax_il6 dX2_rowOfBits_35 ?_
    refine Ax_ialdn dX2_rowOfBits_37 s2 (by omega) (by omega) ?_
    refine Ax_top r3 ?_
    refine Ax_il3 dX2_rowOfBits_38 ?_
    refine Ax_cmpne (tgt := 115) dX2_rowOfBits_39 (by decide) (fun c39 => ?_) (fun c39 => ?_)
    · refine hnx x _ _ _ _ _ _ ⟨hx.1, fun b hb => (hx.2 b hb).trans ?_⟩
      constructor
      · rintro ⟨q, h1, h2, h3⟩; exact ⟨q, h1, by omega, h3⟩
      · rintro ⟨q, h1, h2, h3, h4⟩
        by_cases hq : q = f + k
        · subst hq; rw [h3] at c39; exact absurd rfl c39
        · exact ⟨q, h1, by omega, h3, h4⟩
    have hrt : rtg R (f + k) = t := (nI_eq (by have := (hI.1 (f + k) hfk).2; omega) (by omega)).mp c39
    obtain ⟨a, ha⟩ : ∃ a : Nat, (a : Int) = (rlo R (f + k)).toInt - (rlo R f).toInt := ⟨((rlo R (f + k)).toInt - (rlo R f).toInt).toNat, by omega⟩
    obtain ⟨e, he⟩ : ∃ e : Nat, (e : Int) = (rhi R (f + k)).toInt - (rlo R f).toInt := ⟨((rhi R (f + k)).toInt - (rlo R f).toInt).toNat, by omega⟩
    have e1 : (lo (f + k)).toInt64 - (lo f).toInt64 = lN a := by
      refine L_of ?_ (by omega)
      rw [r1, f1, L_sub (by rw [Int32.toInt_toInt64, Int32.toInt_toInt64]; omega) (by rw [Int32.toInt_toInt64, Int32.toInt_toInt64]; omega), Int32.toInt_toInt64, Int32.toInt_toInt64, ha]
    have e2 : (hi (f + k)).toInt64 - (lo f).toInt64 = lN e := by
      refine L_of ?_ (by omega)
      rw [r2, f1, L_sub (by rw [Int32.toInt_toInt64, Int32.toInt_toInt64]; omega) (by rw [Int32.toInt_toInt64, Int32.toInt_toInt64]; omega), Int32.toInt_toInt64, Int32.toInt_toInt64, he]
    have e3 : (if (63 : Int64) < lN e then (63 : Int64) else lN e) = lN e := by
      rw [if_neg]
      rw [Int64.lt_iff_toInt_lt, L_lN (by omega)]
      have : (63 : Int64).toInt = 63 := by decide
      omega
    refine Ax_al0 dX2_rowOfBits_42 ?_
    refine Ax_getf kfX2 fX2_9 dX2_rowOfBits_43 s rfl ?_
    refine Ax_il6 dX2_rowOfBits_46 ?_
    refine Ax_ialdn dX2_rowOfBits_48 s0 (by omega) (by omega) ?_
    refine Ax_i2l dX2_rowOfBits_49 ?_
    refine Ax_al0 dX2_rowOfBits_50 ?_
    refine Ax_getf kfX2 fX2_9 dX2_rowOfBits_51 s rfl ?_
    refine Ax_il1 dX2_rowOfBits_54 ?_
    refine Ax_ialdn dX2_rowOfBits_55 s0 (by omega) (by omega) ?_
    refine Ax_i2l dX2_rowOfBits_56 ?_
    refine Ax_lsub dX2_rowOfBits_57 ?_
    refine Ax_topL e1 ?_
    refine Ax_ls7 dX2_rowOfBits_58 (Nat.le_of_ble_eq_true rfl) (by rfl) ?_
    refine Ax_al0 dX2_rowOfBits_60 ?_
    refine Ax_getf kfX2 fX2_15 dX2_rowOfBits_61 s rfl ?_
    refine Ax_il6 dX2_rowOfBits_64 ?_
    refine Ax_ialdn dX2_rowOfBits_66 s1 (by omega) (by omega) ?_
    refine Ax_i2l dX2_rowOfBits_67 ?_
    refine Ax_al0 dX2_rowOfBits_68 ?_
    refine Ax_getf kfX2 fX2_9 dX2_rowOfBits_69 s rfl ?_
    refine Ax_il1 dX2_rowOfBits_72 ?_
    refine Ax_ialdn dX2_rowOfBits_73 s0 (by omega) (by omega) ?_
    refine Ax_i2l dX2_rowOfBits_74 ?_
    refine Ax_lsub dX2_rowOfBits_75 ?_
    refine Ax_topL e2 ?_
    refine Ax_ldc2 dX2_rowOfBits_76 cX2_74 ?_
    refine Ax_mminL dX2_rowOfBits_79 sX2_76 (by decide) (by simp [Value.category]) ?_
    refine Ax_topL e3 ?_
    refine Ax_ls9 dX2_rowOfBits_82 (Nat.le_of_ble_eq_true rfl) (by rfl) ?_
    refine Ax_ll7 dX2_rowOfBits_84 ?_
    refine Ax_ls11 dX2_rowOfBits_86 (Nat.le_of_ble_eq_true rfl) (by rfl) ?_
    suffices hin : ∀ w j x', w + j = e + 1 - a → x' < 2 ^ 64 → (∀ b, b < 64 → (x'.testBit b = true ↔ (x.testBit b = true ∨ (a ≤ b ∧ b < a + j)))) → Ax G mX2_rowOfBits 1 0 88 [.ref o, .int (nI f), .int (nI (f + n)), .int (nI t), .long (lN x'), .null, .int (nI (f + k)), .long (lN a), .null, .long (lN e), .null, .long (lN (a + j)), .null] [] h (fun r h' => ∃ x, r = some (.long x) ∧ (∃ z, x = lN z ∧ IsRow R f (n + 1) t z) ∧ h' = h) from hin (e + 1 - a) 0 x (by omega) hx.1 (fun b hb => by constructor; exact Or.inl; (rintro (q | q); exact q; omega))
    intro w
    induction w with
    | zero =>
      intro j x' hw1 hx1 hx2
      have eL := L_lN (n := e) (by omega)
      have aL := L_lN (n := a + j) (by omega)
      refine Ax_ll11 dX2_rowOfBits_88 ?_
      refine Ax_ll9 dX2_rowOfBits_90 ?_
      refine Ax_lcmp dX2_rowOfBits_92 ?_
      refine Ax_ifgtC (tgt := 115) dX2_rowOfBits_93 (by decide) (fun c93 => ?_) (fun c93 => ?_)
      · refine hnx x' _ _ _ _ _ _ ⟨hx1, fun b hb => (hx2 b hb).trans ?_⟩
        constructor
        · rintro (q | ⟨q1, q2⟩)
          · obtain ⟨q, h1, h2, h3⟩ := (hx.2 b hb).mp q
            exact ⟨q, h1, by omega, h3⟩
          · exact ⟨f + k, by omega, by omega, hrt, by omega, by omega⟩
        · rintro ⟨q, h1, h2, h3, h4, h5⟩
          by_cases hq : q = f + k
          · subst hq; right; omega
          · left; exact (hx.2 b hb).mpr ⟨q, h1, by omega, h3, h4, h5⟩
      · omega
    | succ w ihw =>
      intro j x' hw1 hx1 hx2
      have eL := L_lN (n := e) (by omega)
      have aL := L_lN (n := a + j) (by omega)
      have e4 : lN x' ||| (lN 1 <<< ((nI (a + j)).toInt64 &&& 63)) = lN (x' ||| 2 ^ (a + j)) := by
        rw [wb_shl 1 (by omega), Nat.one_mul, wb_or hx1 (Nat.pow_lt_pow_right (by decide) (by omega))]
      refine Ax_ll11 dX2_rowOfBits_88 ?_
      refine Ax_ll9 dX2_rowOfBits_90 ?_
      refine Ax_lcmp dX2_rowOfBits_92 ?_
      refine Ax_ifgtC (tgt := 115) dX2_rowOfBits_93 (by decide) (fun c93 => ?_) (fun c93 => ?_)
      · omega
      refine Ax_ll4 dX2_rowOfBits_96 ?_
      refine Ax_lc1 dX2_rowOfBits_98 ?_
      refine Ax_ll11 dX2_rowOfBits_99 ?_
      refine Ax_l2in dX2_rowOfBits_101 ?_
      refine Ax_lshl dX2_rowOfBits_102 ?_
      refine Ax_lor dX2_rowOfBits_103 ?_
      refine Ax_topL e4 ?_
      refine Ax_ls4 dX2_rowOfBits_104 (Nat.le_of_ble_eq_true rfl) (by rfl) ?_
      refine Ax_ll11 dX2_rowOfBits_106 ?_
      refine Ax_lc1 dX2_rowOfBits_108 ?_
      refine Ax_laddn dX2_rowOfBits_109 ?_
      refine Ax_ls11 dX2_rowOfBits_110 (Nat.le_of_ble_eq_true rfl) (by rfl) ?_
      refine Ax_goto (tgt := 88) dX2_rowOfBits_112 (by decide) ?_
      refine ihw (j + 1) _ (by omega) (row_lt hx1 (by omega)) (fun b hb => ?_)
      rw [Nat.testBit_or, Bool.or_eq_true, hx2 b hb, Nat.testBit_two_pow, decide_eq_true_eq]
      constructor
      · rintro ((q | q) | q)
        · exact Or.inl q
        · right; omega
        · right; omega
      · rintro (q | q)
        · exact Or.inl (Or.inl q)
        · by_cases hq : b = a + j
          · right; omega
          · left; right; omega
end
end
section
/-! mathematics of clusters -/
def spn (R : List Run) (i j : Nat) : Nat := ((rhi R j).toInt - (rlo R i).toInt + 1).toNat
def kd (R : List Run) (dens size i j : Nat) : Option Nat :=
  if i = j then some 0
  else if spn R i j ≤ 64 ∧ dcnt (rtg R) i (j - i + 1) ≤ 3 then some 1
  else if spn R i j ≤ size ∧ dens * spn R i j ≤ 100 * sm (wid R) i (j - i + 1) then some 2
  else none
/-- fewest clusters from run i on, and the last run of the first of these: the longest first one -/
def IsFew (m : Nat) (ok : Nat → Nat → Bool) (few en : Nat → Nat) (b : Nat) : Prop :=
  few m = 0 ∧ ∀ i, b ≤ i → i < m → i ≤ en i ∧ en i < m ∧ ok i (en i) = true ∧ few i = few (en i + 1) + 1 ∧ ∀ j, i ≤ j → j < m → ok i j = true → few i ≤ few (j + 1) + 1 ∧ (few (j + 1) + 1 = few i → j ≤ en i)
theorem IsFew.uniq {m : Nat} {ok : Nat → Nat → Bool} {f e g d : Nat → Nat} {b : Nat} (h1 : IsFew m ok f e b) (h2 : IsFew m ok g d b) : ∀ k i, i + k = m → b ≤ i → f i = g i ∧ (i < m → e i = d i)
  | 0, i, hk, _ => by
    obtain rfl : i = m := by omega
    exact ⟨h1.1.trans h2.1.symm, fun q => by omega⟩
  | k + 1, i, hk, hb => by
    have hi : i < m := by omega
    have rec' : ∀ j, i ≤ j → j < m → f (j + 1) = g (j + 1) := by
      intro j hj1 hj2
      exact (IsFew.uniq h1 h2 (m - (j + 1)) (j + 1) (by omega) (by omega)).1
    obtain ⟨a1, a2, a3, a4, a5⟩ := h1.2 i hb hi
    obtain ⟨c1, c2, c3, c4, c5⟩ := h2.2 i hb hi
    have x1 := a5 (d i) c1 c2 c3
    have x2 := c5 (e i) a1 a2 a3
    have r1 := rec' (e i) a1 a2
    have r2 := rec' (d i) c1 c2
    have hfg : f i = g i := by omega
    refine ⟨hfg, fun _ => ?_⟩
    have y1 := x1.2 (by omega)
    have y2 := x2.2 (by omega)
    omega
termination_by k => k
/-- the best of the ends i .. i + t -/
def IsBest (ok : Nat → Nat → Bool) (few : Nat → Nat) (i t v e : Nat) : Prop :=
  i ≤ e ∧ e ≤ i + t ∧ ok i e = true ∧ v = few (e + 1) + 1 ∧ ∀ j, i ≤ j → j ≤ i + t → ok i j = true → v ≤ few (j + 1) + 1 ∧ (few (j + 1) + 1 = v → j ≤ e)
theorem IsBest.zero {ok : Nat → Nat → Bool} {few : Nat → Nat} {i : Nat} (h : ok i i = true) : IsBest ok few i 0 (few (i + 1) + 1) i :=
  ⟨Nat.le_refl _, Nat.le_refl _, h, rfl, fun j h1 h2 _ => by (obtain rfl : j = i := by omega); exact ⟨Nat.le_refl _, fun _ => Nat.le_refl _⟩⟩
theorem IsBest.keep {ok : Nat → Nat → Bool} {few : Nat → Nat} {i t v e : Nat} (h : IsBest ok few i t v e) (hk : v < few (i + t + 1 + 1) + 1 ∨ ok i (i + t + 1) = false) : IsBest ok few i (t + 1) v e := by
  obtain ⟨h1, h2, h3, h4, h5⟩ := h
  refine ⟨h1, by omega, h3, h4, fun j g1 g2 g3 => ?_⟩
  by_cases hj : j = i + t + 1
  · subst hj
    rcases hk with q | q
    · exact ⟨by omega, fun z => by omega⟩
    · rw [q] at g3; cases g3
  · exact h5 j g1 (by omega) g3
theorem IsBest.new {ok : Nat → Nat → Bool} {few : Nat → Nat} {i t v e : Nat} (h : IsBest ok few i t v e) (hk : few (i + t + 1 + 1) + 1 ≤ v) (ho : ok i (i + t + 1) = true) : IsBest ok few i (t + 1) (few (i + t + 1 + 1) + 1) (i + t + 1) := by
  obtain ⟨h1, h2, h3, h4, h5⟩ := h
  refine ⟨by omega, by omega, ho, rfl, fun j g1 g2 g3 => ?_⟩
  by_cases hj : j = i + t + 1
  · subst hj; exact ⟨Nat.le_refl _, fun _ => Nat.le_refl _⟩
  · have := (h5 j g1 (by omega) g3).1
    exact ⟨by omega, fun z => by omega⟩
theorem IsFew.step {m : Nat} {ok : Nat → Nat → Bool} {few few' en en' : Nat → Nat} {i v e : Nat} (h : IsFew m ok few en (i + 1)) (hi : i < m) (hb : IsBest ok few i (m - 1 - i) v e) (h1 : ∀ k, i < k → few' k = few k) (h2 : few' i = v) (h3 : ∀ k, i < k → en' k = en k) (h4 : en' i = e) : IsFew m ok few' en' i := by
  refine ⟨by rw [h1 m hi]; exact h.1, fun k hk1 hk2 => ?_⟩
  by_cases hki : k = i
  · subst hki
    obtain ⟨a1, a2, a3, a4, a5⟩ := hb
    rw [h2, h4]
    refine ⟨a1, by omega, a3, by rw [h1 _ (by omega)]; exact a4, fun j g1 g2 g3 => ?_⟩
    rw [h1 _ (by omega)]
    exact a5 j g1 (by omega) g3
  · obtain ⟨a1, a2, a3, a4, a5⟩ := h.2 k (by omega) hk2
    rw [h3 k (by omega), h1 k (by omega)]
    refine ⟨a1, a2, a3, by rw [h1 _ (by omega)]; exact a4, fun j g1 g2 g3 => ?_⟩
    rw [h1 _ (by omega)]
    exact a5 j g1 g2 g3
theorem best_ex {ok : Nat → Nat → Bool} {few : Nat → Nat} {i : Nat} (h : ok i i = true) : ∀ t, ∃ v e, IsBest ok few i t v e
  | 0 => ⟨_, _, IsBest.zero h⟩
  | t + 1 => by
    obtain ⟨v, e, hb⟩ := best_ex (few := few) h t
    by_cases hk : few (i + t + 1 + 1) + 1 ≤ v ∧ ok i (i + t + 1) = true
    · exact ⟨_, _, hb.new hk.1 hk.2⟩
    · refine ⟨v, e, hb.keep ?_⟩
      cases ho : ok i (i + t + 1) with
      | false => exact Or.inr rfl
      | true => left; exact Nat.lt_of_not_le (fun q => hk ⟨q, ho⟩)
theorem few_ex {m : Nat} {ok : Nat → Nat → Bool} (h : ∀ i, ok i i = true) : ∀ d, d ≤ m → ∃ few en, IsFew m ok few en (m - d)
  | 0, _ => ⟨fun _ => 0, fun _ => 0, rfl, fun i h1 h2 => by omega⟩
  | d + 1, hd => by
    obtain ⟨few, en, hf⟩ := few_ex (m := m) h d (by omega)
    obtain ⟨v, e, hb⟩ := best_ex (few := few) (h (m - (d + 1))) (m - 1 - (m - (d + 1)))
    refine ⟨fun k => if k = m - (d + 1) then v else few k, fun k => if k = m - (d + 1) then e else en k, IsFew.step (i := m - (d + 1)) (few := few) (en := en) (by rw [show m - (d + 1) + 1 = m - d by omega]; exact hf) (by omega) hb (fun k hk => if_neg (by omega)) (if_pos rfl) (fun k hk => if_neg (by omega)) (if_pos rfl)⟩
def okB (R : List Run) (dens size i j : Nat) : Bool := (kd R dens size i j).isSome
theorem okB_self (R : List Run) (dens size i : Nat) : okB R dens size i i = true := by unfold okB kd; rw [if_pos rfl]; rfl
theorem few_all (R : List Run) (dens size : Nat) : ∃ p : (Nat → Nat) × (Nat → Nat), IsFew R.length (okB R dens size) p.1 p.2 0 := by
  obtain ⟨few, en, h⟩ := few_ex (m := R.length) (okB_self R dens size) R.length (Nat.le_refl _)
  exact ⟨(few, en), by rw [Nat.sub_self] at h; exact h⟩
noncomputable def fewP (R : List Run) (dens size : Nat) : (Nat → Nat) × (Nat → Nat) := Classical.choose (few_all R dens size)
theorem fewP_is (R : List Run) (dens size : Nat) : IsFew R.length (okB R dens size) (fewP R dens size).1 (fewP R dens size).2 0 := Classical.choose_spec (few_all R dens size)
/-- the clusters as first and last run -/
def clF (en : Nat → Nat) (m : Nat) : Nat → Nat → List (Nat × Nat)
  | 0, _ => []
  | n + 1, i => if i < m then (i, en i) :: clF en m n (en i + 1) else []
noncomputable def clsOf (R : List Run) (dens size : Nat) : List (Nat × Nat) := clF (fewP R dens size).2 R.length R.length 0
theorem clF_congr {en en' : Nat → Nat} {m : Nat} (h : ∀ i, i < m → en i = en' i) : ∀ n i, clF en m n i = clF en' m n i
  | 0, _ => rfl
  | n + 1, i => by
    rw [clF, clF]
    split
    · rename_i q; rw [h i q, clF_congr h n]
    · rfl
/-- the last element is at the end, each begins behind the one before -/
def ClOk (m : Nat) (ok : Nat → Nat → Bool) (i : Nat) : List (Nat × Nat) → Prop
  | [] => m ≤ i
  | p :: t => p.1 = i ∧ i ≤ p.2 ∧ p.2 < m ∧ ok i p.2 = true ∧ ClOk m ok (p.2 + 1) t
theorem clF_ok {m : Nat} {ok : Nat → Nat → Bool} {few en : Nat → Nat} (h : IsFew m ok few en 0) : ∀ n i, m ≤ i + n → ClOk m ok i (clF en m n i)
  | 0, i, hn => by show m ≤ i; omega
  | n + 1, i, hn => by
    rw [clF]
    split
    · rename_i q
      obtain ⟨a1, a2, a3, -⟩ := h.2 i (Nat.zero_le _) q
      exact ⟨rfl, a1, a2, a3, clF_ok h n _ (by omega)⟩
    · rename_i q; show m ≤ i; omega
theorem clF_len {en : Nat → Nat} {m : Nat} : ∀ n i, (clF en m n i).length ≤ n
  | 0, _ => Nat.le_refl _
  | n + 1, i => by
    rw [clF]
    split
    · rw [List.length_cons]; have := clF_len (en := en) (m := m) n (en i + 1); omega
    · exact Nat.zero_le _
theorem cls_ok (R : List Run) (dens size : Nat) : ClOk R.length (okB R dens size) 0 (clsOf R dens size) := clF_ok (fewP_is R dens size) _ _ (by omega)
theorem cls_len (R : List Run) (dens size : Nat) : (clsOf R dens size).length ≤ R.length := clF_len _ _
def cf (K : List (Nat × Nat)) (c : Nat) : Nat := (K.getD c (0, 0)).1
def cl (K : List (Nat × Nat)) (c : Nat) : Nat := (K.getD c (0, 0)).2
theorem ClOk.at {m : Nat} {ok : Nat → Nat → Bool} : ∀ (K : List (Nat × Nat)) (i c : Nat), ClOk m ok i K → c < K.length → i ≤ cf K c ∧ cf K c ≤ cl K c ∧ cl K c < m ∧ ok (cf K c) (cl K c) = true ∧ (c + 1 < K.length → cf K (c + 1) = cl K c + 1) ∧ (c + 1 = K.length → m ≤ cl K c + 1)
  | [], _, _, _, h => by simp at h
  | p :: t, i, 0, h, hc => by
    obtain ⟨h1, h2, h3, h4, h5⟩ := h
    have e1 : cf (p :: t) 0 = p.1 := rfl
    have e2 : cl (p :: t) 0 = p.2 := rfl
    refine ⟨by rw [e1, h1]; exact Nat.le_refl _, by rw [e1, e2, h1]; exact h2, by rw [e2]; exact h3, by rw [e1, e2, h1]; exact h4, fun q => ?_, fun q => ?_⟩
    · cases t with
      | nil => simp at q
      | cons a u => exact h5.1
    · cases t with
      | nil => exact h5
      | cons a u => simp at q
  | p :: t, i, c + 1, h, hc => by
    obtain ⟨h1, h2, h3, h4, h5⟩ := h
    have hc' : c < t.length := by simpa using hc
    obtain ⟨g1, g2, g3, g4, g5, g6⟩ := ClOk.at t _ c h5 hc'
    have e1 : cf (p :: t) (c + 1) = cf t c := rfl
    have e2 : cl (p :: t) (c + 1) = cl t c := rfl
    have e3 : cf (p :: t) (c + 1 + 1) = cf t (c + 1) := rfl
    rw [e1, e2, e3]
    exact ⟨by omega, g2, g3, g4, fun q => g5 (by simpa using q), fun q => g6 (by simpa using q)⟩
end
section
/-! Clusters: the cells of an object at o, its runs at ro -/
def vCl (h : xH) (o ro : Nat) (kn fi la we fw en : Nat → Int32) (dn sz hd : Int32) : Prop :=
  h.1 o = cO 0 [.ref ro, .ref (o + 1), .ref (o + 2), .ref (o + 3), .ref (o + 4), .ref (o + 5), .ref (o + 6), .int dn, .int sz, .int hd] ∧
  h.1 (o + 1) = cI 0 24 kn ∧ h.1 (o + 2) = cI 0 24 fi ∧ h.1 (o + 3) = cI 0 24 la ∧ h.1 (o + 4) = cI 0 24 we ∧ h.1 (o + 5) = cI 0 25 fw ∧ h.1 (o + 6) = cI 0 25 en
theorem vCl.fr {h h' : xH} {o ro o' w : Nat} {kn fi la we fw en : Nat → Int32} {dn sz hd : Int32} (hS : vCl h o ro kn fi la we fw en dn sz hd) (hF : xFr o' w h h') (hq : o + 7 ≤ o' ∨ o' + w ≤ o) : vCl h' o ro kn fi la we fw en dn sz hd :=
  ⟨(hF.1 _ (by omega)).trans hS.1, (hF.1 _ (by omega)).trans hS.2.1, (hF.1 _ (by omega)).trans hS.2.2.1, (hF.1 _ (by omega)).trans hS.2.2.2.1, (hF.1 _ (by omega)).trans hS.2.2.2.2.1, (hF.1 _ (by omega)).trans hS.2.2.2.2.2.1, (hF.1 _ (by omega)).trans hS.2.2.2.2.2.2⟩
section
variable {G : xG} {h : xH} {o ro : Nat} {kn fi la we fw en : Nat → Int32} {dn sz hd : Int32} {R : List Run}
theorem tX0_held (hS : vCl h o ro kn fi la we fw en dn sz hd) : AM G mX0_held 0 0 [.ref o] h (fun r h' => r = some (.int hd) ∧ h' = h) := by
  obtain ⟨s, s1, s2, s3, s4, s5, s6⟩ := id hS
  refine AM.of rfl rfl (Nat.le_of_ble_eq_true rfl) rfl ?_
  refine Ax_al0 dX0_held_0 ?_
  refine Ax_getf kfX0 fX0_37 dX0_held_1 s rfl ?_
  exact Ax_iret dX0_held_4 rfl rfl ⟨rfl, rfl⟩
theorem tX0_kind (hS : vCl h o ro kn fi la we fw en dn sz hd) {k : Nat} (hk : k < 24) : AM G mX0_kind 0 0 [.ref o, .int (nI k)] h (fun r h' => r = some (.int (kn k)) ∧ h' = h) := by
  obtain ⟨s, s1, s2, s3, s4, s5, s6⟩ := id hS
  refine AM.of rfl rfl (Nat.le_of_ble_eq_true rfl) rfl ?_
  refine Ax_il1 dX0_kind_0 ?_
  refine Ax_ifltn (tgt := 19) dX0_kind_1 (by decide) (by omega) ?_
  refine Ax_il1 dX0_kind_4 ?_
  refine Ax_bp24 dX0_kind_5 ?_
  refine Ax_cmpgen (tgt := 19) dX0_kind_7 (by decide) (by omega) (by omega) (fun c7 => ?_) (fun c7 => ?_)
  · omega
  · refine Ax_al0 dX0_kind_10 ?_
    refine Ax_getf kfX0 fX0_9 dX0_kind_11 s rfl ?_
    refine Ax_il1 dX0_kind_14 ?_
    refine Ax_ialdn dX0_kind_15 s1 (by omega) (by omega) ?_
    refine Ax_goto (tgt := 20) dX0_kind_16 (by decide) ?_
    exact Ax_iret dX0_kind_20 rfl rfl ⟨rfl, rfl⟩
theorem tX0_firstRun (hS : vCl h o ro kn fi la we fw en dn sz hd) {k : Nat} (hk : k < 24) : AM G mX0_firstRun 0 0 [.ref o, .int (nI k)] h (fun r h' => r = some (.int (fi k)) ∧ h' = h) := by
  obtain ⟨s, s1, s2, s3, s4, s5, s6⟩ := id hS
  refine AM.of rfl rfl (Nat.le_of_ble_eq_true rfl) rfl ?_
  refine Ax_il1 dX0_firstRun_0 ?_
  refine Ax_ifltn (tgt := 19) dX0_firstRun_1 (by decide) (by omega) ?_
  refine Ax_il1 dX0_firstRun_4 ?_
  refine Ax_bp24 dX0_firstRun_5 ?_
  refine Ax_cmpgen (tgt := 19) dX0_firstRun_7 (by decide) (by omega) (by omega) (fun c7 => ?_) (fun c7 => ?_)
  · omega
  · refine Ax_al0 dX0_firstRun_10 ?_
    refine Ax_getf kfX0 fX0_15 dX0_firstRun_11 s rfl ?_
    refine Ax_il1 dX0_firstRun_14 ?_
    refine Ax_ialdn dX0_firstRun_15 s2 (by omega) (by omega) ?_
    refine Ax_goto (tgt := 20) dX0_firstRun_16 (by decide) ?_
    exact Ax_iret dX0_firstRun_20 rfl rfl ⟨rfl, rfl⟩
theorem tX0_lastRun (hS : vCl h o ro kn fi la we fw en dn sz hd) {k : Nat} (hk : k < 24) : AM G mX0_lastRun 0 0 [.ref o, .int (nI k)] h (fun r h' => r = some (.int (la k)) ∧ h' = h) := by
  obtain ⟨s, s1, s2, s3, s4, s5, s6⟩ := id hS
  refine AM.of rfl rfl (Nat.le_of_ble_eq_true rfl) rfl ?_
  refine Ax_il1 dX0_lastRun_0 ?_
  refine Ax_ifltn (tgt := 19) dX0_lastRun_1 (by decide) (by omega) ?_
  refine Ax_il1 dX0_lastRun_4 ?_
  refine Ax_bp24 dX0_lastRun_5 ?_
  refine Ax_cmpgen (tgt := 19) dX0_lastRun_7 (by decide) (by omega) (by omega) (fun c7 => ?_) (fun c7 => ?_)
  · omega
  · refine Ax_al0 dX0_lastRun_10 ?_
    refine Ax_getf kfX0 fX0_18 dX0_lastRun_11 s rfl ?_
    refine Ax_il1 dX0_lastRun_14 ?_
    refine Ax_ialdn dX0_lastRun_15 s3 (by omega) (by omega) ?_
    refine Ax_goto (tgt := 20) dX0_lastRun_16 (by decide) ?_
    exact Ax_iret dX0_lastRun_20 rfl rfl ⟨rfl, rfl⟩
theorem tX0_weight (hS : vCl h o ro kn fi la we fw en dn sz hd) {k : Nat} (hk : k < 24) : AM G mX0_weight 0 0 [.ref o, .int (nI k)] h (fun r h' => r = some (.int (we k)) ∧ h' = h) := by
  obtain ⟨s, s1, s2, s3, s4, s5, s6⟩ := id hS
  refine AM.of rfl rfl (Nat.le_of_ble_eq_true rfl) rfl ?_
  refine Ax_il1 dX0_weight_0 ?_
  refine Ax_ifltn (tgt := 19) dX0_weight_1 (by decide) (by omega) ?_
  refine Ax_il1 dX0_weight_4 ?_
  refine Ax_bp24 dX0_weight_5 ?_
  refine Ax_cmpgen (tgt := 19) dX0_weight_7 (by decide) (by omega) (by omega) (fun c7 => ?_) (fun c7 => ?_)
  · omega
  · refine Ax_al0 dX0_weight_10 ?_
    refine Ax_getf kfX0 fX0_21 dX0_weight_11 s rfl ?_
    refine Ax_il1 dX0_weight_14 ?_
    refine Ax_ialdn dX0_weight_15 s4 (by omega) (by omega) ?_
    refine Ax_goto (tgt := 20) dX0_weight_16 (by decide) ?_
    exact Ax_iret dX0_weight_20 rfl rfl ⟨rfl, rfl⟩
theorem tX0_has {m : Nat} (hS : vCl h o ro kn fi la we fw en dn sz (nI m)) (hm : m < 2 ^ 31) (i : Int32) : AM G mX0_has 0 0 [.ref o, .int i] h (fun r h' => r = some (.int (nI (gIn m i).toNat)) ∧ h' = h) := by
  obtain ⟨s, s1, s2, s3, s4, s5, s6⟩ := id hS
  refine AM.of rfl rfl (Nat.le_of_ble_eq_true rfl) rfl ?_
  refine Ax_il1 dX0_has_0 ?_
  refine Ax_iflt (tgt := 16) dX0_has_1 (by decide) (fun c1 => ?_) (fun c1 => ?_)
  · rw [gIn_f (Or.inl c1)]
    refine Ax_ic0 dX0_has_16 ?_
    exact Ax_iret dX0_has_17 rfl (by decide) ⟨rfl, rfl⟩
  refine Ax_il1 dX0_has_4 ?_
  refine Ax_al0 dX0_has_5 ?_
  refine Ax_getf kfX0 fX0_37 dX0_has_6 s rfl ?_
  refine Ax_cmpge (tgt := 16) dX0_has_9 (by decide) (fun c9 => ?_) (fun c9 => ?_)
  · rw [gIn_f (Or.inr c9)]
    refine Ax_ic0 dX0_has_16 ?_
    exact Ax_iret dX0_has_17 rfl (by decide) ⟨rfl, rfl⟩
  obtain ⟨k, hk, rfl⟩ := x_ix c1 c9 hm
  rw [gIn_n hk hm]
  refine Ax_ic1 dX0_has_12 ?_
  refine Ax_goto (tgt := 17) dX0_has_13 (by decide) ?_
  exact Ax_iret dX0_has_17 rfl (by decide) ⟨rfl, rfl⟩
theorem tX0_kindOf {dens size : Nat} (hS : vCl h o ro kn fi la we fw en (nI dens) (nI size) hd) (hV : vRuns h ro R) (hl : R.length ≤ 24) (hI : RInv R) (hdn : dens ≤ 100) (hsz : size ≤ 256) {i n : Nat} (hn : i + n < R.length) : AM G mX0_kindOf 2 0 [.ref o, .int (nI i), .int (nI (i + n))] h (fun r h' => r = some (.int (oI (kd R dens size i (i + n)))) ∧ h' = h) := by
  obtain ⟨s, s1, s2, s3, s4, s5, s6⟩ := id hS
  have r0 := hV.obj
  refine AM.of rfl rfl (Nat.le_of_ble_eq_true rfl) rfl ?_
  refine Ax_il1 dX0_kindOf_0 ?_
  refine Ax_il2 dX0_kindOf_1 ?_
  refine Ax_cmpnen (tgt := 7) dX0_kindOf_2 (by decide) (by omega) (by omega) (fun c2 => ?_) (fun c2 => ?_)
  rotate_left
  · have e : kd R dens size i (i + n) = some 0 := by unfold kd; rw [if_pos c2]
    rw [e]
    refine Ax_ic0 dX0_kindOf_5 ?_
    exact Ax_iret dX0_kindOf_6 rfl rfl ⟨rfl, rfl⟩
  have hsp : spn R i (i + n) ≤ 4294967296 := by
    have h1 := I_lo (rhi R (i + n)); have h2 := I_hi (rhi R (i + n)); have h3 := I_lo (rlo R i); have h4 := I_hi (rlo R i)
    unfold spn; omega
  have hmono := rlo_mono hI n i hn
  have h5 := (hI.1 (i + n) hn).1
  have e1 : (rhi R (i + n)).toInt64 - (rlo R i).toInt64 + lN 1 = lN (spn R i (i + n)) := by
    have h1 := I_lo (rhi R (i + n)); have h2 := I_hi (rhi R (i + n)); have h3 := I_lo (rlo R i); have h4 := I_hi (rlo R i)
    have e1 : ((rhi R (i + n)).toInt64 - (rlo R i).toInt64).toInt = (rhi R (i + n)).toInt - (rlo R i).toInt := by
      rw [L_sub (by rw [Int32.toInt_toInt64, Int32.toInt_toInt64]; omega) (by rw [Int32.toInt_toInt64, Int32.toInt_toInt64]; omega), Int32.toInt_toInt64, Int32.toInt_toInt64]
    refine L_of ?_ (by omega)
    rw [L_add (by rw [e1, L_1]; omega) (by rw [e1, L_1]; omega), e1, L_1]
    unfold spn
    omega
  have hwid : sm (wid R) i (n + 1) ≤ 4294967296 * (n + 1) := by
    have := sm_le (f := wid R) (g := fun _ => 4294967296) (i := i) (n + 1) (fun k h1 h2 => by
      have h1 := I_lo (rhi R k); have h2 := I_hi (rhi R k); have h3 := I_lo (rlo R k); have h4 := I_hi (rlo R k)
      unfold wid; omega)
    have e : ∀ m, sm (fun _ => 4294967296) i m = 4294967296 * m := by
      intro m
      induction m with
      | zero => rfl
      | succ m ih => rw [sm, ih]; omega
    rw [e] at this
    exact this
  have hden : dens * spn R i (i + n) ≤ 100 * 4294967296 := Nat.mul_le_mul hdn hsp
  have hsL := L_lN (n := spn R i (i + n)) (by omega)
  have h64 : (64 : Int64).toInt = 64 := by decide
  have hzL := L_lN (n := size) (by omega)
  have ji : i + n - i + 1 = n + 1 := by omega
  have hlate : ¬ (spn R i (i + n) ≤ 64 ∧ dcnt (rtg R) i (i + n - i + 1) ≤ 3) → Ax G mX0_kindOf 2 0 52 [.ref o, .int (nI i), .int (nI (i + n)), .long (lN (spn R i (i + n))), .null] [] h (fun r h' => r = some (.int (oI (kd R dens size i (i + n)))) ∧ h' = h) := by
    intro hno
    have e0 : kd R dens size i (i + n) = if spn R i (i + n) ≤ size ∧ dens * spn R i (i + n) ≤ 100 * sm (wid R) i (n + 1) then some 2 else none := by
      unfold kd
      rw [if_neg c2, if_neg hno, ji]
    rw [e0]
    refine Ax_ll3 dX0_kindOf_52 ?_
    refine Ax_al0 dX0_kindOf_53 ?_
    refine Ax_getf kfX0 fX0_34 dX0_kindOf_54 s rfl ?_
    refine Ax_i2ln dX0_kindOf_57 (by omega) ?_
    refine Ax_lcmp dX0_kindOf_58 ?_
    refine Ax_ifgtC (tgt := 88) dX0_kindOf_59 (by decide) (fun c59 => ?_) (fun c59 => ?_)
    · rw [if_neg (by omega)]
      refine Ax_icm1 dX0_kindOf_88 ?_
      exact Ax_iret dX0_kindOf_89 rfl rfl ⟨rfl, rfl⟩
    have a1 := L_lN (n := 100 * sm (wid R) i (n + 1)) (by omega)
    have a2 := L_lN (n := dens * spn R i (i + n)) (by omega)
    refine Ax_al0 dX0_kindOf_62 ?_
    refine Ax_getf kfX0 fX0_40 dX0_kindOf_63 s rfl ?_
    refine Ax_il1 dX0_kindOf_66 ?_
    refine Ax_il2 dX0_kindOf_67 ?_
    refine Ax_cVl dX0_kindOf_68 vX0_82 kfX2 r0 (tX2_intsIn hV hl hI hn) rfl rfl (by decide) (by simp [Value.category]) ?_
    refine Ax_ldc2 dX0_kindOf_71 cX0_86 ?_
    refine Ax_lmul dX0_kindOf_74 ?_
    refine Ax_topL (show lN (sm (wid R) i (n + 1)) * 100 = lN (100 * sm (wid R) i (n + 1)) by rw [show (100 : Int64) = lN 100 from rfl, lN_mul, Nat.mul_comm]) ?_
    refine Ax_al0 dX0_kindOf_75 ?_
    refine Ax_getf kfX0 fX0_30 dX0_kindOf_76 s rfl ?_
    refine Ax_i2ln dX0_kindOf_79 (by omega) ?_
    refine Ax_ll3 dX0_kindOf_80 ?_
    refine Ax_lmuln dX0_kindOf_81 ?_
    refine Ax_lcmp dX0_kindOf_82 ?_
    refine Ax_ifltC (tgt := 88) dX0_kindOf_83 (by decide) (fun c83 => ?_) (fun c83 => ?_)
    · rw [if_neg (by omega)]
      refine Ax_icm1 dX0_kindOf_88 ?_
      exact Ax_iret dX0_kindOf_89 rfl rfl ⟨rfl, rfl⟩
    · rw [if_pos ⟨by omega, by omega⟩]
      refine Ax_ic2 dX0_kindOf_86 ?_
      exact Ax_iret dX0_kindOf_87 rfl rfl ⟨rfl, rfl⟩
  refine Ax_al0 dX0_kindOf_7 ?_
  refine Ax_getf kfX0 fX0_40 dX0_kindOf_8 s rfl ?_
  refine Ax_il2 dX0_kindOf_11 ?_
  refine Ax_cVi dX0_kindOf_12 vX0_56 kfX2 r0 (tR_high hV hl (k := i + n) (by omega)) rfl rfl (by decide) (by simp [Value.category]) ?_
  refine Ax_i2l dX0_kindOf_15 ?_
  refine Ax_al0 dX0_kindOf_16 ?_
  refine Ax_getf kfX0 fX0_40 dX0_kindOf_17 s rfl ?_
  refine Ax_il1 dX0_kindOf_20 ?_
  refine Ax_cVi dX0_kindOf_21 vX0_51 kfX2 r0 (tR_low hV hl (k := i) (by omega)) rfl rfl (by decide) (by simp [Value.category]) ?_
  refine Ax_i2l dX0_kindOf_24 ?_
  refine Ax_lsub dX0_kindOf_25 ?_
  refine Ax_lc1 dX0_kindOf_26 ?_
  refine Ax_ladd dX0_kindOf_27 ?_
  refine Ax_topL e1 ?_
  refine Ax_ls3 dX0_kindOf_28 (Nat.le_of_ble_eq_true rfl) (by rfl) ?_
  refine Ax_ll3 dX0_kindOf_29 ?_
  refine Ax_ldc2 dX0_kindOf_30 cX0_77 ?_
  refine Ax_lcmp dX0_kindOf_33 ?_
  refine Ax_ifgtC (tgt := 52) dX0_kindOf_34 (by decide) (fun c34 => ?_) (fun c34 => ?_)
  · exact hlate (by omega)
  have hdc : dcnt (rtg R) i (n + 1) ≤ n + 1 := by
    have : ∀ m, dcnt (rtg R) i m ≤ m := by
      intro m
      induction m with
      | zero => exact Nat.le_refl _
      | succ m ih =>
        rw [dcnt]
        have : (metB (rtg R) i (i + m)).not.toNat ≤ 1 := by cases metB (rtg R) i (i + m) <;> decide
        omega
    exact this _
  refine Ax_al0 dX0_kindOf_37 ?_
  refine Ax_getf kfX0 fX0_40 dX0_kindOf_38 s rfl ?_
  refine Ax_il1 dX0_kindOf_41 ?_
  refine Ax_il2 dX0_kindOf_42 ?_
  refine Ax_cVi dX0_kindOf_43 vX0_79 kfX2 r0 (tX2_unlikeTargets hV hl hI hn) rfl rfl (by decide) (by simp [Value.category]) ?_
  refine Ax_ic3 dX0_kindOf_46 ?_
  refine Ax_cmpgtn (tgt := 52) dX0_kindOf_47 (by decide) (by omega) (by omega) (fun c47 => ?_) (fun c47 => ?_)
  · exact hlate (by rw [ji]; omega)
  · have e : kd R dens size i (i + n) = some 1 := by unfold kd; rw [if_neg c2, if_pos ⟨by omega, by rw [ji]; omega⟩]
    rw [e]
    refine Ax_ic1 dX0_kindOf_50 ?_
    exact Ax_iret dX0_kindOf_51 rfl rfl ⟨rfl, rfl⟩
end
end
section
theorem IsFew.le {m : Nat} {ok : Nat → Nat → Bool} {f e : Nat → Nat} {b : Nat} (h : IsFew m ok f e b) (hok : ∀ i, ok i i = true) : ∀ k i, i + k = m → b ≤ i → f i ≤ k
  | 0, i, hk, _ => by
    obtain rfl : i = m := by omega
    rw [h.1]; exact Nat.le_refl _
  | k + 1, i, hk, hb => by
    have := IsFew.le h hok k (i + 1) (by omega) (by omega)
    have := ((h.2 i hb (by omega)).2.2.2.2 i (Nat.le_refl _) (by omega) (hok i)).1
    omega
theorem IsBest.le {ok : Nat → Nat → Bool} {few : Nat → Nat} {i t v e : Nat} (h : IsBest ok few i t v e) (hok : ok i i = true) : v ≤ few (i + 1) + 1 := (h.2.2.2.2 i (Nat.le_refl _) (by omega) hok).1
section
variable {G : xG} {h : xH} {o ro : Nat} {kn fi la we fw en : Nat → Int32} {hd : Int32} {R : List Run}
theorem tX0_findFewest {dens size : Nat} (hS : vCl h o ro kn fi la we fw en (nI dens) (nI size) hd) (hV : vRuns h ro R) (hro : ro + 5 ≤ o ∨ o + 7 ≤ ro) (hl : R.length ≤ 24) (hI : RInv R) (hdn : dens ≤ 100) (hsz : size ≤ 256) : AM G mX0_findFewest 3 0 [.ref o] h
    (fun r h' => r = none ∧ ∃ fw' en', vCl h' o ro kn fi la we fw' en' (nI dens) (nI size) hd ∧ (∃ few e, IsFew R.length (okB R dens size) few e 0 ∧ ∀ k, k < R.length → en' k = nI (e k)) ∧ xFr o 7 h h') := by
  obtain ⟨s, s1, s2, s3, s4, s5, s6⟩ := id hS
  have r0 := hV.obj
  have hok := okB_self R dens size
  refine AM.of rfl rfl (Nat.le_of_ble_eq_true rfl) rfl ?_
  refine Ax_al0 dX0_findFewest_0 ?_
  refine Ax_getf kfX0 fX0_40 dX0_findFewest_1 s rfl ?_
  refine Ax_cVi dX0_findFewest_4 vX0_62 kfX2 r0 (tR_held hV) rfl rfl (by decide) (by simp [Value.category]) ?_
  refine Ax_bp24 dX0_findFewest_7 ?_
  refine Ax_mmin dX0_findFewest_9 sX0_72 (by decide) (by simp [Value.category]) ?_
  refine Ax_top (show (if nI 24 < nI R.length then nI 24 else nI R.length) = nI R.length by rw [if_neg (by rw [nI_ltI (by decide) (by omega)]; omega)]) ?_
  refine Ax_is1 dX0_findFewest_12 (Nat.le_of_ble_eq_true rfl) (by rfl) ?_
  refine Ax_il1 dX0_findFewest_13 ?_
  refine Ax_ifltn (tgt := 30) dX0_findFewest_14 (by decide) (by omega) ?_
  refine Ax_il1 dX0_findFewest_17 ?_
  refine Ax_bp24 dX0_findFewest_18 ?_
  refine Ax_cmpgtn (tgt := 30) dX0_findFewest_20 (by decide) (by omega) (by omega) (fun c20 => ?_) (fun c20 => ?_)
  · omega
  have fr : ∀ q, (q < o ∨ o + 7 ≤ q) → h.1 q = h.1 q := fun _ _ => rfl
  have zr : h.2 = h.2 := rfl
  refine Ax_al0 dX0_findFewest_23 ?_
  refine Ax_getf kfX0 fX0_24 dX0_findFewest_24 s rfl ?_
  refine Ax_il1 dX0_findFewest_27 ?_
  refine Ax_ic0 dX0_findFewest_28 ?_
  refine Ax_iastn dX0_findFewest_29 s5 (by omega) (by omega) (Ax_up (fun h2 e2 f2 z2 => ?_))
  replace s := (f2 _ (by omega)).trans s
  replace s1 := (f2 _ (by omega)).trans s1
  replace s2 := (f2 _ (by omega)).trans s2
  replace s3 := (f2 _ (by omega)).trans s3
  replace s4 := (f2 _ (by omega)).trans s4
  replace s5 := e2
  replace s6 := (f2 _ (by omega)).trans s6
  replace r0 := (f2 _ (by omega)).trans r0
  replace fr : ∀ q, (q < o ∨ o + 7 ≤ q) → h2.1 q = h.1 q := fun q hq => (f2 q (by omega)).trans (fr q hq)
  replace zr := z2.trans zr
  refine Ax_il1 dX0_findFewest_30 ?_
  refine Ax_ic1 dX0_findFewest_31 ?_
  refine Ax_isub dX0_findFewest_32 ?_
  refine Ax_is2 dX0_findFewest_33 (Nat.le_of_ble_eq_true rfl) (by rfl) ?_
  suffices hloop : ∀ b h1 fw en few e, b ≤ R.length → vCl h1 o ro kn fi la we fw en (nI dens) (nI size) hd → xFr o 7 h h1 → IsFew R.length (okB R dens size) few e b → (∀ k, b ≤ k → k ≤ R.length → fw k = nI (few k)) → (∀ k, b ≤ k → k < R.length → en k = nI (e k)) → ∀ v, Ax G mX0_findFewest 3 0 34 [.ref o, .int (nI R.length), .int (nI b - nI 1), v] [] h1 (fun r h' => r = none ∧ ∃ fw' en', vCl h' o ro kn fi la we fw' en' (nI dens) (nI size) hd ∧ (∃ few e, IsFew R.length (okB R dens size) few e 0 ∧ ∀ k, k < R.length → en' k = nI (e k)) ∧ xFr o 7 h h') by
    refine hloop R.length h2 _ _ (fun _ => 0) (fun _ => 0) (Nat.le_refl _) ⟨s, s1, s2, s3, s4, s5, s6⟩ ⟨fr, zr⟩ ⟨rfl, fun i q1 q2 => by omega⟩ (fun k q1 q2 => ?_) (fun k q1 q2 => by omega) _
    obtain rfl : k = R.length := by omega
    exact pk_us
  clear fr zr s s1 s2 s3 s4 s5 s6 e2 f2 z2
  intro b
  induction b with
  | zero =>
    intro h1 fw en few e hb hS hF hfe hfw hen v
    refine Ax_il2 dX0_findFewest_34 ?_
    refine Ax_iflt (tgt := 134) dX0_findFewest_35 (by decide) (fun c35 => ?_) (fun c35 => ?_)
    · exact Ax_ret dX0_findFewest_134 rfl ⟨rfl, fw, en, hS, ⟨few, e, hfe, fun k hk => hen k (Nat.zero_le _) hk⟩, hF⟩
    · exact absurd (by decide) c35
  | succ i ih =>
    intro h1 fw en few e hb hS hF hfe hfw hen v
    rw [show nI (i + 1) - nI 1 = nI i by rw [pk_sub (by omega)]; rfl]
    obtain ⟨s, s1, s2, s3, s4, s5, s6⟩ := id hS
    have hV1 := hV.fr hF hro
    have r0 := hV1.obj
    have hle : ∀ k, i + 1 ≤ k → k ≤ R.length → few k ≤ 24 := fun k q1 q2 => by
      have := hfe.le hok (R.length - k) k (by omega) q1
      omega
    have fr : ∀ q, (q < o ∨ o + 7 ≤ q) → h1.1 q = h1.1 q := fun _ _ => rfl
    have zr : h1.2 = h1.2 := rfl
    refine Ax_il2 dX0_findFewest_34 ?_
    refine Ax_ifltn (tgt := 134) dX0_findFewest_35 (by decide) (by omega) ?_
    refine Ax_al0 dX0_findFewest_38 ?_
    refine Ax_getf kfX0 fX0_24 dX0_findFewest_39 s rfl ?_
    refine Ax_il2 dX0_findFewest_42 ?_
    refine Ax_al0 dX0_findFewest_43 ?_
    refine Ax_getf kfX0 fX0_24 dX0_findFewest_44 s rfl ?_
    refine Ax_il2 dX0_findFewest_47 ?_
    refine Ax_ic1 dX0_findFewest_48 ?_
    refine Ax_iaddn dX0_findFewest_49 ?_
    refine Ax_ialdn dX0_findFewest_50 s5 (by omega) (by omega) ?_
    refine Ax_top (hfw (i + 1) (by omega) (by omega)) ?_
    refine Ax_ic1 dX0_findFewest_51 ?_
    refine Ax_iaddn dX0_findFewest_52 ?_
    refine Ax_iastn dX0_findFewest_53 s5 (by omega) (by omega) (Ax_up (fun h11 e11 f11 z11 => ?_))
    replace s := (f11 _ (by omega)).trans s
    replace s1 := (f11 _ (by omega)).trans s1
    replace s2 := (f11 _ (by omega)).trans s2
    replace s3 := (f11 _ (by omega)).trans s3
    replace s4 := (f11 _ (by omega)).trans s4
    replace s5 := e11
    replace s6 := (f11 _ (by omega)).trans s6
    replace r0 := (f11 _ (by omega)).trans r0
    replace fr : ∀ q, (q < o ∨ o + 7 ≤ q) → h11.1 q = h1.1 q := fun q hq => (f11 q (by omega)).trans (fr q hq)
    replace zr := z11.trans zr
    refine Ax_al0 dX0_findFewest_54 ?_
    refine Ax_getf kfX0 fX0_27 dX0_findFewest_55 s rfl ?_
    refine Ax_il2 dX0_findFewest_58 ?_
    refine Ax_il2 dX0_findFewest_59 ?_
    refine Ax_iastn dX0_findFewest_60 s6 (by omega) (by omega) (Ax_up (fun h12 e12 f12 z12 => ?_))
    replace s := (f12 _ (by omega)).trans s
    replace s1 := (f12 _ (by omega)).trans s1
    replace s2 := (f12 _ (by omega)).trans s2
    replace s3 := (f12 _ (by omega)).trans s3
    replace s4 := (f12 _ (by omega)).trans s4
    replace s5 := (f12 _ (by omega)).trans s5
    replace s6 := e12
    replace r0 := (f12 _ (by omega)).trans r0
    replace fr : ∀ q, (q < o ∨ o + 7 ≤ q) → h12.1 q = h1.1 q := fun q hq => (f12 q (by omega)).trans (fr q hq)
    replace zr := z12.trans zr
    refine Ax_il2 dX0_findFewest_61 ?_
    refine Ax_ic1 dX0_findFewest_62 ?_
    refine Ax_iaddn dX0_findFewest_63 ?_
    refine Ax_is3 dX0_findFewest_64 (Nat.le_of_ble_eq_true rfl) (by rfl) ?_
    suffices hin : ∀ w t h2 fw2 en2 x e', i + 1 + t + w = R.length → vCl h2 o ro kn fi la we fw2 en2 (nI dens) (nI size) hd → xFr o 7 h h2 → IsBest (okB R dens size) few i t x e' → fw2 i = nI x → en2 i = nI e' → (∀ k, i < k → fw2 k = fw k) → (∀ k, i < k → en2 k = en k) → Ax G mX0_findFewest 3 0 65 [.ref o, .int (nI R.length), .int (nI i), .int (nI (i + 1 + t))] [] h2 (fun r h' => r = none ∧ ∃ fw' en', vCl h' o ro kn fi la we fw' en' (nI dens) (nI size) hd ∧ (∃ few e, IsFew R.length (okB R dens size) few e 0 ∧ ∀ k, k < R.length → en' k = nI (e k)) ∧ xFr o 7 h h') by
      refine hin (R.length - (i + 1)) 0 h12 _ _ _ _ (by omega) ⟨s, s1, s2, s3, s4, s5, s6⟩ (hF.tr ⟨fr, zr⟩) (IsBest.zero (hok i)) pk_us pk_us (fun k hk => pk_un (by omega)) (fun k hk => pk_un (by omega))
    clear fr zr s s1 s2 s3 s4 s5 s6 r0 e11 f11 z11 e12 f12 z12 hV1 hS hF
    intro w
    induction w with
    | zero =>
      intro t h2 fw2 en2 x e' hk hS2 hF2 hbest b1 b2 b3 b4
      refine Ax_il3 dX0_findFewest_65 ?_
      refine Ax_il1 dX0_findFewest_66 ?_
      refine Ax_cmpgen (tgt := 128) dX0_findFewest_67 (by decide) (by omega) (by omega) (fun c67 => ?_) (fun c67 => ?_)
      · refine Ax_inc2_m1 dX0_findFewest_128 (Nat.le_of_ble_eq_true rfl) (by rfl) ?_
        refine Ax_goto (tgt := 34) dX0_findFewest_131 (by decide) ?_
        rw [show (nI i + (-1) : Int32) = nI i - nI 1 by rw [Int32.sub_eq_add_neg]; rfl]
        have hstep := IsFew.step (few' := fun k => if k = i then x else few k) (en' := fun k => if k = i then e' else e k) hfe (by omega) (by rw [show R.length - 1 - i = t by omega]; exact hbest) (fun k hk => if_neg (by omega)) (if_pos rfl) (fun k hk => if_neg (by omega)) (if_pos rfl)
        refine ih h2 fw2 en2 _ _ (by omega) hS2 hF2 hstep (fun k q1 q2 => ?_) (fun k q1 q2 => ?_) _
        · by_cases hki : k = i
          · subst hki; rw [if_pos rfl]; exact b1
          · rw [if_neg hki, b3 k (by omega)]; exact hfw k (by omega) q2
        · by_cases hki : k = i
          · subst hki; rw [if_pos rfl]; exact b2
          · rw [if_neg hki, b4 k (by omega)]; exact hen k (by omega) q2
      · omega
    | succ w ihw =>
      intro t h2 fw2 en2 x e' hk hS2 hF2 hbest b1 b2 b3 b4
      obtain ⟨s, s1, s2, s3, s4, s5, s6⟩ := id hS2
      have hV2 := hV.fr hF2 hro
      have r0 := hV2.obj
      have hx := hbest.le (hok i)
      have hle1 := hle (i + 1) (by omega) (by omega)
      have hle2 := hle (i + 1 + t + 1) (by omega) (by omega)
      have hf1 : fw2 (i + 1 + t + 1) = nI (few (i + 1 + t + 1)) := by rw [b3 _ (by omega)]; exact hfw _ (by omega) (by omega)
      have htj : i + t + 1 = i + 1 + t := by omega
      have hkeep : (x < few (i + t + 1 + 1) + 1 ∨ okB R dens size i (i + t + 1) = false) → Ax G mX0_findFewest 3 0 122 [.ref o, .int (nI R.length), .int (nI i), .int (nI (i + 1 + t))] [] h2 (fun r h' => r = none ∧ ∃ fw' en', vCl h' o ro kn fi la we fw' en' (nI dens) (nI size) hd ∧ (∃ few e, IsFew R.length (okB R dens size) few e 0 ∧ ∀ k, k < R.length → en' k = nI (e k)) ∧ xFr o 7 h h') := by
        intro q
        refine Ax_inc3_1n dX0_findFewest_122 (Nat.le_of_ble_eq_true rfl) (by rfl) ?_
        refine Ax_goto (tgt := 65) dX0_findFewest_125 (by decide) ?_
        exact ihw (t + 1) h2 fw2 en2 x e' (by omega) hS2 hF2 (hbest.keep q) b1 b2 b3 b4
      have hkd := tX0_kindOf (G := G) hS2 hV2 hl hI hdn hsz (i := i) (n := 1 + t) (by omega)
      rw [show i + (1 + t) = i + 1 + t by omega] at hkd
      refine Ax_il3 dX0_findFewest_65 ?_
      refine Ax_il1 dX0_findFewest_66 ?_
      refine Ax_cmpgen (tgt := 128) dX0_findFewest_67 (by decide) (by omega) (by omega) (fun c67 => ?_) (fun c67 => ?_)
      · omega
      refine Ax_al0 dX0_findFewest_70 ?_
      refine Ax_getf kfX0 fX0_24 dX0_findFewest_71 s rfl ?_
      refine Ax_il3 dX0_findFewest_74 ?_
      refine Ax_ic1 dX0_findFewest_75 ?_
      refine Ax_iaddn dX0_findFewest_76 ?_
      refine Ax_ialdn dX0_findFewest_77 s5 (by omega) (by omega) ?_
      refine Ax_top (hf1) ?_
      refine Ax_ic1 dX0_findFewest_78 ?_
      refine Ax_iaddn dX0_findFewest_79 ?_
      refine Ax_al0 dX0_findFewest_80 ?_
      refine Ax_getf kfX0 fX0_24 dX0_findFewest_81 s rfl ?_
      refine Ax_il2 dX0_findFewest_84 ?_
      refine Ax_ialdn dX0_findFewest_85 s5 (by omega) (by omega) ?_
      refine Ax_top (b1) ?_
      refine Ax_cmpgtn (tgt := 122) dX0_findFewest_86 (by decide) (by omega) (by omega) (fun c86 => ?_) (fun c86 => ?_)
      · exact hkeep (Or.inl (by rw [htj]; omega))
      refine Ax_al0 dX0_findFewest_89 ?_
      refine Ax_il2 dX0_findFewest_90 ?_
      refine Ax_il3 dX0_findFewest_91 ?_
      refine Ax_cVi dX0_findFewest_92 vX0_65 kfX0 s hkd rfl rfl (by decide) (by simp [Value.category]) ?_
      refine Ax_icm1 dX0_findFewest_95 ?_
      refine Ax_cmpeq (tgt := 122) dX0_findFewest_96 (by decide) (fun c96 => ?_) (fun c96 => ?_)
      · refine hkeep (Or.inr ?_)
        rw [htj]
        unfold okB
        cases hq : kd R dens size i (i + 1 + t) with
        | none => rfl
        | some z =>
          exfalso
          rw [hq] at c96
          have h8 : z < 3 := by
            unfold kd at hq
            split at hq
            · cases hq; decide
            · split at hq
              · cases hq; decide
              · split at hq
                · cases hq; decide
                · cases hq
          have := congrArg Int32.toInt c96
          rw [show oI (some z) = nI z from rfl, nI_toInt (by omega)] at this
          have h7 : (-1 : Int32).toInt = -1 := rfl
          omega
      have hokj : okB R dens size i (i + t + 1) = true := by
        rw [htj]
        unfold okB
        cases hq : kd R dens size i (i + 1 + t) with
        | none => rw [hq] at c96; exact absurd rfl c96
        | some z => rfl
      have fr : ∀ q, (q < o ∨ o + 7 ≤ q) → h2.1 q = h2.1 q := fun _ _ => rfl
      have zr : h2.2 = h2.2 := rfl
      refine Ax_al0 dX0_findFewest_99 ?_
      refine Ax_getf kfX0 fX0_24 dX0_findFewest_100 s rfl ?_
      refine Ax_il2 dX0_findFewest_103 ?_
      refine Ax_al0 dX0_findFewest_104 ?_
      refine Ax_getf kfX0 fX0_24 dX0_findFewest_105 s rfl ?_
      refine Ax_il3 dX0_findFewest_108 ?_
      refine Ax_ic1 dX0_findFewest_109 ?_
      refine Ax_iaddn dX0_findFewest_110 ?_
      refine Ax_ialdn dX0_findFewest_111 s5 (by omega) (by omega) ?_
      refine Ax_top (hf1) ?_
      refine Ax_ic1 dX0_findFewest_112 ?_
      refine Ax_iaddn dX0_findFewest_113 ?_
      refine Ax_iastn dX0_findFewest_114 s5 (by omega) (by omega) (Ax_up (fun h31 e31 f31 z31 => ?_))
      replace s := (f31 _ (by omega)).trans s
      replace s1 := (f31 _ (by omega)).trans s1
      replace s2 := (f31 _ (by omega)).trans s2
      replace s3 := (f31 _ (by omega)).trans s3
      replace s4 := (f31 _ (by omega)).trans s4
      replace s5 := e31
      replace s6 := (f31 _ (by omega)).trans s6
      replace r0 := (f31 _ (by omega)).trans r0
      replace fr : ∀ q, (q < o ∨ o + 7 ≤ q) → h31.1 q = h2.1 q := fun q hq => (f31 q (by omega)).trans (fr q hq)
      replace zr := z31.trans zr
      refine Ax_al0 dX0_findFewest_115 ?_
      refine Ax_getf kfX0 fX0_27 dX0_findFewest_116 s rfl ?_
      refine Ax_il2 dX0_findFewest_119 ?_
      refine Ax_il3 dX0_findFewest_120 ?_
      refine Ax_iastn dX0_findFewest_121 s6 (by omega) (by omega) (Ax_up (fun h32 e32 f32 z32 => ?_))
      replace s := (f32 _ (by omega)).trans s
      replace s1 := (f32 _ (by omega)).trans s1
      replace s2 := (f32 _ (by omega)).trans s2
      replace s3 := (f32 _ (by omega)).trans s3
      replace s4 := (f32 _ (by omega)).trans s4
      replace s5 := (f32 _ (by omega)).trans s5
      replace s6 := e32
      replace r0 := (f32 _ (by omega)).trans r0
      replace fr : ∀ q, (q < o ∨ o + 7 ≤ q) → h32.1 q = h2.1 q := fun q hq => (f32 q (by omega)).trans (fr q hq)
      replace zr := z32.trans zr
      refine Ax_inc3_1n dX0_findFewest_122 (Nat.le_of_ble_eq_true rfl) (by rfl) ?_
      refine Ax_goto (tgt := 65) dX0_findFewest_125 (by decide) ?_
      have hbn := hbest.new (by rw [htj]; omega) hokj
      rw [htj] at hbn
      exact ihw (t + 1) _ _ _ _ _ (by omega) ⟨s, s1, s2, s3, s4, s5, s6⟩ (hF2.tr ⟨fr, zr⟩) hbn pk_us pk_us (fun k hk => (pk_un (by omega)).trans (b3 k hk)) (fun k hk => (pk_un (by omega)).trans (b4 k hk))
end
end
section
/-! the clusters laid down -/
theorem cf_app (d : List (Nat × Nat)) (p : Nat × Nat) (t : List (Nat × Nat)) : cf (d ++ p :: t) d.length = p.1 ∧ cl (d ++ p :: t) d.length = p.2 := by
  unfold cf cl
  rw [List.getD_eq_getElem?_getD, List.getElem?_append_right (Nat.le_refl _), Nat.sub_self]
  exact ⟨rfl, rfl⟩
def ClRep (R : List Run) (dens size : Nat) (K : List (Nat × Nat)) (kn fi la we : Nat → Int32) (n : Nat) : Prop :=
  ∀ c, c < n → kn c = oI (kd R dens size (cf K c) (cl K c)) ∧ fi c = nI (cf K c) ∧ la c = nI (cl K c) ∧ we c = nI (sm (rwt R) (cf K c) (cl K c - cf K c + 1))
/-- Clusters that hold the clusters of the runs R -/
def vCls (h : xH) (o ro : Nat) (R : List Run) (dens size : Nat) : Prop := ∃ kn fi la we fw en, vCl h o ro kn fi la we fw en (nI dens) (nI size) (nI (clsOf R dens size).length) ∧ ClRep R dens size (clsOf R dens size) kn fi la we (clsOf R dens size).length
theorem vCls.fr {h h' : xH} {o ro o' w : Nat} {R : List Run} {dens size : Nat} (hS : vCls h o ro R dens size) (hF : xFr o' w h h') (hq : o + 7 ≤ o' ∨ o' + w ≤ o) : vCls h' o ro R dens size := by
  obtain ⟨kn, fi, la, we, fw, en, h1, h2⟩ := hS
  exact ⟨kn, fi, la, we, fw, en, h1.fr hF hq, h2⟩
section
variable {G : xG} {h : xH} {o ro : Nat} {kn fi la we fw en : Nat → Int32} {dn sz hd : Int32} {R : List Run}
theorem tX0_part {dens size : Nat} (hS : vCl h o ro kn fi la we fw en dn sz hd) (hV : vRuns h ro R) (hro : ro + 5 ≤ o ∨ o + 7 ≤ ro) (hl : R.length ≤ 24) (hI : RInv R) (hdn : dens ≤ 100) (hsz : size ≤ 256) : AM G mX0_part 4 0 [.ref o, .int (nI dens), .int (nI size)] h
    (fun r h' => r = none ∧ vCls h' o ro R dens size ∧ xFr o 7 h h') := by
  obtain ⟨s, s1, s2, s3, s4, s5, s6⟩ := id hS
  have r0 := hV.obj
  have hok := okB_self R dens size
  refine AM.of rfl rfl (Nat.le_of_ble_eq_true rfl) rfl ?_
  have fr : ∀ q, (q < o ∨ o + 7 ≤ q) → h.1 q = h.1 q := fun _ _ => rfl
  have zr : h.2 = h.2 := rfl
  refine Ax_al0 dX0_part_0 ?_
  refine Ax_il1 dX0_part_1 ?_
  refine Ax_putf kfX0 fX0_30 dX0_part_2 s (Nat.le_of_ble_eq_true rfl) (Or.inl rfl) (by rfl) (by rfl) (Ax_up (fun h1 e1 f1 z1 => ?_))
  replace s := e1
  replace s1 := (f1 _ (by omega)).trans s1
  replace s2 := (f1 _ (by omega)).trans s2
  replace s3 := (f1 _ (by omega)).trans s3
  replace s4 := (f1 _ (by omega)).trans s4
  replace s5 := (f1 _ (by omega)).trans s5
  replace s6 := (f1 _ (by omega)).trans s6
  replace fr : ∀ q, (q < o ∨ o + 7 ≤ q) → h1.1 q = h.1 q := fun q hq => (f1 q (by omega)).trans (fr q hq)
  replace zr := z1.trans zr
  refine Ax_al0 dX0_part_5 ?_
  refine Ax_il2 dX0_part_6 ?_
  refine Ax_putf kfX0 fX0_34 dX0_part_7 s (Nat.le_of_ble_eq_true rfl) (Or.inl rfl) (by rfl) (by rfl) (Ax_up (fun h2 e2 f2 z2 => ?_))
  replace s := e2
  replace s1 := (f2 _ (by omega)).trans s1
  replace s2 := (f2 _ (by omega)).trans s2
  replace s3 := (f2 _ (by omega)).trans s3
  replace s4 := (f2 _ (by omega)).trans s4
  replace s5 := (f2 _ (by omega)).trans s5
  replace s6 := (f2 _ (by omega)).trans s6
  replace fr : ∀ q, (q < o ∨ o + 7 ≤ q) → h2.1 q = h.1 q := fun q hq => (f2 q (by omega)).trans (fr q hq)
  replace zr := z2.trans zr
  refine Ax_al0 dX0_part_10 ?_
  refine Ax_cVv dX0_part_11 vX0_59 kfX0 s (tX0_findFewest (G := G) (h := h2) ⟨s, s1, s2, s3, s4, s5, s6⟩ (hV.fr ⟨fr, zr⟩ hro) hro hl hI hdn hsz) rfl rfl (by decide) (by simp [Value.category]) (Nat.le_refl _) (fun h3 q3 => ?_)
  obtain ⟨fw', en', hS3, ⟨few, e, hfe, hen⟩, hF3⟩ := q3
  have hF3' : xFr o 7 h h3 := xFr.tr ⟨fr, zr⟩ hF3
  clear fr zr s s1 s2 s3 s4 s5 s6 r0
  obtain ⟨s, s1, s2, s3, s4, s5, s6⟩ := id hS3
  have hee : ∀ k, k < R.length → e k = (fewP R dens size).2 k := fun k hk => ((hfe.uniq (fewP_is R dens size)) (R.length - k) k (by omega) (Nat.zero_le _)).2 hk
  have hK : clsOf R dens size = clF e R.length R.length 0 := by unfold clsOf; rw [clF_congr (fun i hi => (hee i hi).symm)]
  have hlenK : (clsOf R dens size).length ≤ 24 := Nat.le_trans (cls_len R dens size) hl
  have fr : ∀ q, (q < o ∨ o + 7 ≤ q) → h3.1 q = h3.1 q := fun _ _ => rfl
  have zr : h3.2 = h3.2 := rfl
  have hexit : ∀ (done : List (Nat × Nat)) h1 kn fi la we, done.length ≤ R.length → clsOf R dens size = done → vCl h1 o ro kn fi la we fw' en' (nI dens) (nI size) (nI done.length) → ClRep R dens size (clsOf R dens size) kn fi la we done.length → xFr o 7 h h1 → Ax G mX0_part 4 0 24 [.ref o, .int (nI dens), .int (nI size), .int (nI R.length), .int (nI done.length)] [] h1 (fun r h' => r = none ∧ vCls h' o ro R dens size ∧ xFr o 7 h h') := by
    intro done h1 kn fi la we hdi hKd hS hRep hF
    have hfin : vCls h1 o ro R dens size := by
      refine ⟨kn, fi, la, we, fw', en', ?_, ?_⟩
      · rw [hKd]; exact hS
      · rw [hKd] at hRep ⊢; exact hRep
    obtain ⟨s, -⟩ := id hS
    have hV1 := hV.fr hF hro
    have r0 := hV1.obj
    refine Ax_il4 dX0_part_24 ?_
    refine Ax_bp24 dX0_part_26 ?_
    refine Ax_cmpgen (tgt := 137) dX0_part_28 (by decide) (by omega) (by omega) (fun c28 => ?_) (fun c28 => ?_)
    · exact Ax_ret dX0_part_137 rfl ⟨rfl, hfin, hF⟩
    refine Ax_il3 dX0_part_31 ?_
    refine Ax_ifltn (tgt := 137) dX0_part_32 (by decide) (by omega) ?_
    refine Ax_il3 dX0_part_35 ?_
    refine Ax_al0 dX0_part_36 ?_
    refine Ax_getf kfX0 fX0_40 dX0_part_37 s rfl ?_
    refine Ax_cVi dX0_part_40 vX0_62 kfX2 r0 (tR_held hV1) rfl rfl (by decide) (by simp [Value.category]) ?_
    refine Ax_cmpgen (tgt := 137) dX0_part_43 (by decide) (by omega) (by omega) (fun c43 => ?_) (fun c43 => ?_)
    · exact Ax_ret dX0_part_137 rfl ⟨rfl, hfin, hF⟩
    · omega
  refine Ax_al0 dX0_part_14 ?_
  refine Ax_ic0 dX0_part_15 ?_
  refine Ax_putf kfX0 fX0_37 dX0_part_16 s (Nat.le_of_ble_eq_true rfl) (Or.inl rfl) (by rfl) (by rfl) (Ax_up (fun h6 e6 f6 z6 => ?_))
  replace s := e6
  replace s1 := (f6 _ (by omega)).trans s1
  replace s2 := (f6 _ (by omega)).trans s2
  replace s3 := (f6 _ (by omega)).trans s3
  replace s4 := (f6 _ (by omega)).trans s4
  replace s5 := (f6 _ (by omega)).trans s5
  replace s6 := (f6 _ (by omega)).trans s6
  replace fr : ∀ q, (q < o ∨ o + 7 ≤ q) → h6.1 q = h3.1 q := fun q hq => (f6 q (by omega)).trans (fr q hq)
  replace zr := z6.trans zr
  refine Ax_ic0 dX0_part_19 ?_
  refine Ax_is3 dX0_part_20 (Nat.le_of_ble_eq_true rfl) (by rfl) ?_
  refine Ax_ic0 dX0_part_21 ?_
  refine Ax_is4 dX0_part_22 (Nat.le_of_ble_eq_true rfl) (by rfl) ?_
  suffices hloop : ∀ n i done h1 kn fi la we, i ≤ R.length → R.length ≤ i + n → done.length ≤ i → clsOf R dens size = done ++ clF e R.length n i → vCl h1 o ro kn fi la we fw' en' (nI dens) (nI size) (nI done.length) → ClRep R dens size (clsOf R dens size) kn fi la we done.length → xFr o 7 h h1 → Ax G mX0_part 4 0 24 [.ref o, .int (nI dens), .int (nI size), .int (nI i), .int (nI done.length)] [] h1 (fun r h' => r = none ∧ vCls h' o ro R dens size ∧ xFr o 7 h h') from
    hloop R.length 0 [] _ _ _ _ _ (Nat.zero_le _) (by omega) (Nat.le_refl _) hK ⟨s, s1, s2, s3, s4, s5, s6⟩ (fun c hc => (Nat.not_lt_zero _ hc).elim) (hF3'.tr ⟨fr, zr⟩)
  clear fr zr s s1 s2 s3 s4 s5 s6 e6 f6 z6 hS3 hF3 hF3' hS
  intro n
  induction n with
  | zero =>
    intro i done h1 kn fi la we hi hin hdi hKd hS hRep hF
    obtain rfl : i = R.length := by omega
    rw [clF, List.append_nil] at hKd
    exact hexit done h1 kn fi la we hdi hKd hS hRep hF
  | succ n ih =>
    intro i done h1 kn fi la we hi hin hdi hKd hS hRep hF
    by_cases him : i < R.length
    · rw [clF, if_pos him] at hKd
      obtain ⟨a1, a2, a3, -⟩ := hfe.2 i (Nat.zero_le _) him
      obtain ⟨k1, k2⟩ := cf_app done (i, e i) (clF e R.length n (e i + 1))
      rw [← hKd] at k1 k2
      obtain ⟨s, s1, s2, s3, s4, s5, s6⟩ := id hS
      have hV1 := hV.fr hF hro
      have r0 := hV1.obj
      have hkd := tX0_kindOf (G := G) hS hV1 hl hI hdn hsz (i := i) (n := e i - i) (by omega)
      rw [show i + (e i - i) = e i by omega] at hkd
      refine Ax_il4 dX0_part_24 ?_
      refine Ax_bp24 dX0_part_26 ?_
      refine Ax_cmpgen (tgt := 137) dX0_part_28 (by decide) (by omega) (by omega) (fun c28 => ?_) (fun c28 => ?_)
      · omega
      refine Ax_il3 dX0_part_31 ?_
      refine Ax_ifltn (tgt := 137) dX0_part_32 (by decide) (by omega) ?_
      refine Ax_il3 dX0_part_35 ?_
      refine Ax_al0 dX0_part_36 ?_
      refine Ax_getf kfX0 fX0_40 dX0_part_37 s rfl ?_
      refine Ax_cVi dX0_part_40 vX0_62 kfX2 r0 (tR_held hV1) rfl rfl (by decide) (by simp [Value.category]) ?_
      refine Ax_cmpgen (tgt := 137) dX0_part_43 (by decide) (by omega) (by omega) (fun c43 => ?_) (fun c43 => ?_)
      · omega
      refine Ax_il3 dX0_part_46 ?_
      refine Ax_bp24 dX0_part_47 ?_
      refine Ax_cmpgen (tgt := 137) dX0_part_49 (by decide) (by omega) (by omega) (fun c49 => ?_) (fun c49 => ?_)
      · omega
      have fr : ∀ q, (q < o ∨ o + 7 ≤ q) → h1.1 q = h1.1 q := fun _ _ => rfl
      have zr : h1.2 = h1.2 := rfl
      refine Ax_al0 dX0_part_52 ?_
      refine Ax_getf kfX0 fX0_9 dX0_part_53 s rfl ?_
      refine Ax_il4 dX0_part_56 ?_
      refine Ax_al0 dX0_part_58 ?_
      refine Ax_il3 dX0_part_59 ?_
      refine Ax_al0 dX0_part_60 ?_
      refine Ax_getf kfX0 fX0_27 dX0_part_61 s rfl ?_
      refine Ax_il3 dX0_part_64 ?_
      refine Ax_ialdn dX0_part_65 s6 (by omega) (by omega) ?_
      refine Ax_top (hen i him) ?_
      refine Ax_cVi dX0_part_66 vX0_65 kfX0 s hkd rfl rfl (by decide) (by simp [Value.category]) ?_
      refine Ax_iastn dX0_part_69 s1 (by omega) (by omega) (Ax_up (fun h41 e41 f41 z41 => ?_))
      replace s := (f41 _ (by omega)).trans s
      replace s1 := e41
      replace s2 := (f41 _ (by omega)).trans s2
      replace s3 := (f41 _ (by omega)).trans s3
      replace s4 := (f41 _ (by omega)).trans s4
      replace s5 := (f41 _ (by omega)).trans s5
      replace s6 := (f41 _ (by omega)).trans s6
      replace r0 := (f41 _ (by omega)).trans r0
      replace fr : ∀ q, (q < o ∨ o + 7 ≤ q) → h41.1 q = h1.1 q := fun q hq => (f41 q (by omega)).trans (fr q hq)
      replace zr := z41.trans zr
      refine Ax_al0 dX0_part_70 ?_
      refine Ax_getf kfX0 fX0_15 dX0_part_71 s rfl ?_
      refine Ax_il4 dX0_part_74 ?_
      refine Ax_il3 dX0_part_76 ?_
      refine Ax_iastn dX0_part_77 s2 (by omega) (by omega) (Ax_up (fun h42 e42 f42 z42 => ?_))
      replace s := (f42 _ (by omega)).trans s
      replace s1 := (f42 _ (by omega)).trans s1
      replace s2 := e42
      replace s3 := (f42 _ (by omega)).trans s3
      replace s4 := (f42 _ (by omega)).trans s4
      replace s5 := (f42 _ (by omega)).trans s5
      replace s6 := (f42 _ (by omega)).trans s6
      replace r0 := (f42 _ (by omega)).trans r0
      replace fr : ∀ q, (q < o ∨ o + 7 ≤ q) → h42.1 q = h1.1 q := fun q hq => (f42 q (by omega)).trans (fr q hq)
      replace zr := z42.trans zr
      refine Ax_al0 dX0_part_78 ?_
      refine Ax_getf kfX0 fX0_18 dX0_part_79 s rfl ?_
      refine Ax_il4 dX0_part_82 ?_
      refine Ax_al0 dX0_part_84 ?_
      refine Ax_getf kfX0 fX0_27 dX0_part_85 s rfl ?_
      refine Ax_il3 dX0_part_88 ?_
      refine Ax_ialdn dX0_part_89 s6 (by omega) (by omega) ?_
      refine Ax_top (hen i him) ?_
      refine Ax_iastn dX0_part_90 s3 (by omega) (by omega) (Ax_up (fun h43 e43 f43 z43 => ?_))
      replace s := (f43 _ (by omega)).trans s
      replace s1 := (f43 _ (by omega)).trans s1
      replace s2 := (f43 _ (by omega)).trans s2
      replace s3 := e43
      replace s4 := (f43 _ (by omega)).trans s4
      replace s5 := (f43 _ (by omega)).trans s5
      replace s6 := (f43 _ (by omega)).trans s6
      replace r0 := (f43 _ (by omega)).trans r0
      replace fr : ∀ q, (q < o ∨ o + 7 ≤ q) → h43.1 q = h1.1 q := fun q hq => (f43 q (by omega)).trans (fr q hq)
      replace zr := z43.trans zr
      refine Ax_al0 dX0_part_91 ?_
      refine Ax_getf kfX0 fX0_21 dX0_part_92 s rfl ?_
      refine Ax_il4 dX0_part_95 ?_
      refine Ax_al0 dX0_part_97 ?_
      have hV4 := (hV1.fr ⟨fr, zr⟩ hro)
      have hwt := tX2_weightOf (G := G) hV4 hl (f := i) (n := e i - i) (by omega)
      rw [show i + (e i - i) = e i by omega] at hwt
      refine Ax_getf kfX0 fX0_40 dX0_part_98 s rfl ?_
      refine Ax_il3 dX0_part_101 ?_
      refine Ax_al0 dX0_part_102 ?_
      refine Ax_getf kfX0 fX0_27 dX0_part_103 s rfl ?_
      refine Ax_il3 dX0_part_106 ?_
      refine Ax_ialdn dX0_part_107 s6 (by omega) (by omega) ?_
      refine Ax_top (hen i him) ?_
      refine Ax_cVi dX0_part_108 vX0_69 kfX2 r0 hwt rfl rfl (by decide) (by simp [Value.category]) ?_
      refine Ax_iastn dX0_part_111 s4 (by omega) (by omega) (Ax_up (fun h44 e44 f44 z44 => ?_))
      replace s := (f44 _ (by omega)).trans s
      replace s1 := (f44 _ (by omega)).trans s1
      replace s2 := (f44 _ (by omega)).trans s2
      replace s3 := (f44 _ (by omega)).trans s3
      replace s4 := e44
      replace s5 := (f44 _ (by omega)).trans s5
      replace s6 := (f44 _ (by omega)).trans s6
      replace r0 := (f44 _ (by omega)).trans r0
      replace fr : ∀ q, (q < o ∨ o + 7 ≤ q) → h44.1 q = h1.1 q := fun q hq => (f44 q (by omega)).trans (fr q hq)
      replace zr := z44.trans zr
      refine Ax_al0 dX0_part_112 ?_
      refine Ax_dup dX0_part_113 rfl ?_
      refine Ax_getf kfX0 fX0_37 dX0_part_114 s rfl ?_
      refine Ax_ic1 dX0_part_117 ?_
      refine Ax_iaddn dX0_part_118 ?_
      refine Ax_putf kfX0 fX0_37 dX0_part_119 s (Nat.le_of_ble_eq_true rfl) (Or.inl rfl) (by rfl) (by rfl) (Ax_up (fun h45 e45 f45 z45 => ?_))
      replace s := e45
      replace s1 := (f45 _ (by omega)).trans s1
      replace s2 := (f45 _ (by omega)).trans s2
      replace s3 := (f45 _ (by omega)).trans s3
      replace s4 := (f45 _ (by omega)).trans s4
      replace s5 := (f45 _ (by omega)).trans s5
      replace s6 := (f45 _ (by omega)).trans s6
      replace r0 := (f45 _ (by omega)).trans r0
      replace fr : ∀ q, (q < o ∨ o + 7 ≤ q) → h45.1 q = h1.1 q := fun q hq => (f45 q (by omega)).trans (fr q hq)
      replace zr := z45.trans zr
      refine Ax_al0 dX0_part_122 ?_
      refine Ax_getf kfX0 fX0_27 dX0_part_123 s rfl ?_
      refine Ax_il3 dX0_part_126 ?_
      refine Ax_ialdn dX0_part_127 s6 (by omega) (by omega) ?_
      refine Ax_top (hen i him) ?_
      refine Ax_ic1 dX0_part_128 ?_
      refine Ax_iaddn dX0_part_129 ?_
      refine Ax_is3 dX0_part_130 (Nat.le_of_ble_eq_true rfl) (by rfl) ?_
      refine Ax_inc4_1n dX0_part_131 (Nat.le_of_ble_eq_true rfl) (by rfl) ?_
      refine Ax_goto (tgt := 24) dX0_part_134 (by decide) ?_
      have hS' : vCl h45 o ro _ _ _ _ fw' en' (nI dens) (nI size) (nI (done.length + 1)) := ⟨s, s1, s2, s3, s4, s5, s6⟩
      have hl1 : (done ++ [(i, e i)]).length = done.length + 1 := by simp
      have hgo := ih (e i + 1) (done ++ [(i, e i)]) h45 _ _ _ _ (by omega) (by omega) (by rw [hl1]; omega) (by rw [hKd, List.append_assoc]; rfl) (by rw [hl1]; exact hS') (by
        intro c hc
        rw [hl1] at hc
        by_cases hcd : c = done.length
        · subst hcd
          rw [pk_us, pk_us, pk_us, pk_us, k1, k2]
          exact ⟨rfl, rfl, rfl, rfl⟩
        · rw [pk_un hcd, pk_un hcd, pk_un hcd, pk_un hcd]
          exact hRep c (by omega)) (hF.tr ⟨fr, zr⟩)
      rw [hl1] at hgo
      exact hgo
    · obtain rfl : i = R.length := by omega
      rw [clF, if_neg him, List.append_nil] at hKd
      exact hexit done h1 kn fi la we hdi hKd hS hRep hF
end
end
section
/-! what is read off the clusters -/
noncomputable def ckd (R : List Run) (dens size c : Nat) : Nat := (kd R dens size (cf (clsOf R dens size) c) (cl (clsOf R dens size) c)).getD 0
noncomputable def cbt (R : List Run) (dens size c : Nat) : Int32 := rlo R (cf (clsOf R dens size) c)
noncomputable def ctp (R : List Run) (dens size c : Nat) : Int32 := rhi R (cl (clsOf R dens size) c)
noncomputable def cwt (R : List Run) (dens size c : Nat) : Nat := sm (rwt R) (cf (clsOf R dens size) c) (cl (clsOf R dens size) c - cf (clsOf R dens size) c + 1)
theorem kd_lt {R : List Run} {dens size i j z : Nat} (hq : kd R dens size i j = some z) : z < 3 := by
  unfold kd at hq
  split at hq
  · cases hq; decide
  · split at hq
    · cases hq; decide
    · split at hq
      · cases hq; decide
      · cases hq
theorem ckd_is {R : List Run} {dens size c : Nat} (hc : c < (clsOf R dens size).length) : kd R dens size (cf (clsOf R dens size) c) (cl (clsOf R dens size) c) = some (ckd R dens size c) := by
  have h := (ClOk.at _ _ c (cls_ok R dens size) hc).2.2.2.1
  unfold okB at h
  obtain ⟨z, hz⟩ := Option.isSome_iff_exists.mp h
  unfold ckd
  rw [hz]
  rfl
theorem ckd_lt {R : List Run} {dens size c : Nat} (hc : c < (clsOf R dens size).length) : ckd R dens size c < 3 := kd_lt (ckd_is hc)
section
variable {G : xG} {h : xH} {o ro dens size : Nat} {R : List Run}
theorem vCls.obj (hV : vCls h o ro R dens size) : ∃ fs : List Value, h.1 o = cO 0 fs ∧ fs[0]? = some (.ref ro) ∧ fs = [.ref ro, .ref (o + 1), .ref (o + 2), .ref (o + 3), .ref (o + 4), .ref (o + 5), .ref (o + 6), .int (nI dens), .int (nI size), .int (nI (clsOf R dens size).length)] := by
  obtain ⟨kn, fi, la, we, fw, en, hS, -⟩ := hV
  exact ⟨_, hS.1, rfl, rfl⟩
theorem vCls.ob (hV : vCls h o ro R dens size) : h.1 o = cO 0 [.ref ro, .ref (o + 1), .ref (o + 2), .ref (o + 3), .ref (o + 4), .ref (o + 5), .ref (o + 6), .int (nI dens), .int (nI size), .int (nI (clsOf R dens size).length)] := by
  obtain ⟨kn, fi, la, we, fw, en, hS, -⟩ := hV
  exact hS.1
theorem tC_held (hV : vCls h o ro R dens size) : AM G mX0_held 0 0 [.ref o] h (fun r h' => r = some (.int (nI (clsOf R dens size).length)) ∧ h' = h) := by
  obtain ⟨kn, fi, la, we, fw, en, hS, -⟩ := hV
  exact tX0_held hS
theorem tC_kind (hV : vCls h o ro R dens size) (hl : (clsOf R dens size).length ≤ 24) {c : Nat} (hc : c < (clsOf R dens size).length) : AM G mX0_kind 0 0 [.ref o, .int (nI c)] h (fun r h' => r = some (.int (nI (ckd R dens size c))) ∧ h' = h) := by
  obtain ⟨kn, fi, la, we, fw, en, hS, hR⟩ := hV
  have := tX0_kind (G := G) hS (k := c) (by omega)
  rw [(hR c hc).1, ckd_is hc] at this
  exact this
theorem tC_firstRun (hV : vCls h o ro R dens size) (hl : (clsOf R dens size).length ≤ 24) {c : Nat} (hc : c < (clsOf R dens size).length) : AM G mX0_firstRun 0 0 [.ref o, .int (nI c)] h (fun r h' => r = some (.int (nI (cf (clsOf R dens size) c))) ∧ h' = h) := by
  obtain ⟨kn, fi, la, we, fw, en, hS, hR⟩ := hV
  have := tX0_firstRun (G := G) hS (k := c) (by omega)
  rw [(hR c hc).2.1] at this
  exact this
theorem tC_lastRun (hV : vCls h o ro R dens size) (hl : (clsOf R dens size).length ≤ 24) {c : Nat} (hc : c < (clsOf R dens size).length) : AM G mX0_lastRun 0 0 [.ref o, .int (nI c)] h (fun r h' => r = some (.int (nI (cl (clsOf R dens size) c))) ∧ h' = h) := by
  obtain ⟨kn, fi, la, we, fw, en, hS, hR⟩ := hV
  have := tX0_lastRun (G := G) hS (k := c) (by omega)
  rw [(hR c hc).2.2.1] at this
  exact this
theorem tC_weight (hV : vCls h o ro R dens size) (hl : (clsOf R dens size).length ≤ 24) {c : Nat} (hc : c < (clsOf R dens size).length) : AM G mX0_weight 0 0 [.ref o, .int (nI c)] h (fun r h' => r = some (.int (nI (cwt R dens size c))) ∧ h' = h) := by
  obtain ⟨kn, fi, la, we, fw, en, hS, hR⟩ := hV
  have := tX0_weight (G := G) hS (k := c) (by omega)
  rw [(hR c hc).2.2.2] at this
  exact this
theorem tC_has (hV : vCls h o ro R dens size) (hl : (clsOf R dens size).length ≤ 24) (i : Int32) : AM G mX0_has 0 0 [.ref o, .int i] h (fun r h' => r = some (.int (nI (gIn (clsOf R dens size).length i).toNat)) ∧ h' = h) := by
  obtain ⟨kn, fi, la, we, fw, en, hS, hR⟩ := hV
  exact tX0_has hS (by omega) i
theorem tC_runsOf (hV : vCls h o ro R dens size) (hl : (clsOf R dens size).length ≤ 24) {c : Nat} (hc : c < (clsOf R dens size).length) : AM G mX0_runsOf 1 0 [.ref o, .int (nI c)] h (fun r h' => r = some (.int (nI (cl (clsOf R dens size) c - cf (clsOf R dens size) c + 1))) ∧ h' = h) := by
  have s := hV.ob
  have hk := ClOk.at _ _ c (cls_ok R dens size) hc
  refine AM.of rfl rfl (Nat.le_of_ble_eq_true rfl) rfl ?_
  refine Ax_al0 dX0_runsOf_0 ?_
  refine Ax_il1 dX0_runsOf_1 ?_
  refine Ax_cVi dX0_runsOf_2 vX0_44 kfX0 s (tC_lastRun hV hl hc) rfl rfl (by decide) (by simp [Value.category]) ?_
  refine Ax_al0 dX0_runsOf_5 ?_
  refine Ax_il1 dX0_runsOf_6 ?_
  refine Ax_cVi dX0_runsOf_7 vX0_48 kfX0 s (tC_firstRun hV hl hc) rfl rfl (by decide) (by simp [Value.category]) ?_
  refine Ax_isubn dX0_runsOf_10 (by omega) ?_
  refine Ax_ic1 dX0_runsOf_11 ?_
  refine Ax_iaddn dX0_runsOf_12 ?_
  exact Ax_iret dX0_runsOf_13 rfl rfl ⟨rfl, rfl⟩
theorem tC_bottom (hV : vCls h o ro R dens size) (hU : vRuns h ro R) (hR : R.length ≤ 24) {c : Nat} (hc : c < (clsOf R dens size).length) : AM G mX0_bottom 1 0 [.ref o, .int (nI c)] h (fun r h' => r = some (.int (cbt R dens size c)) ∧ h' = h) := by
  have s := hV.ob
  have r0 := hU.obj
  have hl := Nat.le_trans (cls_len R dens size) hR
  have hk := ClOk.at _ _ c (cls_ok R dens size) hc
  refine AM.of rfl rfl (Nat.le_of_ble_eq_true rfl) rfl ?_
  refine Ax_al0 dX0_bottom_0 ?_
  refine Ax_getf kfX0 fX0_40 dX0_bottom_1 s rfl ?_
  refine Ax_al0 dX0_bottom_4 ?_
  refine Ax_il1 dX0_bottom_5 ?_
  refine Ax_cVi dX0_bottom_6 vX0_48 kfX0 s (tC_firstRun hV hl hc) rfl rfl (by decide) (by simp [Value.category]) ?_
  refine Ax_cVi dX0_bottom_9 vX0_51 kfX2 r0 (tR_low hU hR (k := cf (clsOf R dens size) c) (by omega)) rfl rfl (by decide) (by simp [Value.category]) ?_
  exact Ax_iret dX0_bottom_12 rfl rfl ⟨rfl, rfl⟩
theorem tC_top (hV : vCls h o ro R dens size) (hU : vRuns h ro R) (hR : R.length ≤ 24) {c : Nat} (hc : c < (clsOf R dens size).length) : AM G mX0_top 1 0 [.ref o, .int (nI c)] h (fun r h' => r = some (.int (ctp R dens size c)) ∧ h' = h) := by
  have s := hV.ob
  have r0 := hU.obj
  have hl := Nat.le_trans (cls_len R dens size) hR
  have hk := ClOk.at _ _ c (cls_ok R dens size) hc
  refine AM.of rfl rfl (Nat.le_of_ble_eq_true rfl) rfl ?_
  refine Ax_al0 dX0_top_0 ?_
  refine Ax_getf kfX0 fX0_40 dX0_top_1 s rfl ?_
  refine Ax_al0 dX0_top_4 ?_
  refine Ax_il1 dX0_top_5 ?_
  refine Ax_cVi dX0_top_6 vX0_44 kfX0 s (tC_lastRun hV hl hc) rfl rfl (by decide) (by simp [Value.category]) ?_
  refine Ax_cVi dX0_top_9 vX0_56 kfX2 r0 (tR_high hU hR (k := cl (clsOf R dens size) c) (by omega)) rfl rfl (by decide) (by simp [Value.category]) ?_
  exact Ax_iret dX0_top_12 rfl rfl ⟨rfl, rfl⟩
end
end
section
/-! mathematics of the cheapest tree: c costs, k cuts, of clusters i .. j of weights w -/
def IsCut (w : Nat → Nat) (c k : Nat → Nat → Nat) (i j : Nat) : Prop :=
  i < k i j ∧ k i j ≤ j ∧ c i j = c i (k i j - 1) + c (k i j) j + sm w i (j - i + 1) ∧ ∀ m, i < m → m ≤ j → c i (k i j - 1) + c (k i j) j ≤ c i (m - 1) + c m j ∧ (c i (m - 1) + c m j = c i (k i j - 1) + c (k i j) j → k i j ≤ m)
def IsCT (w : Nat → Nat) (c k : Nat → Nat → Nat) (s : Nat) : Prop := ∀ i j, i ≤ j → j - i < s → (i = j → c i j = 0) ∧ (i < j → IsCut w c k i j)
/-- the least of g (i + 1) .. g (i + t + 1), at its first place -/
def IsLeast (g : Nat → Nat) (i t v b : Nat) : Prop := i < b ∧ b ≤ i + t + 1 ∧ v = g b ∧ ∀ m, i < m → m ≤ i + t + 1 → v ≤ g m ∧ (g m = v → b ≤ m)
theorem IsLeast.zero {g : Nat → Nat} {i : Nat} : IsLeast g i 0 (g (i + 1)) (i + 1) := ⟨by omega, by omega, rfl, fun m h1 h2 => by (obtain rfl : m = i + 1 := by omega); exact ⟨Nat.le_refl _, fun _ => Nat.le_refl _⟩⟩
theorem IsLeast.keep {g : Nat → Nat} {i t v b : Nat} (h : IsLeast g i t v b) (hk : v ≤ g (i + t + 2)) : IsLeast g i (t + 1) v b := by
  obtain ⟨h1, h2, h3, h4⟩ := h
  refine ⟨h1, by omega, h3, fun m g1 g2 => ?_⟩
  by_cases hm : m = i + t + 2
  · subst hm; exact ⟨hk, fun _ => by omega⟩
  · exact h4 m g1 (by omega)
theorem IsLeast.new {g : Nat → Nat} {i t v b : Nat} (h : IsLeast g i t v b) (hk : g (i + t + 2) < v) : IsLeast g i (t + 1) (g (i + t + 2)) (i + t + 2) := by
  obtain ⟨h1, h2, h3, h4⟩ := h
  refine ⟨by omega, by omega, rfl, fun m g1 g2 => ?_⟩
  by_cases hm : m = i + t + 2
  · subst hm; exact ⟨Nat.le_refl _, fun _ => Nat.le_refl _⟩
  · have := (h4 m g1 (by omega)).1
    exact ⟨by omega, fun q => by omega⟩
theorem least_ex (g : Nat → Nat) (i : Nat) : ∀ t, ∃ v b, IsLeast g i t v b
  | 0 => ⟨_, _, IsLeast.zero⟩
  | t + 1 => by
    obtain ⟨v, b, h⟩ := least_ex g i t
    by_cases hk : g (i + t + 2) < v
    · exact ⟨_, _, h.new hk⟩
    · exact ⟨_, _, h.keep (by omega)⟩
theorem IsLeast.uniq {g : Nat → Nat} {i t v b v' b' : Nat} (h : IsLeast g i t v b) (h' : IsLeast g i t v' b') : v = v' ∧ b = b' := by
  obtain ⟨a1, a2, a3, a4⟩ := h
  obtain ⟨c1, c2, c3, c4⟩ := h'
  have x := a4 b' c1 c2
  have y := c4 b a1 a2
  have e : v = v' := by omega
  have := x.2 (by omega)
  have := y.2 (by omega)
  exact ⟨e, by omega⟩
theorem ct_ex (w : Nat → Nat) : ∀ s, ∃ p : (Nat → Nat → Nat) × (Nat → Nat → Nat), IsCT w p.1 p.2 s
  | 0 => ⟨(fun _ _ => 0, fun _ _ => 0), fun i j h1 h2 => by omega⟩
  | 1 => ⟨(fun _ _ => 0, fun _ _ => 0), fun i j h1 h2 => ⟨fun _ => rfl, fun q => by omega⟩⟩
  | s + 2 => by
    obtain ⟨⟨c, k⟩, h⟩ := ct_ex w (s + 1)
    have hb : ∀ i, ∃ q : Nat × Nat, IsLeast (fun m => c i (m - 1) + c m (i + s + 1)) i s q.1 q.2 := by
      intro i
      obtain ⟨v, b, hb⟩ := least_ex (fun m => c i (m - 1) + c m (i + s + 1)) i s
      exact ⟨(v, b), hb⟩
    obtain ⟨q, hq⟩ := Classical.axiomOfChoice hb
    obtain ⟨c', hc1, hc2⟩ : ∃ c' : Nat → Nat → Nat, (∀ i j, j = i + s + 1 → c' i j = (q i).1 + sm w i (j - i + 1)) ∧ ∀ i j, j ≠ i + s + 1 → c' i j = c i j := ⟨fun i j => if j = i + s + 1 then (q i).1 + sm w i (j - i + 1) else c i j, fun i j e => if_pos e, fun i j e => if_neg e⟩
    obtain ⟨k', hk1, hk2⟩ : ∃ k' : Nat → Nat → Nat, (∀ i j, j = i + s + 1 → k' i j = (q i).2) ∧ ∀ i j, j ≠ i + s + 1 → k' i j = k i j := ⟨fun i j => if j = i + s + 1 then (q i).2 else k i j, fun i j e => if_pos e, fun i j e => if_neg e⟩
    refine ⟨(c', k'), fun i j h1 h2 => ⟨fun e => ?_, fun e => ?_⟩⟩
    · show c' i j = 0
      rw [hc2 i j (by omega)]
      exact (h i j h1 (by omega)).1 e
    · show IsCut w c' k' i j
      by_cases hj : j = i + s + 1
      · obtain ⟨g1, g2, g3, g4⟩ := hq i
        unfold IsCut
        rw [hk1 i j hj, hc1 i j hj, hc2 i ((q i).2 - 1) (by omega), hc2 (q i).2 j (by omega)]
        have g3' : (q i).1 = c i ((q i).2 - 1) + c (q i).2 j := by rw [g3, hj]
        refine ⟨g1, by omega, by rw [g3'], fun m m1 m2 => ?_⟩
        rw [hc2 i (m - 1) (by omega), hc2 m j (by omega)]
        have := g4 m m1 (by omega)
        rw [g3', ← hj] at this
        exact this
      · obtain ⟨g1, g2, g3, g4⟩ := (h i j h1 (by omega)).2 e
        have g1 : i < k i j := g1
        have g2 : k i j ≤ j := g2
        unfold IsCut
        rw [hk2 i j hj, hc2 i j hj, hc2 i (k i j - 1) (by omega), hc2 (k i j) j (by omega)]
        refine ⟨g1, g2, g3, fun m m1 m2 => ?_⟩
        rw [hc2 i (m - 1) (by omega), hc2 m j (by omega)]
        exact g4 m m1 m2
noncomputable def ctP (w : Nat → Nat) : (Nat → Nat → Nat) × (Nat → Nat → Nat) := Classical.choose (ct_ex w 24)
noncomputable def cst (w : Nat → Nat) : Nat → Nat → Nat := (ctP w).1
noncomputable def cut (w : Nat → Nat) : Nat → Nat → Nat := (ctP w).2
theorem ct_is (w : Nat → Nat) : IsCT w (cst w) (cut w) 24 := Classical.choose_spec (ct_ex w 24)
theorem cst_diag (w : Nat → Nat) (i : Nat) : cst w i i = 0 := (ct_is w i i (Nat.le_refl _) (by omega)).1 rfl
theorem cst_le {w : Nat → Nat} {B : Nat} (hw : ∀ c, w c ≤ B) : ∀ s i j, i ≤ j → j - i = s → s < 24 → cst w i j ≤ s * (24 * B) := by
  intro s
  induction s using Nat.strongRecOn with
  | ind s ih =>
    intro i j hij hs h24
    by_cases e : i = j
    · subst e; rw [cst_diag]; exact Nat.zero_le _
    · obtain ⟨g1, g2, g3, -⟩ := (ct_is w i j hij (by omega)).2 (by omega)
      have a1 := ih (cut w i j - 1 - i) (by omega) i (cut w i j - 1) (by omega) rfl (by omega)
      have a2 := ih (j - cut w i j) (by omega) (cut w i j) j g2 rfl (by omega)
      have a3 : sm w i (j - i + 1) ≤ 24 * B := by
        have : ∀ n, sm w i n ≤ n * B := by
          intro n
          induction n with
          | zero => exact Nat.zero_le _
          | succ n ih2 => rw [sm, Nat.succ_mul]; have := hw (i + n); omega
        exact Nat.le_trans (this _) (Nat.mul_le_mul_right _ (by omega))
      rw [g3]
      have e2 : s * (24 * B) = (cut w i j - 1 - i) * (24 * B) + (j - cut w i j) * (24 * B) + 24 * B := by
        rw [← Nat.add_mul, show s = (cut w i j - 1 - i + (j - cut w i j)) + 1 by omega, Nat.succ_mul]
      omega
theorem sm_part {f : Nat → Nat} {i n m : Nat} (h : i + n ≤ m) : sm f i n ≤ sm f 0 m := by
  have h1 := sm_split (f := f) (i := 0) (m := i) n
  have h2 := sm_split (f := f) (i := 0) (m := i + n) (m - (i + n))
  rw [show i + n + (m - (i + n)) = m by omega] at h2
  rw [Nat.zero_add] at h1
  omega
/-- the weight of a cluster and 1 -/
noncomputable def cw1 (R : List Run) (dens size c : Nat) : Nat := cwt R dens size c + 1
theorem cwt_le {R : List Run} {dens size c : Nat} (hc : c < (clsOf R dens size).length) : cwt R dens size c ≤ rsum R := by
  have hk := ClOk.at _ _ c (cls_ok R dens size) hc
  unfold cwt rsum
  exact sm_part (by omega)
noncomputable def spF (R : List Run) (dens size way i j : Nat) : Nat := if way = 1 then cut (fun c => if c < (clsOf R dens size).length then cw1 R dens size c else 0) i j else (i + j + 1) / 2
noncomputable def wF (R : List Run) (dens size : Nat) : Nat → Nat := fun c => if c < (clsOf R dens size).length then cw1 R dens size c else 0
theorem wF_le {R : List Run} {dens size : Nat} (hs : rsum R ≤ 24000) (c : Nat) : wF R dens size c ≤ 24001 := by
  unfold wF
  split
  · rename_i q; have := cwt_le q; unfold cw1; omega
  · exact Nat.zero_le _
theorem spF_in {R : List Run} {dens size way i j : Nat} (hij : i < j) (hj : j < 24) : i < spF R dens size way i j ∧ spF R dens size way i j ≤ j := by
  unfold spF
  split
  · obtain ⟨g1, g2, -⟩ := (ct_is (wF R dens size) i j (by omega) (by omega)).2 hij
    exact ⟨g1, g2⟩
  · omega
end
