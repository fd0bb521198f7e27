section
-- ===== PART A: goes FIRST, ahead of the names: the tables' words, and 'selects' of the private methods out of them =====
/-- a private method of a class that the tables say can be made, by its rows of tables_1 -/
def lw_okq (q : MethodName × Nat) : Prop := (q.1.cls ≠ "java/lang/invoke/MethodHandle" ∧ q.1.cls ≠ "java/lang/invoke/VarHandle") ∧ Cond.instantiable q.1.cls q.2 ∈ tables_1 ∧ Cond.privateMethod q.1 ∈ tables_1 ∧ Cond.instanceMethod q.1 ∈ tables_1
theorem lw_p0 : lw_okq (⟨"MapMachine", "leaveRun", "()V"⟩, 6) := ⟨⟨by decide +kernel, by decide +kernel⟩, List.mem_of_getElem? (i := 14) (by decide +kernel), List.mem_of_getElem? (i := 344) (by decide +kernel), List.mem_of_getElem? (i := 345) (by decide +kernel)⟩
theorem lw_p1 : lw_okq (⟨"MapMachine$Compiler", "functions", "()Z"⟩, 4) := ⟨⟨by decide +kernel, by decide +kernel⟩, List.mem_of_getElem? (i := 69) (by decide +kernel), List.mem_of_getElem? (i := 362) (by decide +kernel), List.mem_of_getElem? (i := 363) (by decide +kernel)⟩
theorem lw_p2 : lw_okq (⟨"MapMachine$Compiler", "newFunction", "()Z"⟩, 4) := ⟨⟨by decide +kernel, by decide +kernel⟩, List.mem_of_getElem? (i := 69) (by decide +kernel), List.mem_of_getElem? (i := 370) (by decide +kernel), List.mem_of_getElem? (i := 371) (by decide +kernel)⟩
theorem lw_p3 : lw_okq (⟨"MapMachine$Compiler", "bare", "(I)Z"⟩, 4) := ⟨⟨by decide +kernel, by decide +kernel⟩, List.mem_of_getElem? (i := 69) (by decide +kernel), List.mem_of_getElem? (i := 378) (by decide +kernel), List.mem_of_getElem? (i := 379) (by decide +kernel)⟩
theorem lw_p4 : lw_okq (⟨"MapMachine$Compiler", "fail", "(I)Z"⟩, 4) := ⟨⟨by decide +kernel, by decide +kernel⟩, List.mem_of_getElem? (i := 69) (by decide +kernel), List.mem_of_getElem? (i := 386) (by decide +kernel), List.mem_of_getElem? (i := 387) (by decide +kernel)⟩
theorem lw_p5 : lw_okq (⟨"MapMachine$Compiler", "block", "(I)Z"⟩, 4) := ⟨⟨by decide +kernel, by decide +kernel⟩, List.mem_of_getElem? (i := 69) (by decide +kernel), List.mem_of_getElem? (i := 394) (by decide +kernel), List.mem_of_getElem? (i := 395) (by decide +kernel)⟩
theorem lw_p6 : lw_okq (⟨"MapMachine$Compiler", "statement", "(I)Z"⟩, 4) := ⟨⟨by decide +kernel, by decide +kernel⟩, List.mem_of_getElem? (i := 69) (by decide +kernel), List.mem_of_getElem? (i := 401) (by decide +kernel), List.mem_of_getElem? (i := 402) (by decide +kernel)⟩
theorem lw_p7 : lw_okq (⟨"MapMachine$Compiler", "choice", "(I)Z"⟩, 4) := ⟨⟨by decide +kernel, by decide +kernel⟩, List.mem_of_getElem? (i := 69) (by decide +kernel), List.mem_of_getElem? (i := 405) (by decide +kernel), List.mem_of_getElem? (i := 406) (by decide +kernel)⟩
theorem lw_p8 : lw_okq (⟨"MapMachine$Compiler", "numberPart", "(I)Z"⟩, 4) := ⟨⟨by decide +kernel, by decide +kernel⟩, List.mem_of_getElem? (i := 69) (by decide +kernel), List.mem_of_getElem? (i := 409) (by decide +kernel), List.mem_of_getElem? (i := 410) (by decide +kernel)⟩
theorem lw_p9 : lw_okq (⟨"MapMachine$Compiler", "shortcut", "(I)Z"⟩, 4) := ⟨⟨by decide +kernel, by decide +kernel⟩, List.mem_of_getElem? (i := 69) (by decide +kernel), List.mem_of_getElem? (i := 416) (by decide +kernel), List.mem_of_getElem? (i := 417) (by decide +kernel)⟩
theorem lw_p10 : lw_okq (⟨"MapMachine$Compiler", "plain", "(I)Z"⟩, 4) := ⟨⟨by decide +kernel, by decide +kernel⟩, List.mem_of_getElem? (i := 69) (by decide +kernel), List.mem_of_getElem? (i := 433) (by decide +kernel), List.mem_of_getElem? (i := 434) (by decide +kernel)⟩
theorem lw_p11 : lw_okq (⟨"MapMachine$Compiler", "argument", "(I)Z"⟩, 4) := ⟨⟨by decide +kernel, by decide +kernel⟩, List.mem_of_getElem? (i := 69) (by decide +kernel), List.mem_of_getElem? (i := 437) (by decide +kernel), List.mem_of_getElem? (i := 438) (by decide +kernel)⟩
theorem lw_p12 : lw_okq (⟨"MapMachine$Compiler", "knownFunction", "()Z"⟩, 4) := ⟨⟨by decide +kernel, by decide +kernel⟩, List.mem_of_getElem? (i := 69) (by decide +kernel), List.mem_of_getElem? (i := 441) (by decide +kernel), List.mem_of_getElem? (i := 442) (by decide +kernel)⟩
theorem lw_p13 : lw_okq (⟨"MapMachine$Compiler", "anyNumber", "()Z"⟩, 4) := ⟨⟨by decide +kernel, by decide +kernel⟩, List.mem_of_getElem? (i := 69) (by decide +kernel), List.mem_of_getElem? (i := 445) (by decide +kernel), List.mem_of_getElem? (i := 446) (by decide +kernel)⟩
theorem lw_p14 : lw_okq (⟨"MapMachine$Compiler", "parts", "(II)Z"⟩, 4) := ⟨⟨by decide +kernel, by decide +kernel⟩, List.mem_of_getElem? (i := 69) (by decide +kernel), List.mem_of_getElem? (i := 449) (by decide +kernel), List.mem_of_getElem? (i := 450) (by decide +kernel)⟩
theorem lw_p15 : lw_okq (⟨"MapMachine$Compiler", "mapPart", "(I)Z"⟩, 4) := ⟨⟨by decide +kernel, by decide +kernel⟩, List.mem_of_getElem? (i := 69) (by decide +kernel), List.mem_of_getElem? (i := 456) (by decide +kernel), List.mem_of_getElem? (i := 457) (by decide +kernel)⟩
def lw_privs_1 : List (MethodName × Nat) := [(⟨"MapMachine", "leaveRun", "()V"⟩, 6), (⟨"MapMachine$Compiler", "functions", "()Z"⟩, 4), (⟨"MapMachine$Compiler", "newFunction", "()Z"⟩, 4), (⟨"MapMachine$Compiler", "bare", "(I)Z"⟩, 4), (⟨"MapMachine$Compiler", "fail", "(I)Z"⟩, 4), (⟨"MapMachine$Compiler", "block", "(I)Z"⟩, 4), (⟨"MapMachine$Compiler", "statement", "(I)Z"⟩, 4), (⟨"MapMachine$Compiler", "choice", "(I)Z"⟩, 4), (⟨"MapMachine$Compiler", "numberPart", "(I)Z"⟩, 4), (⟨"MapMachine$Compiler", "shortcut", "(I)Z"⟩, 4), (⟨"MapMachine$Compiler", "plain", "(I)Z"⟩, 4), (⟨"MapMachine$Compiler", "argument", "(I)Z"⟩, 4), (⟨"MapMachine$Compiler", "knownFunction", "()Z"⟩, 4), (⟨"MapMachine$Compiler", "anyNumber", "()Z"⟩, 4), (⟨"MapMachine$Compiler", "parts", "(II)Z"⟩, 4), (⟨"MapMachine$Compiler", "mapPart", "(I)Z"⟩, 4)]
theorem lw_r1 : ∀ q ∈ lw_privs_1, lw_okq q := List.forall_mem_cons.mpr ⟨lw_p0, List.forall_mem_cons.mpr ⟨lw_p1, List.forall_mem_cons.mpr ⟨lw_p2, List.forall_mem_cons.mpr ⟨lw_p3, List.forall_mem_cons.mpr ⟨lw_p4, List.forall_mem_cons.mpr ⟨lw_p5, List.forall_mem_cons.mpr ⟨lw_p6, List.forall_mem_cons.mpr ⟨lw_p7, List.forall_mem_cons.mpr ⟨lw_p8, List.forall_mem_cons.mpr ⟨lw_p9, List.forall_mem_cons.mpr ⟨lw_p10, List.forall_mem_cons.mpr ⟨lw_p11, List.forall_mem_cons.mpr ⟨lw_p12, List.forall_mem_cons.mpr ⟨lw_p13, List.forall_mem_cons.mpr ⟨lw_p14, List.forall_mem_cons.mpr ⟨lw_p15, fun _ h => absurd h List.not_mem_nil⟩⟩⟩⟩⟩⟩⟩⟩⟩⟩⟩⟩⟩⟩⟩⟩
theorem lw_p16 : lw_okq (⟨"MapMachine$Compiler", "passEnd", "()Z"⟩, 4) := ⟨⟨by decide +kernel, by decide +kernel⟩, List.mem_of_getElem? (i := 69) (by decide +kernel), List.mem_of_getElem? (i := 493) (by decide +kernel), List.mem_of_getElem? (i := 494) (by decide +kernel)⟩
theorem lw_p17 : lw_okq (⟨"MapMachine$Compiler", "repetition", "(I)Z"⟩, 4) := ⟨⟨by decide +kernel, by decide +kernel⟩, List.mem_of_getElem? (i := 69) (by decide +kernel), List.mem_of_getElem? (i := 497) (by decide +kernel), List.mem_of_getElem? (i := 498) (by decide +kernel)⟩
theorem lw_p18 : lw_okq (⟨"MapMachine$Compiler", "loopRest", "(III)Z"⟩, 4) := ⟨⟨by decide +kernel, by decide +kernel⟩, List.mem_of_getElem? (i := 69) (by decide +kernel), List.mem_of_getElem? (i := 505) (by decide +kernel), List.mem_of_getElem? (i := 506) (by decide +kernel)⟩
theorem lw_p19 : lw_okq (⟨"MapMachine$Compiler", "eachKey", "(I)Z"⟩, 4) := ⟨⟨by decide +kernel, by decide +kernel⟩, List.mem_of_getElem? (i := 69) (by decide +kernel), List.mem_of_getElem? (i := 509) (by decide +kernel), List.mem_of_getElem? (i := 510) (by decide +kernel)⟩
theorem lw_p20 : lw_okq (⟨"MapMachine$Compiler", "finishStatement", "(I)V"⟩, 4) := ⟨⟨by decide +kernel, by decide +kernel⟩, List.mem_of_getElem? (i := 69) (by decide +kernel), List.mem_of_getElem? (i := 513) (by decide +kernel), List.mem_of_getElem? (i := 514) (by decide +kernel)⟩
theorem lw_p21 : lw_okq (⟨"MapMachine$Compiler", "mainPart", "()Z"⟩, 4) := ⟨⟨by decide +kernel, by decide +kernel⟩, List.mem_of_getElem? (i := 69) (by decide +kernel), List.mem_of_getElem? (i := 517) (by decide +kernel), List.mem_of_getElem? (i := 518) (by decide +kernel)⟩
theorem lw_p22 : lw_okq (⟨"MapMachine$Runner", "step", "()V"⟩, 5) := ⟨⟨by decide +kernel, by decide +kernel⟩, List.mem_of_getElem? (i := 227) (by decide +kernel), List.mem_of_getElem? (i := 607) (by decide +kernel), List.mem_of_getElem? (i := 608) (by decide +kernel)⟩
theorem lw_p23 : lw_okq (⟨"MapMachine$Runner", "goIf", "(ZI)V"⟩, 5) := ⟨⟨by decide +kernel, by decide +kernel⟩, List.mem_of_getElem? (i := 227) (by decide +kernel), List.mem_of_getElem? (i := 620) (by decide +kernel), List.mem_of_getElem? (i := 621) (by decide +kernel)⟩
theorem lw_p24 : lw_okq (⟨"MapMachine$Runner", "call", "(I)V"⟩, 5) := ⟨⟨by decide +kernel, by decide +kernel⟩, List.mem_of_getElem? (i := 227) (by decide +kernel), List.mem_of_getElem? (i := 624) (by decide +kernel), List.mem_of_getElem? (i := 625) (by decide +kernel)⟩
theorem lw_p25 : lw_okq (⟨"MapMachine$Store", "variablePlace", "(I)I"⟩, 17) := ⟨⟨by decide +kernel, by decide +kernel⟩, List.mem_of_getElem? (i := 143) (by decide +kernel), List.mem_of_getElem? (i := 637) (by decide +kernel), List.mem_of_getElem? (i := 638) (by decide +kernel)⟩
theorem lw_p26 : lw_okq (⟨"MapMachine$Store", "mapPlace", "(I)I"⟩, 17) := ⟨⟨by decide +kernel, by decide +kernel⟩, List.mem_of_getElem? (i := 143) (by decide +kernel), List.mem_of_getElem? (i := 641) (by decide +kernel), List.mem_of_getElem? (i := 642) (by decide +kernel)⟩
theorem lw_p27 : lw_okq (⟨"MapMachine$Runner", "nextKey", "(I)V"⟩, 5) := ⟨⟨by decide +kernel, by decide +kernel⟩, List.mem_of_getElem? (i := 227) (by decide +kernel), List.mem_of_getElem? (i := 658) (by decide +kernel), List.mem_of_getElem? (i := 659) (by decide +kernel)⟩
theorem lw_p28 : lw_okq (⟨"MapMachine$Store", "applyToNumbers", "(I)I"⟩, 17) := ⟨⟨by decide +kernel, by decide +kernel⟩, List.mem_of_getElem? (i := 143) (by decide +kernel), List.mem_of_getElem? (i := 705) (by decide +kernel), List.mem_of_getElem? (i := 706) (by decide +kernel)⟩
theorem lw_p29 : lw_okq (⟨"MapMachine$Store", "changeMap", "(I)I"⟩, 17) := ⟨⟨by decide +kernel, by decide +kernel⟩, List.mem_of_getElem? (i := 143) (by decide +kernel), List.mem_of_getElem? (i := 709) (by decide +kernel), List.mem_of_getElem? (i := 710) (by decide +kernel)⟩
theorem lw_p30 : lw_okq (⟨"MapMachine$Trees", "copyTowards", "(II)I"⟩, 6) := ⟨⟨by decide +kernel, by decide +kernel⟩, List.mem_of_getElem? (i := 149) (by decide +kernel), List.mem_of_getElem? (i := 733) (by decide +kernel), List.mem_of_getElem? (i := 734) (by decide +kernel)⟩
theorem lw_p31 : lw_okq (⟨"MapMachine$Trees", "split", "(II)V"⟩, 6) := ⟨⟨by decide +kernel, by decide +kernel⟩, List.mem_of_getElem? (i := 149) (by decide +kernel), List.mem_of_getElem? (i := 747) (by decide +kernel), List.mem_of_getElem? (i := 748) (by decide +kernel)⟩
def lw_privs_2 : List (MethodName × Nat) := [(⟨"MapMachine$Compiler", "passEnd", "()Z"⟩, 4), (⟨"MapMachine$Compiler", "repetition", "(I)Z"⟩, 4), (⟨"MapMachine$Compiler", "loopRest", "(III)Z"⟩, 4), (⟨"MapMachine$Compiler", "eachKey", "(I)Z"⟩, 4), (⟨"MapMachine$Compiler", "finishStatement", "(I)V"⟩, 4), (⟨"MapMachine$Compiler", "mainPart", "()Z"⟩, 4), (⟨"MapMachine$Runner", "step", "()V"⟩, 5), (⟨"MapMachine$Runner", "goIf", "(ZI)V"⟩, 5), (⟨"MapMachine$Runner", "call", "(I)V"⟩, 5), (⟨"MapMachine$Store", "variablePlace", "(I)I"⟩, 17), (⟨"MapMachine$Store", "mapPlace", "(I)I"⟩, 17), (⟨"MapMachine$Runner", "nextKey", "(I)V"⟩, 5), (⟨"MapMachine$Store", "applyToNumbers", "(I)I"⟩, 17), (⟨"MapMachine$Store", "changeMap", "(I)I"⟩, 17), (⟨"MapMachine$Trees", "copyTowards", "(II)I"⟩, 6), (⟨"MapMachine$Trees", "split", "(II)V"⟩, 6)]
theorem lw_r2 : ∀ q ∈ lw_privs_2, lw_okq q := List.forall_mem_cons.mpr ⟨lw_p16, List.forall_mem_cons.mpr ⟨lw_p17, List.forall_mem_cons.mpr ⟨lw_p18, List.forall_mem_cons.mpr ⟨lw_p19, List.forall_mem_cons.mpr ⟨lw_p20, List.forall_mem_cons.mpr ⟨lw_p21, List.forall_mem_cons.mpr ⟨lw_p22, List.forall_mem_cons.mpr ⟨lw_p23, List.forall_mem_cons.mpr ⟨lw_p24, List.forall_mem_cons.mpr ⟨lw_p25, List.forall_mem_cons.mpr ⟨lw_p26, List.forall_mem_cons.mpr ⟨lw_p27, List.forall_mem_cons.mpr ⟨lw_p28, List.forall_mem_cons.mpr ⟨lw_p29, List.forall_mem_cons.mpr ⟨lw_p30, List.forall_mem_cons.mpr ⟨lw_p31, fun _ h => absurd h List.not_mem_nil⟩⟩⟩⟩⟩⟩⟩⟩⟩⟩⟩⟩⟩⟩⟩⟩
theorem lw_p32 : lw_okq (⟨"MapMachine$Trees", "join", "(II)V"⟩, 6) := ⟨⟨by decide +kernel, by decide +kernel⟩, List.mem_of_getElem? (i := 149) (by decide +kernel), List.mem_of_getElem? (i := 765) (by decide +kernel), List.mem_of_getElem? (i := 766) (by decide +kernel)⟩
theorem lw_p33 : lw_okq (⟨"MapMachine$Trees", "unite", "(III)V"⟩, 6) := ⟨⟨by decide +kernel, by decide +kernel⟩, List.mem_of_getElem? (i := 149) (by decide +kernel), List.mem_of_getElem? (i := 773) (by decide +kernel), List.mem_of_getElem? (i := 774) (by decide +kernel)⟩
theorem lw_p34 : lw_okq (⟨"MapMachine$Store", "keep", "(I)Z"⟩, 17) := ⟨⟨by decide +kernel, by decide +kernel⟩, List.mem_of_getElem? (i := 143) (by decide +kernel), List.mem_of_getElem? (i := 783) (by decide +kernel), List.mem_of_getElem? (i := 784) (by decide +kernel)⟩
theorem lw_p35 : lw_okq (⟨"MapMachine$Store", "reachAll", "()V"⟩, 17) := ⟨⟨by decide +kernel, by decide +kernel⟩, List.mem_of_getElem? (i := 143) (by decide +kernel), List.mem_of_getElem? (i := 791) (by decide +kernel), List.mem_of_getElem? (i := 792) (by decide +kernel)⟩
theorem lw_p36 : lw_okq (⟨"MapMachine$Store", "takeParts", "(I)V"⟩, 17) := ⟨⟨by decide +kernel, by decide +kernel⟩, List.mem_of_getElem? (i := 143) (by decide +kernel), List.mem_of_getElem? (i := 813) (by decide +kernel), List.mem_of_getElem? (i := 814) (by decide +kernel)⟩
theorem lw_p37 : lw_okq (⟨"MapMachine$Store", "tell", "(I)I"⟩, 17) := ⟨⟨by decide +kernel, by decide +kernel⟩, List.mem_of_getElem? (i := 143) (by decide +kernel), List.mem_of_getElem? (i := 827) (by decide +kernel), List.mem_of_getElem? (i := 828) (by decide +kernel)⟩
theorem lw_p38 : lw_okq (⟨"MapMachine$Store", "askMap", "(I)V"⟩, 17) := ⟨⟨by decide +kernel, by decide +kernel⟩, List.mem_of_getElem? (i := 143) (by decide +kernel), List.mem_of_getElem? (i := 835) (by decide +kernel), List.mem_of_getElem? (i := 836) (by decide +kernel)⟩
theorem lw_p39 : lw_okq (⟨"MapMachine$Store", "pushFloor", "()V"⟩, 17) := ⟨⟨by decide +kernel, by decide +kernel⟩, List.mem_of_getElem? (i := 143) (by decide +kernel), List.mem_of_getElem? (i := 845) (by decide +kernel), List.mem_of_getElem? (i := 846) (by decide +kernel)⟩
theorem lw_p40 : lw_okq (⟨"MapMachine$Walker", "openAt", "(I)V"⟩, 9) := ⟨⟨by decide +kernel, by decide +kernel⟩, List.mem_of_getElem? (i := 249) (by decide +kernel), List.mem_of_getElem? (i := 865) (by decide +kernel), List.mem_of_getElem? (i := 866) (by decide +kernel)⟩
theorem lw_p41 : lw_okq (⟨"MapMachine$Walker", "body", "()V"⟩, 9) := ⟨⟨by decide +kernel, by decide +kernel⟩, List.mem_of_getElem? (i := 249) (by decide +kernel), List.mem_of_getElem? (i := 873) (by decide +kernel), List.mem_of_getElem? (i := 874) (by decide +kernel)⟩
theorem lw_p42 : lw_okq (⟨"MapMachine$Walker", "comeBack", "(I)V"⟩, 9) := ⟨⟨by decide +kernel, by decide +kernel⟩, List.mem_of_getElem? (i := 249) (by decide +kernel), List.mem_of_getElem? (i := 877) (by decide +kernel), List.mem_of_getElem? (i := 878) (by decide +kernel)⟩
theorem lw_p43 : lw_okq (⟨"MapMachine$Walker", "beginNext", "()V"⟩, 9) := ⟨⟨by decide +kernel, by decide +kernel⟩, List.mem_of_getElem? (i := 249) (by decide +kernel), List.mem_of_getElem? (i := 890) (by decide +kernel), List.mem_of_getElem? (i := 891) (by decide +kernel)⟩
theorem lw_p44 : lw_okq (⟨"MapMachine$Walker", "mayStep", "()Z"⟩, 9) := ⟨⟨by decide +kernel, by decide +kernel⟩, List.mem_of_getElem? (i := 249) (by decide +kernel), List.mem_of_getElem? (i := 894) (by decide +kernel), List.mem_of_getElem? (i := 895) (by decide +kernel)⟩
theorem lw_p45 : lw_okq (⟨"MapMachine$Walker", "choice", "(II)V"⟩, 9) := ⟨⟨by decide +kernel, by decide +kernel⟩, List.mem_of_getElem? (i := 249) (by decide +kernel), List.mem_of_getElem? (i := 904) (by decide +kernel), List.mem_of_getElem? (i := 905) (by decide +kernel)⟩
theorem lw_p46 : lw_okq (⟨"MapMachine$Walker", "beginPart", "(I)V"⟩, 9) := ⟨⟨by decide +kernel, by decide +kernel⟩, List.mem_of_getElem? (i := 249) (by decide +kernel), List.mem_of_getElem? (i := 908) (by decide +kernel), List.mem_of_getElem? (i := 909) (by decide +kernel)⟩
theorem lw_p47 : lw_okq (⟨"MapMachine$Walker", "setStage", "(I)V"⟩, 9) := ⟨⟨by decide +kernel, by decide +kernel⟩, List.mem_of_getElem? (i := 249) (by decide +kernel), List.mem_of_getElem? (i := 912) (by decide +kernel), List.mem_of_getElem? (i := 913) (by decide +kernel)⟩
def lw_privs_3 : List (MethodName × Nat) := [(⟨"MapMachine$Trees", "join", "(II)V"⟩, 6), (⟨"MapMachine$Trees", "unite", "(III)V"⟩, 6), (⟨"MapMachine$Store", "keep", "(I)Z"⟩, 17), (⟨"MapMachine$Store", "reachAll", "()V"⟩, 17), (⟨"MapMachine$Store", "takeParts", "(I)V"⟩, 17), (⟨"MapMachine$Store", "tell", "(I)I"⟩, 17), (⟨"MapMachine$Store", "askMap", "(I)V"⟩, 17), (⟨"MapMachine$Store", "pushFloor", "()V"⟩, 17), (⟨"MapMachine$Walker", "openAt", "(I)V"⟩, 9), (⟨"MapMachine$Walker", "body", "()V"⟩, 9), (⟨"MapMachine$Walker", "comeBack", "(I)V"⟩, 9), (⟨"MapMachine$Walker", "beginNext", "()V"⟩, 9), (⟨"MapMachine$Walker", "mayStep", "()Z"⟩, 9), (⟨"MapMachine$Walker", "choice", "(II)V"⟩, 9), (⟨"MapMachine$Walker", "beginPart", "(I)V"⟩, 9), (⟨"MapMachine$Walker", "setStage", "(I)V"⟩, 9)]
theorem lw_r3 : ∀ q ∈ lw_privs_3, lw_okq q := List.forall_mem_cons.mpr ⟨lw_p32, List.forall_mem_cons.mpr ⟨lw_p33, List.forall_mem_cons.mpr ⟨lw_p34, List.forall_mem_cons.mpr ⟨lw_p35, List.forall_mem_cons.mpr ⟨lw_p36, List.forall_mem_cons.mpr ⟨lw_p37, List.forall_mem_cons.mpr ⟨lw_p38, List.forall_mem_cons.mpr ⟨lw_p39, List.forall_mem_cons.mpr ⟨lw_p40, List.forall_mem_cons.mpr ⟨lw_p41, List.forall_mem_cons.mpr ⟨lw_p42, List.forall_mem_cons.mpr ⟨lw_p43, List.forall_mem_cons.mpr ⟨lw_p44, List.forall_mem_cons.mpr ⟨lw_p45, List.forall_mem_cons.mpr ⟨lw_p46, List.forall_mem_cons.mpr ⟨lw_p47, fun _ h => absurd h List.not_mem_nil⟩⟩⟩⟩⟩⟩⟩⟩⟩⟩⟩⟩⟩⟩⟩⟩
theorem lw_p48 : lw_okq (⟨"MapMachine$Walker", "closeBehind", "(I)V"⟩, 9) := ⟨⟨by decide +kernel, by decide +kernel⟩, List.mem_of_getElem? (i := 249) (by decide +kernel), List.mem_of_getElem? (i := 922) (by decide +kernel), List.mem_of_getElem? (i := 923) (by decide +kernel)⟩
theorem lw_p49 : lw_okq (⟨"MapMachine$Walker", "close", "()V"⟩, 9) := ⟨⟨by decide +kernel, by decide +kernel⟩, List.mem_of_getElem? (i := 249) (by decide +kernel), List.mem_of_getElem? (i := 926) (by decide +kernel), List.mem_of_getElem? (i := 927) (by decide +kernel)⟩
theorem lw_p50 : lw_okq (⟨"MapMachine$Walker", "repetition", "(II)V"⟩, 9) := ⟨⟨by decide +kernel, by decide +kernel⟩, List.mem_of_getElem? (i := 249) (by decide +kernel), List.mem_of_getElem? (i := 930) (by decide +kernel), List.mem_of_getElem? (i := 931) (by decide +kernel)⟩
theorem lw_p51 : lw_okq (⟨"MapMachine$Walker", "eachKey", "(II)V"⟩, 9) := ⟨⟨by decide +kernel, by decide +kernel⟩, List.mem_of_getElem? (i := 249) (by decide +kernel), List.mem_of_getElem? (i := 934) (by decide +kernel), List.mem_of_getElem? (i := 935) (by decide +kernel)⟩
theorem lw_p52 : lw_okq (⟨"MapMachine$Walker", "comeToKey", "(I)V"⟩, 9) := ⟨⟨by decide +kernel, by decide +kernel⟩, List.mem_of_getElem? (i := 249) (by decide +kernel), List.mem_of_getElem? (i := 940) (by decide +kernel), List.mem_of_getElem? (i := 941) (by decide +kernel)⟩
theorem lw_p53 : lw_okq (⟨"MapMachine$Walker", "answer", "(I)V"⟩, 9) := ⟨⟨by decide +kernel, by decide +kernel⟩, List.mem_of_getElem? (i := 249) (by decide +kernel), List.mem_of_getElem? (i := 947) (by decide +kernel), List.mem_of_getElem? (i := 948) (by decide +kernel)⟩
theorem lw_p54 : lw_okq (⟨"MapMachine$Walker", "call", "(II)V"⟩, 9) := ⟨⟨by decide +kernel, by decide +kernel⟩, List.mem_of_getElem? (i := 249) (by decide +kernel), List.mem_of_getElem? (i := 951) (by decide +kernel), List.mem_of_getElem? (i := 952) (by decide +kernel)⟩
theorem lw_p55 : lw_okq (⟨"MapMachine$Walker", "enter", "(II)V"⟩, 9) := ⟨⟨by decide +kernel, by decide +kernel⟩, List.mem_of_getElem? (i := 249) (by decide +kernel), List.mem_of_getElem? (i := 956) (by decide +kernel), List.mem_of_getElem? (i := 957) (by decide +kernel)⟩
theorem lw_p56 : lw_okq (⟨"MapMachine$Walker", "shortcut", "(II)V"⟩, 9) := ⟨⟨by decide +kernel, by decide +kernel⟩, List.mem_of_getElem? (i := 249) (by decide +kernel), List.mem_of_getElem? (i := 965) (by decide +kernel), List.mem_of_getElem? (i := 966) (by decide +kernel)⟩
theorem lw_p57 : lw_okq (⟨"MapMachine$Walker", "plain", "(II)V"⟩, 9) := ⟨⟨by decide +kernel, by decide +kernel⟩, List.mem_of_getElem? (i := 249) (by decide +kernel), List.mem_of_getElem? (i := 970) (by decide +kernel), List.mem_of_getElem? (i := 971) (by decide +kernel)⟩
theorem lw_p58 : lw_okq (⟨"MapMachineModel", "clear", "(I)V"⟩, 66) := ⟨⟨by decide +kernel, by decide +kernel⟩, List.mem_of_getElem? (i := 1040) (by decide +kernel), List.mem_of_getElem? (i := 1253) (by decide +kernel), List.mem_of_getElem? (i := 1254) (by decide +kernel)⟩
theorem lw_p59 : lw_okq (⟨"MapMachineModel", "clearOwn", "()V"⟩, 66) := ⟨⟨by decide +kernel, by decide +kernel⟩, List.mem_of_getElem? (i := 1040) (by decide +kernel), List.mem_of_getElem? (i := 1257) (by decide +kernel), List.mem_of_getElem? (i := 1258) (by decide +kernel)⟩
theorem lw_p60 : lw_okq (⟨"MapMachineModel", "token", "()I"⟩, 66) := ⟨⟨by decide +kernel, by decide +kernel⟩, List.mem_of_getElem? (i := 1040) (by decide +kernel), List.mem_of_getElem? (i := 1269) (by decide +kernel), List.mem_of_getElem? (i := 1270) (by decide +kernel)⟩
theorem lw_p61 : lw_okq (⟨"MapMachineModel", "readFunction", "()V"⟩, 66) := ⟨⟨by decide +kernel, by decide +kernel⟩, List.mem_of_getElem? (i := 1040) (by decide +kernel), List.mem_of_getElem? (i := 1273) (by decide +kernel), List.mem_of_getElem? (i := 1274) (by decide +kernel)⟩
theorem lw_p62 : lw_okq (⟨"MapMachineModel", "wrong", "(I)V"⟩, 66) := ⟨⟨by decide +kernel, by decide +kernel⟩, List.mem_of_getElem? (i := 1040) (by decide +kernel), List.mem_of_getElem? (i := 1277) (by decide +kernel), List.mem_of_getElem? (i := 1278) (by decide +kernel)⟩
theorem lw_p63 : lw_okq (⟨"MapMachineModel", "number", "(I)I"⟩, 66) := ⟨⟨by decide +kernel, by decide +kernel⟩, List.mem_of_getElem? (i := 1040) (by decide +kernel), List.mem_of_getElem? (i := 1281) (by decide +kernel), List.mem_of_getElem? (i := 1282) (by decide +kernel)⟩
def lw_privs_4 : List (MethodName × Nat) := [(⟨"MapMachine$Walker", "closeBehind", "(I)V"⟩, 9), (⟨"MapMachine$Walker", "close", "()V"⟩, 9), (⟨"MapMachine$Walker", "repetition", "(II)V"⟩, 9), (⟨"MapMachine$Walker", "eachKey", "(II)V"⟩, 9), (⟨"MapMachine$Walker", "comeToKey", "(I)V"⟩, 9), (⟨"MapMachine$Walker", "answer", "(I)V"⟩, 9), (⟨"MapMachine$Walker", "call", "(II)V"⟩, 9), (⟨"MapMachine$Walker", "enter", "(II)V"⟩, 9), (⟨"MapMachine$Walker", "shortcut", "(II)V"⟩, 9), (⟨"MapMachine$Walker", "plain", "(II)V"⟩, 9), (⟨"MapMachineModel", "clear", "(I)V"⟩, 66), (⟨"MapMachineModel", "clearOwn", "()V"⟩, 66), (⟨"MapMachineModel", "token", "()I"⟩, 66), (⟨"MapMachineModel", "readFunction", "()V"⟩, 66), (⟨"MapMachineModel", "wrong", "(I)V"⟩, 66), (⟨"MapMachineModel", "number", "(I)I"⟩, 66)]
theorem lw_r4 : ∀ q ∈ lw_privs_4, lw_okq q := List.forall_mem_cons.mpr ⟨lw_p48, List.forall_mem_cons.mpr ⟨lw_p49, List.forall_mem_cons.mpr ⟨lw_p50, List.forall_mem_cons.mpr ⟨lw_p51, List.forall_mem_cons.mpr ⟨lw_p52, List.forall_mem_cons.mpr ⟨lw_p53, List.forall_mem_cons.mpr ⟨lw_p54, List.forall_mem_cons.mpr ⟨lw_p55, List.forall_mem_cons.mpr ⟨lw_p56, List.forall_mem_cons.mpr ⟨lw_p57, List.forall_mem_cons.mpr ⟨lw_p58, List.forall_mem_cons.mpr ⟨lw_p59, List.forall_mem_cons.mpr ⟨lw_p60, List.forall_mem_cons.mpr ⟨lw_p61, List.forall_mem_cons.mpr ⟨lw_p62, List.forall_mem_cons.mpr ⟨lw_p63, fun _ h => absurd h List.not_mem_nil⟩⟩⟩⟩⟩⟩⟩⟩⟩⟩⟩⟩⟩⟩⟩⟩
theorem lw_p64 : lw_okq (⟨"MapMachineModel", "later", "(III)V"⟩, 66) := ⟨⟨by decide +kernel, by decide +kernel⟩, List.mem_of_getElem? (i := 1040) (by decide +kernel), List.mem_of_getElem? (i := 1285) (by decide +kernel), List.mem_of_getElem? (i := 1286) (by decide +kernel)⟩
theorem lw_p65 : lw_okq (⟨"MapMachineModel", "readAll", "()V"⟩, 66) := ⟨⟨by decide +kernel, by decide +kernel⟩, List.mem_of_getElem? (i := 1040) (by decide +kernel), List.mem_of_getElem? (i := 1289) (by decide +kernel), List.mem_of_getElem? (i := 1290) (by decide +kernel)⟩
theorem lw_p66 : lw_okq (⟨"MapMachineModel", "readStatements", "(II)V"⟩, 66) := ⟨⟨by decide +kernel, by decide +kernel⟩, List.mem_of_getElem? (i := 1040) (by decide +kernel), List.mem_of_getElem? (i := 1293) (by decide +kernel), List.mem_of_getElem? (i := 1294) (by decide +kernel)⟩
theorem lw_p67 : lw_okq (⟨"MapMachineModel", "fill", "(I)V"⟩, 66) := ⟨⟨by decide +kernel, by decide +kernel⟩, List.mem_of_getElem? (i := 1040) (by decide +kernel), List.mem_of_getElem? (i := 1297) (by decide +kernel), List.mem_of_getElem? (i := 1298) (by decide +kernel)⟩
theorem lw_p68 : lw_okq (⟨"MapMachineModel", "newHole", "()I"⟩, 66) := ⟨⟨by decide +kernel, by decide +kernel⟩, List.mem_of_getElem? (i := 1040) (by decide +kernel), List.mem_of_getElem? (i := 1301) (by decide +kernel), List.mem_of_getElem? (i := 1302) (by decide +kernel)⟩
theorem lw_p69 : lw_okq (⟨"MapMachineModel", "lay", "(I)V"⟩, 66) := ⟨⟨by decide +kernel, by decide +kernel⟩, List.mem_of_getElem? (i := 1040) (by decide +kernel), List.mem_of_getElem? (i := 1305) (by decide +kernel), List.mem_of_getElem? (i := 1306) (by decide +kernel)⟩
theorem lw_p70 : lw_okq (⟨"MapMachineModel", "layHole", "(I)V"⟩, 66) := ⟨⟨by decide +kernel, by decide +kernel⟩, List.mem_of_getElem? (i := 1040) (by decide +kernel), List.mem_of_getElem? (i := 1309) (by decide +kernel), List.mem_of_getElem? (i := 1310) (by decide +kernel)⟩
theorem lw_p71 : lw_okq (⟨"MapMachineModel", "isDeep", "(I)Z"⟩, 66) := ⟨⟨by decide +kernel, by decide +kernel⟩, List.mem_of_getElem? (i := 1040) (by decide +kernel), List.mem_of_getElem? (i := 1313) (by decide +kernel), List.mem_of_getElem? (i := 1314) (by decide +kernel)⟩
theorem lw_p72 : lw_okq (⟨"MapMachineModel", "mark", "()V"⟩, 66) := ⟨⟨by decide +kernel, by decide +kernel⟩, List.mem_of_getElem? (i := 1040) (by decide +kernel), List.mem_of_getElem? (i := 1317) (by decide +kernel), List.mem_of_getElem? (i := 1318) (by decide +kernel)⟩
theorem lw_p73 : lw_okq (⟨"MapMachineModel", "readStatement", "(II)V"⟩, 66) := ⟨⟨by decide +kernel, by decide +kernel⟩, List.mem_of_getElem? (i := 1040) (by decide +kernel), List.mem_of_getElem? (i := 1321) (by decide +kernel), List.mem_of_getElem? (i := 1322) (by decide +kernel)⟩
theorem lw_p74 : lw_okq (⟨"MapMachineModel", "remember", "(I)V"⟩, 66) := ⟨⟨by decide +kernel, by decide +kernel⟩, List.mem_of_getElem? (i := 1040) (by decide +kernel), List.mem_of_getElem? (i := 1325) (by decide +kernel), List.mem_of_getElem? (i := 1326) (by decide +kernel)⟩
theorem lw_p75 : lw_okq (⟨"MapMachineModel", "readOver", "(I)V"⟩, 66) := ⟨⟨by decide +kernel, by decide +kernel⟩, List.mem_of_getElem? (i := 1040) (by decide +kernel), List.mem_of_getElem? (i := 1329) (by decide +kernel), List.mem_of_getElem? (i := 1330) (by decide +kernel)⟩
theorem lw_p76 : lw_okq (⟨"MapMachineModel", "readCall", "(I)V"⟩, 66) := ⟨⟨by decide +kernel, by decide +kernel⟩, List.mem_of_getElem? (i := 1040) (by decide +kernel), List.mem_of_getElem? (i := 1333) (by decide +kernel), List.mem_of_getElem? (i := 1334) (by decide +kernel)⟩
theorem lw_p77 : lw_okq (⟨"MapMachineModel", "known", "()I"⟩, 66) := ⟨⟨by decide +kernel, by decide +kernel⟩, List.mem_of_getElem? (i := 1040) (by decide +kernel), List.mem_of_getElem? (i := 1337) (by decide +kernel), List.mem_of_getElem? (i := 1338) (by decide +kernel)⟩
theorem lw_p78 : lw_okq (⟨"MapMachineModel", "readExpression", "(I)V"⟩, 66) := ⟨⟨by decide +kernel, by decide +kernel⟩, List.mem_of_getElem? (i := 1040) (by decide +kernel), List.mem_of_getElem? (i := 1341) (by decide +kernel), List.mem_of_getElem? (i := 1342) (by decide +kernel)⟩
theorem lw_p79 : lw_okq (⟨"MapMachineModel", "readEither", "(II)V"⟩, 66) := ⟨⟨by decide +kernel, by decide +kernel⟩, List.mem_of_getElem? (i := 1040) (by decide +kernel), List.mem_of_getElem? (i := 1345) (by decide +kernel), List.mem_of_getElem? (i := 1346) (by decide +kernel)⟩
def lw_privs_5 : List (MethodName × Nat) := [(⟨"MapMachineModel", "later", "(III)V"⟩, 66), (⟨"MapMachineModel", "readAll", "()V"⟩, 66), (⟨"MapMachineModel", "readStatements", "(II)V"⟩, 66), (⟨"MapMachineModel", "fill", "(I)V"⟩, 66), (⟨"MapMachineModel", "newHole", "()I"⟩, 66), (⟨"MapMachineModel", "lay", "(I)V"⟩, 66), (⟨"MapMachineModel", "layHole", "(I)V"⟩, 66), (⟨"MapMachineModel", "isDeep", "(I)Z"⟩, 66), (⟨"MapMachineModel", "mark", "()V"⟩, 66), (⟨"MapMachineModel", "readStatement", "(II)V"⟩, 66), (⟨"MapMachineModel", "remember", "(I)V"⟩, 66), (⟨"MapMachineModel", "readOver", "(I)V"⟩, 66), (⟨"MapMachineModel", "readCall", "(I)V"⟩, 66), (⟨"MapMachineModel", "known", "()I"⟩, 66), (⟨"MapMachineModel", "readExpression", "(I)V"⟩, 66), (⟨"MapMachineModel", "readEither", "(II)V"⟩, 66)]
theorem lw_r5 : ∀ q ∈ lw_privs_5, lw_okq q := List.forall_mem_cons.mpr ⟨lw_p64, List.forall_mem_cons.mpr ⟨lw_p65, List.forall_mem_cons.mpr ⟨lw_p66, List.forall_mem_cons.mpr ⟨lw_p67, List.forall_mem_cons.mpr ⟨lw_p68, List.forall_mem_cons.mpr ⟨lw_p69, List.forall_mem_cons.mpr ⟨lw_p70, List.forall_mem_cons.mpr ⟨lw_p71, List.forall_mem_cons.mpr ⟨lw_p72, List.forall_mem_cons.mpr ⟨lw_p73, List.forall_mem_cons.mpr ⟨lw_p74, List.forall_mem_cons.mpr ⟨lw_p75, List.forall_mem_cons.mpr ⟨lw_p76, List.forall_mem_cons.mpr ⟨lw_p77, List.forall_mem_cons.mpr ⟨lw_p78, List.forall_mem_cons.mpr ⟨lw_p79, fun _ h => absurd h List.not_mem_nil⟩⟩⟩⟩⟩⟩⟩⟩⟩⟩⟩⟩⟩⟩⟩⟩
theorem lw_p80 : lw_okq (⟨"MapMachineModel", "readMap", "(I)V"⟩, 66) := ⟨⟨by decide +kernel, by decide +kernel⟩, List.mem_of_getElem? (i := 1040) (by decide +kernel), List.mem_of_getElem? (i := 1349) (by decide +kernel), List.mem_of_getElem? (i := 1350) (by decide +kernel)⟩
theorem lw_p81 : lw_okq (⟨"MapMachineModel", "layBack", "(I)V"⟩, 66) := ⟨⟨by decide +kernel, by decide +kernel⟩, List.mem_of_getElem? (i := 1040) (by decide +kernel), List.mem_of_getElem? (i := 1353) (by decide +kernel), List.mem_of_getElem? (i := 1354) (by decide +kernel)⟩
theorem lw_p82 : lw_okq (⟨"MapMachineModel", "go", "(I)V"⟩, 66) := ⟨⟨by decide +kernel, by decide +kernel⟩, List.mem_of_getElem? (i := 1040) (by decide +kernel), List.mem_of_getElem? (i := 1373) (by decide +kernel), List.mem_of_getElem? (i := 1374) (by decide +kernel)⟩
theorem lw_p83 : lw_okq (⟨"MapMachineModel", "isStep", "()Z"⟩, 66) := ⟨⟨by decide +kernel, by decide +kernel⟩, List.mem_of_getElem? (i := 1040) (by decide +kernel), List.mem_of_getElem? (i := 1377) (by decide +kernel), List.mem_of_getElem? (i := 1378) (by decide +kernel)⟩
theorem lw_p84 : lw_okq (⟨"MapMachineModel", "word", "(I)I"⟩, 66) := ⟨⟨by decide +kernel, by decide +kernel⟩, List.mem_of_getElem? (i := 1040) (by decide +kernel), List.mem_of_getElem? (i := 1381) (by decide +kernel), List.mem_of_getElem? (i := 1382) (by decide +kernel)⟩
theorem lw_p85 : lw_okq (⟨"MapMachineModel", "nextKey", "()I"⟩, 66) := ⟨⟨by decide +kernel, by decide +kernel⟩, List.mem_of_getElem? (i := 1040) (by decide +kernel), List.mem_of_getElem? (i := 1385) (by decide +kernel), List.mem_of_getElem? (i := 1386) (by decide +kernel)⟩
theorem lw_p86 : lw_okq (⟨"MapMachineModel", "above", "(IIZ)I"⟩, 66) := ⟨⟨by decide +kernel, by decide +kernel⟩, List.mem_of_getElem? (i := 1040) (by decide +kernel), List.mem_of_getElem? (i := 1389) (by decide +kernel), List.mem_of_getElem? (i := 1390) (by decide +kernel)⟩
theorem lw_p87 : lw_okq (⟨"MapMachineModel", "perform", "()V"⟩, 66) := ⟨⟨by decide +kernel, by decide +kernel⟩, List.mem_of_getElem? (i := 1040) (by decide +kernel), List.mem_of_getElem? (i := 1393) (by decide +kernel), List.mem_of_getElem? (i := 1394) (by decide +kernel)⟩
theorem lw_p88 : lw_okq (⟨"MapMachineModel", "reckon", "(I)V"⟩, 66) := ⟨⟨by decide +kernel, by decide +kernel⟩, List.mem_of_getElem? (i := 1040) (by decide +kernel), List.mem_of_getElem? (i := 1397) (by decide +kernel), List.mem_of_getElem? (i := 1398) (by decide +kernel)⟩
theorem lw_p89 : lw_okq (⟨"MapMachineModel", "end", "(I)V"⟩, 66) := ⟨⟨by decide +kernel, by decide +kernel⟩, List.mem_of_getElem? (i := 1040) (by decide +kernel), List.mem_of_getElem? (i := 1401) (by decide +kernel), List.mem_of_getElem? (i := 1402) (by decide +kernel)⟩
theorem lw_p90 : lw_okq (⟨"MapMachineModel", "push", "(I)V"⟩, 66) := ⟨⟨by decide +kernel, by decide +kernel⟩, List.mem_of_getElem? (i := 1040) (by decide +kernel), List.mem_of_getElem? (i := 1405) (by decide +kernel), List.mem_of_getElem? (i := 1406) (by decide +kernel)⟩
theorem lw_p91 : lw_okq (⟨"MapMachineModel", "variable", "(IZ)I"⟩, 66) := ⟨⟨by decide +kernel, by decide +kernel⟩, List.mem_of_getElem? (i := 1040) (by decide +kernel), List.mem_of_getElem? (i := 1409) (by decide +kernel), List.mem_of_getElem? (i := 1410) (by decide +kernel)⟩
theorem lw_p92 : lw_okq (⟨"MapMachineModel", "pop", "()I"⟩, 66) := ⟨⟨by decide +kernel, by decide +kernel⟩, List.mem_of_getElem? (i := 1040) (by decide +kernel), List.mem_of_getElem? (i := 1413) (by decide +kernel), List.mem_of_getElem? (i := 1414) (by decide +kernel)⟩
theorem lw_p93 : lw_okq (⟨"MapMachineModel", "setVariable", "(II)V"⟩, 66) := ⟨⟨by decide +kernel, by decide +kernel⟩, List.mem_of_getElem? (i := 1040) (by decide +kernel), List.mem_of_getElem? (i := 1417) (by decide +kernel), List.mem_of_getElem? (i := 1418) (by decide +kernel)⟩
theorem lw_p94 : lw_okq (⟨"MapMachineModel", "turn", "(I)V"⟩, 66) := ⟨⟨by decide +kernel, by decide +kernel⟩, List.mem_of_getElem? (i := 1040) (by decide +kernel), List.mem_of_getElem? (i := 1424) (by decide +kernel), List.mem_of_getElem? (i := 1425) (by decide +kernel)⟩
theorem lw_p95 : lw_okq (⟨"MapMachineModel", "call", "(I)V"⟩, 66) := ⟨⟨by decide +kernel, by decide +kernel⟩, List.mem_of_getElem? (i := 1040) (by decide +kernel), List.mem_of_getElem? (i := 1428) (by decide +kernel), List.mem_of_getElem? (i := 1429) (by decide +kernel)⟩
def lw_privs_6 : List (MethodName × Nat) := [(⟨"MapMachineModel", "readMap", "(I)V"⟩, 66), (⟨"MapMachineModel", "layBack", "(I)V"⟩, 66), (⟨"MapMachineModel", "go", "(I)V"⟩, 66), (⟨"MapMachineModel", "isStep", "()Z"⟩, 66), (⟨"MapMachineModel", "word", "(I)I"⟩, 66), (⟨"MapMachineModel", "nextKey", "()I"⟩, 66), (⟨"MapMachineModel", "above", "(IIZ)I"⟩, 66), (⟨"MapMachineModel", "perform", "()V"⟩, 66), (⟨"MapMachineModel", "reckon", "(I)V"⟩, 66), (⟨"MapMachineModel", "end", "(I)V"⟩, 66), (⟨"MapMachineModel", "push", "(I)V"⟩, 66), (⟨"MapMachineModel", "variable", "(IZ)I"⟩, 66), (⟨"MapMachineModel", "pop", "()I"⟩, 66), (⟨"MapMachineModel", "setVariable", "(II)V"⟩, 66), (⟨"MapMachineModel", "turn", "(I)V"⟩, 66), (⟨"MapMachineModel", "call", "(I)V"⟩, 66)]
theorem lw_r6 : ∀ q ∈ lw_privs_6, lw_okq q := List.forall_mem_cons.mpr ⟨lw_p80, List.forall_mem_cons.mpr ⟨lw_p81, List.forall_mem_cons.mpr ⟨lw_p82, List.forall_mem_cons.mpr ⟨lw_p83, List.forall_mem_cons.mpr ⟨lw_p84, List.forall_mem_cons.mpr ⟨lw_p85, List.forall_mem_cons.mpr ⟨lw_p86, List.forall_mem_cons.mpr ⟨lw_p87, List.forall_mem_cons.mpr ⟨lw_p88, List.forall_mem_cons.mpr ⟨lw_p89, List.forall_mem_cons.mpr ⟨lw_p90, List.forall_mem_cons.mpr ⟨lw_p91, List.forall_mem_cons.mpr ⟨lw_p92, List.forall_mem_cons.mpr ⟨lw_p93, List.forall_mem_cons.mpr ⟨lw_p94, List.forall_mem_cons.mpr ⟨lw_p95, fun _ h => absurd h List.not_mem_nil⟩⟩⟩⟩⟩⟩⟩⟩⟩⟩⟩⟩⟩⟩⟩⟩
theorem lw_p96 : lw_okq (⟨"MapMachineModel", "withMaps", "(I)V"⟩, 66) := ⟨⟨by decide +kernel, by decide +kernel⟩, List.mem_of_getElem? (i := 1040) (by decide +kernel), List.mem_of_getElem? (i := 1432) (by decide +kernel), List.mem_of_getElem? (i := 1433) (by decide +kernel)⟩
theorem lw_p97 : lw_okq (⟨"MapMachineModel", "mapOf", "(I)I"⟩, 66) := ⟨⟨by decide +kernel, by decide +kernel⟩, List.mem_of_getElem? (i := 1040) (by decide +kernel), List.mem_of_getElem? (i := 1436) (by decide +kernel), List.mem_of_getElem? (i := 1437) (by decide +kernel)⟩
theorem lw_p98 : lw_okq (⟨"MapMachineModel", "pushMap", "(I)V"⟩, 66) := ⟨⟨by decide +kernel, by decide +kernel⟩, List.mem_of_getElem? (i := 1040) (by decide +kernel), List.mem_of_getElem? (i := 1440) (by decide +kernel), List.mem_of_getElem? (i := 1441) (by decide +kernel)⟩
theorem lw_p99 : lw_okq (⟨"MapMachineModel", "make", "(I)V"⟩, 66) := ⟨⟨by decide +kernel, by decide +kernel⟩, List.mem_of_getElem? (i := 1040) (by decide +kernel), List.mem_of_getElem? (i := 1444) (by decide +kernel), List.mem_of_getElem? (i := 1445) (by decide +kernel)⟩
theorem lw_p100 : lw_okq (⟨"MapMachineModel", "beginMaking", "()V"⟩, 66) := ⟨⟨by decide +kernel, by decide +kernel⟩, List.mem_of_getElem? (i := 1040) (by decide +kernel), List.mem_of_getElem? (i := 1448) (by decide +kernel), List.mem_of_getElem? (i := 1449) (by decide +kernel)⟩
theorem lw_p101 : lw_okq (⟨"MapMachineModel", "findLive", "(Z)V"⟩, 66) := ⟨⟨by decide +kernel, by decide +kernel⟩, List.mem_of_getElem? (i := 1040) (by decide +kernel), List.mem_of_getElem? (i := 1452) (by decide +kernel), List.mem_of_getElem? (i := 1453) (by decide +kernel)⟩
theorem lw_p102 : lw_okq (⟨"MapMachineModel", "markTree", "(I)V"⟩, 66) := ⟨⟨by decide +kernel, by decide +kernel⟩, List.mem_of_getElem? (i := 1040) (by decide +kernel), List.mem_of_getElem? (i := 1456) (by decide +kernel), List.mem_of_getElem? (i := 1457) (by decide +kernel)⟩
theorem lw_p103 : lw_okq (⟨"MapMachineModel", "put", "(III)I"⟩, 66) := ⟨⟨by decide +kernel, by decide +kernel⟩, List.mem_of_getElem? (i := 1040) (by decide +kernel), List.mem_of_getElem? (i := 1460) (by decide +kernel), List.mem_of_getElem? (i := 1461) (by decide +kernel)⟩
theorem lw_p104 : lw_okq (⟨"MapMachineModel", "rankOf", "(I)I"⟩, 66) := ⟨⟨by decide +kernel, by decide +kernel⟩, List.mem_of_getElem? (i := 1040) (by decide +kernel), List.mem_of_getElem? (i := 1470) (by decide +kernel), List.mem_of_getElem? (i := 1471) (by decide +kernel)⟩
theorem lw_p105 : lw_okq (⟨"MapMachineModel", "cell", "(IIII)I"⟩, 66) := ⟨⟨by decide +kernel, by decide +kernel⟩, List.mem_of_getElem? (i := 1040) (by decide +kernel), List.mem_of_getElem? (i := 1474) (by decide +kernel), List.mem_of_getElem? (i := 1475) (by decide +kernel)⟩
theorem lw_p106 : lw_okq (⟨"MapMachineModel", "split", "(II)V"⟩, 66) := ⟨⟨by decide +kernel, by decide +kernel⟩, List.mem_of_getElem? (i := 1040) (by decide +kernel), List.mem_of_getElem? (i := 1478) (by decide +kernel), List.mem_of_getElem? (i := 1479) (by decide +kernel)⟩
theorem lw_p107 : lw_okq (⟨"MapMachineModel", "climb", "(II)I"⟩, 66) := ⟨⟨by decide +kernel, by decide +kernel⟩, List.mem_of_getElem? (i := 1040) (by decide +kernel), List.mem_of_getElem? (i := 1482) (by decide +kernel), List.mem_of_getElem? (i := 1483) (by decide +kernel)⟩
theorem lw_p108 : lw_okq (⟨"MapMachineModel", "without", "(II)I"⟩, 66) := ⟨⟨by decide +kernel, by decide +kernel⟩, List.mem_of_getElem? (i := 1040) (by decide +kernel), List.mem_of_getElem? (i := 1486) (by decide +kernel), List.mem_of_getElem? (i := 1487) (by decide +kernel)⟩
theorem lw_p109 : lw_okq (⟨"MapMachineModel", "find", "(II)I"⟩, 66) := ⟨⟨by decide +kernel, by decide +kernel⟩, List.mem_of_getElem? (i := 1040) (by decide +kernel), List.mem_of_getElem? (i := 1490) (by decide +kernel), List.mem_of_getElem? (i := 1491) (by decide +kernel)⟩
theorem lw_p110 : lw_okq (⟨"MapMachineModel", "union", "(II)I"⟩, 66) := ⟨⟨by decide +kernel, by decide +kernel⟩, List.mem_of_getElem? (i := 1040) (by decide +kernel), List.mem_of_getElem? (i := 1494) (by decide +kernel), List.mem_of_getElem? (i := 1495) (by decide +kernel)⟩
theorem lw_p111 : lw_okq (⟨"MapMachineModel", "isMade", "()Z"⟩, 66) := ⟨⟨by decide +kernel, by decide +kernel⟩, List.mem_of_getElem? (i := 1040) (by decide +kernel), List.mem_of_getElem? (i := 1498) (by decide +kernel), List.mem_of_getElem? (i := 1499) (by decide +kernel)⟩
def lw_privs_7 : List (MethodName × Nat) := [(⟨"MapMachineModel", "withMaps", "(I)V"⟩, 66), (⟨"MapMachineModel", "mapOf", "(I)I"⟩, 66), (⟨"MapMachineModel", "pushMap", "(I)V"⟩, 66), (⟨"MapMachineModel", "make", "(I)V"⟩, 66), (⟨"MapMachineModel", "beginMaking", "()V"⟩, 66), (⟨"MapMachineModel", "findLive", "(Z)V"⟩, 66), (⟨"MapMachineModel", "markTree", "(I)V"⟩, 66), (⟨"MapMachineModel", "put", "(III)I"⟩, 66), (⟨"MapMachineModel", "rankOf", "(I)I"⟩, 66), (⟨"MapMachineModel", "cell", "(IIII)I"⟩, 66), (⟨"MapMachineModel", "split", "(II)V"⟩, 66), (⟨"MapMachineModel", "climb", "(II)I"⟩, 66), (⟨"MapMachineModel", "without", "(II)I"⟩, 66), (⟨"MapMachineModel", "find", "(II)I"⟩, 66), (⟨"MapMachineModel", "union", "(II)I"⟩, 66), (⟨"MapMachineModel", "isMade", "()Z"⟩, 66)]
theorem lw_r7 : ∀ q ∈ lw_privs_7, lw_okq q := List.forall_mem_cons.mpr ⟨lw_p96, List.forall_mem_cons.mpr ⟨lw_p97, List.forall_mem_cons.mpr ⟨lw_p98, List.forall_mem_cons.mpr ⟨lw_p99, List.forall_mem_cons.mpr ⟨lw_p100, List.forall_mem_cons.mpr ⟨lw_p101, List.forall_mem_cons.mpr ⟨lw_p102, List.forall_mem_cons.mpr ⟨lw_p103, List.forall_mem_cons.mpr ⟨lw_p104, List.forall_mem_cons.mpr ⟨lw_p105, List.forall_mem_cons.mpr ⟨lw_p106, List.forall_mem_cons.mpr ⟨lw_p107, List.forall_mem_cons.mpr ⟨lw_p108, List.forall_mem_cons.mpr ⟨lw_p109, List.forall_mem_cons.mpr ⟨lw_p110, List.forall_mem_cons.mpr ⟨lw_p111, fun _ h => absurd h List.not_mem_nil⟩⟩⟩⟩⟩⟩⟩⟩⟩⟩⟩⟩⟩⟩⟩⟩
theorem lw_p112 : lw_okq (⟨"MapMachineModel", "goOver", "()V"⟩, 66) := ⟨⟨by decide +kernel, by decide +kernel⟩, List.mem_of_getElem? (i := 1040) (by decide +kernel), List.mem_of_getElem? (i := 1502) (by decide +kernel), List.mem_of_getElem? (i := 1503) (by decide +kernel)⟩
theorem lw_p113 : lw_okq (⟨"MapMachineModel", "look", "(I)V"⟩, 66) := ⟨⟨by decide +kernel, by decide +kernel⟩, List.mem_of_getElem? (i := 1040) (by decide +kernel), List.mem_of_getElem? (i := 1506) (by decide +kernel), List.mem_of_getElem? (i := 1507) (by decide +kernel)⟩
theorem lw_p114 : lw_okq (⟨"MapMachineModel", "sizeOf", "(I)I"⟩, 66) := ⟨⟨by decide +kernel, by decide +kernel⟩, List.mem_of_getElem? (i := 1040) (by decide +kernel), List.mem_of_getElem? (i := 1510) (by decide +kernel), List.mem_of_getElem? (i := 1511) (by decide +kernel)⟩
theorem lw_p115 : lw_okq (⟨"MapMachineModel", "floor", "(II)I"⟩, 66) := ⟨⟨by decide +kernel, by decide +kernel⟩, List.mem_of_getElem? (i := 1040) (by decide +kernel), List.mem_of_getElem? (i := 1514) (by decide +kernel), List.mem_of_getElem? (i := 1515) (by decide +kernel)⟩
def lw_privs_8 : List (MethodName × Nat) := [(⟨"MapMachineModel", "goOver", "()V"⟩, 66), (⟨"MapMachineModel", "look", "(I)V"⟩, 66), (⟨"MapMachineModel", "sizeOf", "(I)I"⟩, 66), (⟨"MapMachineModel", "floor", "(II)I"⟩, 66)]
theorem lw_r8 : ∀ q ∈ lw_privs_8, lw_okq q := List.forall_mem_cons.mpr ⟨lw_p112, List.forall_mem_cons.mpr ⟨lw_p113, List.forall_mem_cons.mpr ⟨lw_p114, List.forall_mem_cons.mpr ⟨lw_p115, fun _ h => absurd h List.not_mem_nil⟩⟩⟩⟩
def lw_privs : List (MethodName × Nat) := lw_privs_1 ++ (lw_privs_2 ++ (lw_privs_3 ++ (lw_privs_4 ++ (lw_privs_5 ++ (lw_privs_6 ++ (lw_privs_7 ++ (lw_privs_8)))))))
def lw_tbl : List Cond := k2_sels lw_privs ++ tables_1
theorem lw_privs_ok : ∀ q ∈ lw_privs, lw_okq q := by
  show ∀ q ∈ lw_privs_1 ++ (lw_privs_2 ++ (lw_privs_3 ++ (lw_privs_4 ++ (lw_privs_5 ++ (lw_privs_6 ++ (lw_privs_7 ++ (lw_privs_8))))))), lw_okq q
  exact List.forall_mem_append.mpr ⟨lw_r1, List.forall_mem_append.mpr ⟨lw_r2, List.forall_mem_append.mpr ⟨lw_r3, List.forall_mem_append.mpr ⟨lw_r4, List.forall_mem_append.mpr ⟨lw_r5, List.forall_mem_append.mpr ⟨lw_r6, List.forall_mem_append.mpr ⟨lw_r7, lw_r8⟩⟩⟩⟩⟩⟩⟩
end
section
def RX0 : String := "MapMachine$Cells"
def TX0 : u_T := fun k => match k with
  | 0 => ("MapMachine$Cells", "keys", "[I", true)
  | 1 => ("MapMachine$Cells", "values", "[I", true)
  | 2 => ("MapMachine$Cells", "ranks", "[I", true)
  | 3 => ("MapMachine$Cells", "lessers", "[I", true)
  | 4 => ("MapMachine$Cells", "greaters", "[I", true)
  | 5 => ("MapMachine$Cells", "free", "[I", true)
  | 6 => ("MapMachine$Cells", "rounds", "[I", true)
  | 7 => ("MapMachine$Cells", "waiting", "[I", true)
  | 8 => ("MapMachine$Cells", "freeCount", "I", false)
  | 9 => ("MapMachine$Cells", "freeBefore", "I", false)
  | 10 => ("MapMachine$Cells", "round", "I", false)
  | 11 => ("MapMachine$Cells", "reached", "I", false)
  | 12 => ("MapMachine$Cells", "seed", "I", false)
  | 13 => ("MapMachine$Cells", "room", "I", false)
  | 14 => ("MapMachine$Cells", "made", "I", false)
  | _ => ("MapMachine$Cells", "over", "Z", false)
def tyX0 : Nat → FieldType := fun k => match k with
  | 0 => .array .int
  | 1 => .array .int
  | 2 => .array .int
  | 3 => .array .int
  | 4 => .array .int
  | 5 => .array .int
  | 6 => .array .int
  | 7 => .array .int
  | 8 => .int
  | 9 => .int
  | 10 => .int
  | 11 => .int
  | 12 => .int
  | 13 => .int
  | 14 => .int
  | _ => .boolean
abbrev wsX00 : List Cond := u_ws RX0 TX0 16
theorem nmX0 : ∀ a, a < 16 → ∀ b, b < 16 → a ≠ b → (TX0 a).2.1 ≠ (TX0 b).2.1 := by decide +kernel
theorem tyX0_ok : ∀ k, k < 16 → parseFieldDescriptor (TX0 k).2.2.1 = some (tyX0 k) := by decide +kernel
abbrev cX0_init : ByteArray := prog_2_method_1_code
def yX0_init : MethodName := ⟨RX0, "<init>", "()V"⟩
abbrev cX0_furnish : ByteArray := prog_2_method_2_code
def yX0_furnish : MethodName := ⟨RX0, "furnish", "(II)V"⟩
abbrev cX0_giveBackAll : ByteArray := prog_2_method_3_code
def yX0_giveBackAll : MethodName := ⟨RX0, "giveBackAll", "()V"⟩
abbrev cX0_key : ByteArray := prog_2_method_4_code
def yX0_key : MethodName := ⟨RX0, "key", "(I)I"⟩
abbrev cX0_value : ByteArray := prog_2_method_5_code
def yX0_value : MethodName := ⟨RX0, "value", "(I)I"⟩
abbrev cX0_rank : ByteArray := prog_2_method_6_code
def yX0_rank : MethodName := ⟨RX0, "rank", "(I)I"⟩
abbrev cX0_lesser : ByteArray := prog_2_method_7_code
def yX0_lesser : MethodName := ⟨RX0, "lesser", "(I)I"⟩
abbrev cX0_greater : ByteArray := prog_2_method_8_code
def yX0_greater : MethodName := ⟨RX0, "greater", "(I)I"⟩
abbrev cX0_rankOf : ByteArray := prog_2_method_9_code
def yX0_rankOf : MethodName := ⟨RX0, "rankOf", "(I)I"⟩
abbrev cX0_beginMaking : ByteArray := prog_2_method_10_code
def yX0_beginMaking : MethodName := ⟨RX0, "beginMaking", "()V"⟩
abbrev cX0_copy : ByteArray := prog_2_method_11_code
def yX0_copy : MethodName := ⟨RX0, "copy", "(I)I"⟩
abbrev cX0_make : ByteArray := prog_2_method_12_code
def yX0_make : MethodName := ⟨RX0, "make", "(IIII)I"⟩
abbrev cX0_hang : ByteArray := prog_2_method_13_code
def yX0_hang : MethodName := ⟨RX0, "hang", "(II)V"⟩
abbrev cX0_over : ByteArray := prog_2_method_14_code
def yX0_over : MethodName := ⟨RX0, "over", "()Z"⟩
abbrev cX0_made : ByteArray := prog_2_method_15_code
def yX0_made : MethodName := ⟨RX0, "made", "()I"⟩
abbrev cX0_surelyFits : ByteArray := prog_2_method_16_code
def yX0_surelyFits : MethodName := ⟨RX0, "surelyFits", "()Z"⟩
abbrev cX0_fits : ByteArray := prog_2_method_17_code
def yX0_fits : MethodName := ⟨RX0, "fits", "()Z"⟩
abbrev cX0_undo : ByteArray := prog_2_method_18_code
def yX0_undo : MethodName := ⟨RX0, "undo", "()V"⟩
abbrev cX0_beginReaching : ByteArray := prog_2_method_19_code
def yX0_beginReaching : MethodName := ⟨RX0, "beginReaching", "()V"⟩
abbrev cX0_reached : ByteArray := prog_2_method_20_code
def yX0_reached : MethodName := ⟨RX0, "reached", "()I"⟩
abbrev cX0_reach : ByteArray := prog_2_method_21_code
def yX0_reach : MethodName := ⟨RX0, "reach", "(I)V"⟩
abbrev cX0_giveBackUnreached : ByteArray := prog_2_method_22_code
def yX0_giveBackUnreached : MethodName := ⟨RX0, "giveBackUnreached", "()V"⟩
abbrev cX0_size : ByteArray := prog_2_method_23_code
def yX0_size : MethodName := ⟨RX0, "size", "(I)I"⟩
abbrev cX0_find : ByteArray := prog_2_method_24_code
def yX0_find : MethodName := ⟨RX0, "find", "(II)I"⟩
abbrev cX0_least : ByteArray := prog_2_method_25_code
def yX0_least : MethodName := ⟨RX0, "least", "(IJ)I"⟩
abbrev cX0_floor : ByteArray := prog_2_method_26_code
def yX0_floor : MethodName := ⟨RX0, "floor", "(II)I"⟩
abbrev cX0_nth : ByteArray := prog_2_method_27_code
def yX0_nth : MethodName := ⟨RX0, "nth", "(II)I"⟩
def RX1 : String := "MapMachine$Compiler"
def TX1 : u_T := fun k => match k with
  | 0 => ("MapMachine$Compiler", "program", "LMapMachine$Program;", true)
  | 1 => ("MapMachine$Compiler", "next", "I", false)
  | 2 => ("MapMachine$Compiler", "fault", "I", false)
  | _ => ("MapMachine$Compiler", "inMain", "Z", false)
def tyX1 : Nat → FieldType := fun k => match k with
  | 0 => .object "MapMachine$Program"
  | 1 => .int
  | 2 => .int
  | _ => .boolean
abbrev wsX10 : List Cond := u_ws RX1 TX1 4
theorem nmX1 : ∀ a, a < 4 → ∀ b, b < 4 → a ≠ b → (TX1 a).2.1 ≠ (TX1 b).2.1 := by decide +kernel
theorem tyX1_ok : ∀ k, k < 4 → parseFieldDescriptor (TX1 k).2.2.1 = some (tyX1 k) := by decide +kernel
abbrev cX1_init : ByteArray := prog_3_method_1_code
def yX1_init : MethodName := ⟨RX1, "<init>", "(LMapMachine$Program;)V"⟩
abbrev cX1_translate : ByteArray := prog_3_method_2_code
def yX1_translate : MethodName := ⟨RX1, "translate", "()I"⟩
abbrev cX1_fail : ByteArray := prog_3_method_3_code
def yX1_fail : MethodName := ⟨RX1, "fail", "(I)Z"⟩
abbrev cX1_functions : ByteArray := prog_3_method_4_code
def yX1_functions : MethodName := ⟨RX1, "functions", "()Z"⟩
abbrev cX1_mainPart : ByteArray := prog_3_method_5_code
def yX1_mainPart : MethodName := ⟨RX1, "mainPart", "()Z"⟩
abbrev cX1_passEnd : ByteArray := prog_3_method_6_code
def yX1_passEnd : MethodName := ⟨RX1, "passEnd", "()Z"⟩
abbrev cX1_bare : ByteArray := prog_3_method_7_code
def yX1_bare : MethodName := ⟨RX1, "bare", "(I)Z"⟩
abbrev cX1_anyNumber : ByteArray := prog_3_method_8_code
def yX1_anyNumber : MethodName := ⟨RX1, "anyNumber", "()Z"⟩
abbrev cX1_newFunction : ByteArray := prog_3_method_9_code
def yX1_newFunction : MethodName := ⟨RX1, "newFunction", "()Z"⟩
abbrev cX1_knownFunction : ByteArray := prog_3_method_10_code
def yX1_knownFunction : MethodName := ⟨RX1, "knownFunction", "()Z"⟩
abbrev cX1_block : ByteArray := prog_3_method_11_code
def yX1_block : MethodName := ⟨RX1, "block", "(I)Z"⟩
abbrev cX1_statement : ByteArray := prog_3_method_12_code
def yX1_statement : MethodName := ⟨RX1, "statement", "(I)Z"⟩
abbrev cX1_finishStatement : ByteArray := prog_3_method_13_code
def yX1_finishStatement : MethodName := ⟨RX1, "finishStatement", "(I)V"⟩
abbrev cX1_choice : ByteArray := prog_3_method_14_code
def yX1_choice : MethodName := ⟨RX1, "choice", "(I)Z"⟩
abbrev cX1_repetition : ByteArray := prog_3_method_15_code
def yX1_repetition : MethodName := ⟨RX1, "repetition", "(I)Z"⟩
abbrev cX1_eachKey : ByteArray := prog_3_method_16_code
def yX1_eachKey : MethodName := ⟨RX1, "eachKey", "(I)Z"⟩
abbrev cX1_loopRest : ByteArray := prog_3_method_17_code
def yX1_loopRest : MethodName := ⟨RX1, "loopRest", "(III)Z"⟩
abbrev cX1_numberPart : ByteArray := prog_3_method_18_code
def yX1_numberPart : MethodName := ⟨RX1, "numberPart", "(I)Z"⟩
abbrev cX1_mapPart : ByteArray := prog_3_method_19_code
def yX1_mapPart : MethodName := ⟨RX1, "mapPart", "(I)Z"⟩
abbrev cX1_shortcut : ByteArray := prog_3_method_20_code
def yX1_shortcut : MethodName := ⟨RX1, "shortcut", "(I)Z"⟩
abbrev cX1_plain : ByteArray := prog_3_method_21_code
def yX1_plain : MethodName := ⟨RX1, "plain", "(I)Z"⟩
abbrev cX1_argument : ByteArray := prog_3_method_22_code
def yX1_argument : MethodName := ⟨RX1, "argument", "(I)Z"⟩
abbrev cX1_parts : ByteArray := prog_3_method_23_code
def yX1_parts : MethodName := ⟨RX1, "parts", "(II)Z"⟩
def RX2 : String := "MapMachine$Program"
def TX2 : u_T := fun k => match k with
  | 0 => ("MapMachine$Program", "tokens", "[I", true)
  | 1 => ("MapMachine$Program", "behind", "[I", true)
  | 2 => ("MapMachine$Program", "turn", "[I", true)
  | 3 => ("MapMachine$Program", "words", "[I", true)
  | 4 => ("MapMachine$Program", "parameters", "[I", true)
  | 5 => ("MapMachine$Program", "firstWord", "[I", true)
  | 6 => ("MapMachine$Program", "firstToken", "[I", true)
  | 7 => ("MapMachine$Program", "mainWord", "I", false)
  | 8 => ("MapMachine$Program", "mainToken", "I", false)
  | 9 => ("MapMachine$Program", "tokenCount", "I", false)
  | 10 => ("MapMachine$Program", "emitted", "I", false)
  | 11 => ("MapMachine$Program", "compiled", "Z", false)
  | _ => ("MapMachine$Program", "fault", "I", false)
def tyX2 : Nat → FieldType := fun k => match k with
  | 0 => .array .int
  | 1 => .array .int
  | 2 => .array .int
  | 3 => .array .int
  | 4 => .array .int
  | 5 => .array .int
  | 6 => .array .int
  | 7 => .int
  | 8 => .int
  | 9 => .int
  | 10 => .int
  | 11 => .boolean
  | _ => .int
abbrev wsX20 : List Cond := u_ws RX2 TX2 13
theorem nmX2 : ∀ a, a < 13 → ∀ b, b < 13 → a ≠ b → (TX2 a).2.1 ≠ (TX2 b).2.1 := by decide +kernel
theorem tyX2_ok : ∀ k, k < 13 → parseFieldDescriptor (TX2 k).2.2.1 = some (tyX2 k) := by decide +kernel
abbrev cX2_init : ByteArray := prog_4_method_1_code
def yX2_init : MethodName := ⟨RX2, "<init>", "()V"⟩
abbrev cX2_clear : ByteArray := prog_4_method_2_code
def yX2_clear : MethodName := ⟨RX2, "clear", "()V"⟩
abbrev cX2_add : ByteArray := prog_4_method_3_code
def yX2_add : MethodName := ⟨RX2, "add", "(I)Z"⟩
abbrev cX2_forgetCode : ByteArray := prog_4_method_4_code
def yX2_forgetCode : MethodName := ⟨RX2, "forgetCode", "()V"⟩
abbrev cX2_accept : ByteArray := prog_4_method_5_code
def yX2_accept : MethodName := ⟨RX2, "accept", "()V"⟩
abbrev cX2_refuse : ByteArray := prog_4_method_6_code
def yX2_refuse : MethodName := ⟨RX2, "refuse", "(I)V"⟩
abbrev cX2_size : ByteArray := prog_4_method_7_code
def yX2_size : MethodName := ⟨RX2, "size", "()I"⟩
abbrev cX2_ready : ByteArray := prog_4_method_8_code
def yX2_ready : MethodName := ⟨RX2, "ready", "()Z"⟩
abbrev cX2_faultPlace : ByteArray := prog_4_method_9_code
def yX2_faultPlace : MethodName := ⟨RX2, "faultPlace", "()I"⟩
abbrev cX2_hasToken : ByteArray := prog_4_method_10_code
def yX2_hasToken : MethodName := ⟨RX2, "hasToken", "(I)Z"⟩
abbrev cX2_token : ByteArray := prog_4_method_11_code
def yX2_token : MethodName := ⟨RX2, "token", "(I)I"⟩
abbrev cX2_behind : ByteArray := prog_4_method_12_code
def yX2_behind : MethodName := ⟨RX2, "behind", "(I)I"⟩
abbrev cX2_setBehind : ByteArray := prog_4_method_13_code
def yX2_setBehind : MethodName := ⟨RX2, "setBehind", "(II)V"⟩
abbrev cX2_turn : ByteArray := prog_4_method_14_code
def yX2_turn : MethodName := ⟨RX2, "turn", "(I)I"⟩
abbrev cX2_setTurn : ByteArray := prog_4_method_15_code
def yX2_setTurn : MethodName := ⟨RX2, "setTurn", "(II)V"⟩
abbrev cX2_hasFunction : ByteArray := prog_4_method_16_code
def yX2_hasFunction : MethodName := ⟨RX2, "hasFunction", "(I)Z"⟩
abbrev cX2_addFunction : ByteArray := prog_4_method_17_code
def yX2_addFunction : MethodName := ⟨RX2, "addFunction", "(III)V"⟩
abbrev cX2_addMain : ByteArray := prog_4_method_18_code
def yX2_addMain : MethodName := ⟨RX2, "addMain", "(I)V"⟩
abbrev cX2_parameters : ByteArray := prog_4_method_19_code
def yX2_parameters : MethodName := ⟨RX2, "parameters", "(I)I"⟩
abbrev cX2_firstWord : ByteArray := prog_4_method_20_code
def yX2_firstWord : MethodName := ⟨RX2, "firstWord", "(I)I"⟩
abbrev cX2_firstToken : ByteArray := prog_4_method_21_code
def yX2_firstToken : MethodName := ⟨RX2, "firstToken", "(I)I"⟩
abbrev cX2_mainWord : ByteArray := prog_4_method_22_code
def yX2_mainWord : MethodName := ⟨RX2, "mainWord", "()I"⟩
abbrev cX2_mainToken : ByteArray := prog_4_method_23_code
def yX2_mainToken : MethodName := ⟨RX2, "mainToken", "()I"⟩
abbrev cX2_numbers : ByteArray := prog_4_method_24_code
def yX2_numbers : MethodName := ⟨RX2, "numbers", "(I)I"⟩
abbrev cX2_emit : ByteArray := prog_4_method_25_code
def yX2_emit : MethodName := ⟨RX2, "emit", "(I)V"⟩
abbrev cX2_emitHole : ByteArray := prog_4_method_26_code
def yX2_emitHole : MethodName := ⟨RX2, "emitHole", "()I"⟩
abbrev cX2_fillHole : ByteArray := prog_4_method_27_code
def yX2_fillHole : MethodName := ⟨RX2, "fillHole", "(I)V"⟩
abbrev cX2_emitted : ByteArray := prog_4_method_28_code
def yX2_emitted : MethodName := ⟨RX2, "emitted", "()I"⟩
abbrev cX2_wordCount : ByteArray := prog_4_method_29_code
def yX2_wordCount : MethodName := ⟨RX2, "wordCount", "()I"⟩
abbrev cX2_word : ByteArray := prog_4_method_30_code
def yX2_word : MethodName := ⟨RX2, "word", "(I)I"⟩
def RX3 : String := "MapMachine$Rows"
def TX3 : u_T := fun k => match k with
  | _ => ("", "", "", false)
def tyX3 : Nat → FieldType := fun k => match k with
  | _ => .int
abbrev wsX30 : List Cond := u_ws RX3 TX3 0
theorem nmX3 : ∀ a, a < 0 → ∀ b, b < 0 → a ≠ b → (TX3 a).2.1 ≠ (TX3 b).2.1 := by decide +kernel
theorem tyX3_ok : ∀ k, k < 0 → parseFieldDescriptor (TX3 k).2.2.1 = some (tyX3 k) := by decide +kernel
abbrev cX3_at : ByteArray := prog_5_method_2_code
def yX3_at : MethodName := ⟨RX3, "at", "([II)I"⟩
abbrev cX3_at_ : ByteArray := prog_5_method_3_code
def yX3_at_ : MethodName := ⟨RX3, "at", "([JI)J"⟩
abbrev cX3_set : ByteArray := prog_5_method_4_code
def yX3_set : MethodName := ⟨RX3, "set", "([III)V"⟩
abbrev cX3_set_ : ByteArray := prog_5_method_5_code
def yX3_set_ : MethodName := ⟨RX3, "set", "([JIJ)V"⟩
abbrev cX3_zero : ByteArray := prog_5_method_6_code
def yX3_zero : MethodName := ⟨RX3, "zero", "([I)V"⟩
def RX4 : String := "MapMachine$Runner"
def TX4 : u_T := fun k => match k with
  | 0 => ("MapMachine$Runner", "program", "LMapMachine$Program;", true)
  | 1 => ("MapMachine$Runner", "store", "LMapMachine$Store;", true)
  | 2 => ("MapMachine$Runner", "begun", "Z", false)
  | 3 => ("MapMachine$Runner", "next", "I", false)
  | _ => ("MapMachine$Runner", "end", "I", false)
def tyX4 : Nat → FieldType := fun k => match k with
  | 0 => .object "MapMachine$Program"
  | 1 => .object "MapMachine$Store"
  | 2 => .boolean
  | 3 => .int
  | _ => .int
abbrev wsX40 : List Cond := u_ws RX4 TX4 5
theorem nmX4 : ∀ a, a < 5 → ∀ b, b < 5 → a ≠ b → (TX4 a).2.1 ≠ (TX4 b).2.1 := by decide +kernel
theorem tyX4_ok : ∀ k, k < 5 → parseFieldDescriptor (TX4 k).2.2.1 = some (tyX4 k) := by decide +kernel
abbrev cX4_init : ByteArray := prog_6_method_1_code
def yX4_init : MethodName := ⟨RX4, "<init>", "(LMapMachine$Program;LMapMachine$Store;)V"⟩
abbrev cX4_begin : ByteArray := prog_6_method_2_code
def yX4_begin : MethodName := ⟨RX4, "begin", "()V"⟩
abbrev cX4_drop : ByteArray := prog_6_method_3_code
def yX4_drop : MethodName := ⟨RX4, "drop", "()V"⟩
abbrev cX4_there : ByteArray := prog_6_method_4_code
def yX4_there : MethodName := ⟨RX4, "there", "()Z"⟩
abbrev cX4_nextWord : ByteArray := prog_6_method_5_code
def yX4_nextWord : MethodName := ⟨RX4, "nextWord", "()I"⟩
abbrev cX4_end : ByteArray := prog_6_method_6_code
def yX4_end : MethodName := ⟨RX4, "end", "()I"⟩
abbrev cX4_goOn : ByteArray := prog_6_method_7_code
def yX4_goOn : MethodName := ⟨RX4, "goOn", "(I)I"⟩
abbrev cX4_step : ByteArray := prog_6_method_8_code
def yX4_step : MethodName := ⟨RX4, "step", "()V"⟩
abbrev cX4_goIf : ByteArray := prog_6_method_9_code
def yX4_goIf : MethodName := ⟨RX4, "goIf", "(ZI)V"⟩
abbrev cX4_call : ByteArray := prog_6_method_10_code
def yX4_call : MethodName := ⟨RX4, "call", "(I)V"⟩
abbrev cX4_nextKey : ByteArray := prog_6_method_11_code
def yX4_nextKey : MethodName := ⟨RX4, "nextKey", "(I)V"⟩
def RX5 : String := "MapMachine$Store"
def TX5 : u_T := fun k => match k with
  | 0 => ("MapMachine$Store", "cells", "LMapMachine$Cells;", true)
  | 1 => ("MapMachine$Store", "trees", "LMapMachine$Trees;", true)
  | 2 => ("MapMachine$Store", "variables", "[I", true)
  | 3 => ("MapMachine$Store", "maps", "[I", true)
  | 4 => ("MapMachine$Store", "numberStack", "[I", true)
  | 5 => ("MapMachine$Store", "mapStack", "[I", true)
  | 6 => ("MapMachine$Store", "nextKeys", "[J", true)
  | 7 => ("MapMachine$Store", "numberBases", "[I", true)
  | 8 => ("MapMachine$Store", "mapBases", "[I", true)
  | 9 => ("MapMachine$Store", "backs", "[I", true)
  | 10 => ("MapMachine$Store", "told", "[I", true)
  | 11 => ("MapMachine$Store", "numberTop", "I", false)
  | 12 => ("MapMachine$Store", "mapTop", "I", false)
  | 13 => ("MapMachine$Store", "calls", "I", false)
  | 14 => ("MapMachine$Store", "toldCount", "I", false)
  | 15 => ("MapMachine$Store", "steps", "I", false)
  | _ => ("MapMachine$Store", "mostMade", "I", false)
def tyX5 : Nat → FieldType := fun k => match k with
  | 0 => .object "MapMachine$Cells"
  | 1 => .object "MapMachine$Trees"
  | 2 => .array .int
  | 3 => .array .int
  | 4 => .array .int
  | 5 => .array .int
  | 6 => .array .long
  | 7 => .array .int
  | 8 => .array .int
  | 9 => .array .int
  | 10 => .array .int
  | 11 => .int
  | 12 => .int
  | 13 => .int
  | 14 => .int
  | 15 => .int
  | _ => .int
abbrev wsX50 : List Cond := u_ws RX5 TX5 17
theorem nmX5 : ∀ a, a < 17 → ∀ b, b < 17 → a ≠ b → (TX5 a).2.1 ≠ (TX5 b).2.1 := by decide +kernel
theorem tyX5_ok : ∀ k, k < 17 → parseFieldDescriptor (TX5 k).2.2.1 = some (tyX5 k) := by decide +kernel
abbrev cX5_init : ByteArray := prog_7_method_1_code
def yX5_init : MethodName := ⟨RX5, "<init>", "(LMapMachine$Cells;)V"⟩
abbrev cX5_clear : ByteArray := prog_7_method_2_code
def yX5_clear : MethodName := ⟨RX5, "clear", "()V"⟩
abbrev cX5_begin : ByteArray := prog_7_method_3_code
def yX5_begin : MethodName := ⟨RX5, "begin", "(I)V"⟩
abbrev cX5_forgetCalls : ByteArray := prog_7_method_4_code
def yX5_forgetCalls : MethodName := ⟨RX5, "forgetCalls", "()V"⟩
abbrev cX5_steps : ByteArray := prog_7_method_5_code
def yX5_steps : MethodName := ⟨RX5, "steps", "()I"⟩
abbrev cX5_addStep : ByteArray := prog_7_method_6_code
def yX5_addStep : MethodName := ⟨RX5, "addStep", "()V"⟩
abbrev cX5_calls : ByteArray := prog_7_method_7_code
def yX5_calls : MethodName := ⟨RX5, "calls", "()I"⟩
abbrev cX5_mostMade : ByteArray := prog_7_method_8_code
def yX5_mostMade : MethodName := ⟨RX5, "mostMade", "()I"⟩
abbrev cX5_toldCount : ByteArray := prog_7_method_9_code
def yX5_toldCount : MethodName := ⟨RX5, "toldCount", "()I"⟩
abbrev cX5_told : ByteArray := prog_7_method_10_code
def yX5_told : MethodName := ⟨RX5, "told", "(I)I"⟩
abbrev cX5_variablePlace : ByteArray := prog_7_method_11_code
def yX5_variablePlace : MethodName := ⟨RX5, "variablePlace", "(I)I"⟩
abbrev cX5_mapPlace : ByteArray := prog_7_method_12_code
def yX5_mapPlace : MethodName := ⟨RX5, "mapPlace", "(I)I"⟩
abbrev cX5_number : ByteArray := prog_7_method_13_code
def yX5_number : MethodName := ⟨RX5, "number", "(I)I"⟩
abbrev cX5_setNumber : ByteArray := prog_7_method_14_code
def yX5_setNumber : MethodName := ⟨RX5, "setNumber", "(II)V"⟩
abbrev cX5_tree : ByteArray := prog_7_method_15_code
def yX5_tree : MethodName := ⟨RX5, "tree", "(I)I"⟩
abbrev cX5_push : ByteArray := prog_7_method_16_code
def yX5_push : MethodName := ⟨RX5, "push", "(I)V"⟩
abbrev cX5_pop : ByteArray := prog_7_method_17_code
def yX5_pop : MethodName := ⟨RX5, "pop", "()I"⟩
abbrev cX5_pushMap : ByteArray := prog_7_method_18_code
def yX5_pushMap : MethodName := ⟨RX5, "pushMap", "(I)V"⟩
abbrev cX5_popMap : ByteArray := prog_7_method_19_code
def yX5_popMap : MethodName := ⟨RX5, "popMap", "()I"⟩
abbrev cX5_comingCell : ByteArray := prog_7_method_20_code
def yX5_comingCell : MethodName := ⟨RX5, "comingCell", "()I"⟩
abbrev cX5_comeTo : ByteArray := prog_7_method_21_code
def yX5_comeTo : MethodName := ⟨RX5, "comeTo", "(III)V"⟩
abbrev cX5_enter : ByteArray := prog_7_method_22_code
def yX5_enter : MethodName := ⟨RX5, "enter", "(II)Z"⟩
abbrev cX5_leave : ByteArray := prog_7_method_23_code
def yX5_leave : MethodName := ⟨RX5, "leave", "(I)I"⟩
abbrev cX5_apply : ByteArray := prog_7_method_24_code
def yX5_apply : MethodName := ⟨RX5, "apply", "(II)I"⟩
abbrev cX5_tell : ByteArray := prog_7_method_25_code
def yX5_tell : MethodName := ⟨RX5, "tell", "(I)I"⟩
abbrev cX5_applyToNumbers : ByteArray := prog_7_method_26_code
def yX5_applyToNumbers : MethodName := ⟨RX5, "applyToNumbers", "(I)I"⟩
abbrev cX5_askMap : ByteArray := prog_7_method_27_code
def yX5_askMap : MethodName := ⟨RX5, "askMap", "(I)V"⟩
abbrev cX5_pushFloor : ByteArray := prog_7_method_28_code
def yX5_pushFloor : MethodName := ⟨RX5, "pushFloor", "()V"⟩
abbrev cX5_changeMap : ByteArray := prog_7_method_29_code
def yX5_changeMap : MethodName := ⟨RX5, "changeMap", "(I)I"⟩
abbrev cX5_takeParts : ByteArray := prog_7_method_30_code
def yX5_takeParts : MethodName := ⟨RX5, "takeParts", "(I)V"⟩
abbrev cX5_keep : ByteArray := prog_7_method_31_code
def yX5_keep : MethodName := ⟨RX5, "keep", "(I)Z"⟩
abbrev cX5_live : ByteArray := prog_7_method_32_code
def yX5_live : MethodName := ⟨RX5, "live", "()I"⟩
abbrev cX5_reachAll : ByteArray := prog_7_method_33_code
def yX5_reachAll : MethodName := ⟨RX5, "reachAll", "()V"⟩
def RX6 : String := "MapMachine$Token"
def TX6 : u_T := fun k => match k with
  | _ => ("", "", "", false)
def tyX6 : Nat → FieldType := fun k => match k with
  | _ => .int
abbrev wsX60 : List Cond := u_ws RX6 TX6 0
theorem nmX6 : ∀ a, a < 0 → ∀ b, b < 0 → a ≠ b → (TX6 a).2.1 ≠ (TX6 b).2.1 := by decide +kernel
theorem tyX6_ok : ∀ k, k < 0 → parseFieldDescriptor (TX6 k).2.2.1 = some (tyX6 k) := by decide +kernel
abbrev cX6_isStatement : ByteArray := prog_8_method_2_code
def yX6_isStatement : MethodName := ⟨RX6, "isStatement", "(I)Z"⟩
abbrev cX6_isNumber : ByteArray := prog_8_method_3_code
def yX6_isNumber : MethodName := ⟨RX6, "isNumber", "(I)Z"⟩
abbrev cX6_isMap : ByteArray := prog_8_method_4_code
def yX6_isMap : MethodName := ⟨RX6, "isMap", "(I)Z"⟩
abbrev cX6_arguments : ByteArray := prog_8_method_5_code
def yX6_arguments : MethodName := ⟨RX6, "arguments", "(I)I"⟩
abbrev cX6_maps : ByteArray := prog_8_method_6_code
def yX6_maps : MethodName := ⟨RX6, "maps", "(I)I"⟩
abbrev cX6_numbers : ByteArray := prog_8_method_7_code
def yX6_numbers : MethodName := ⟨RX6, "numbers", "(I)I"⟩
abbrev cX6_word : ByteArray := prog_8_method_8_code
def yX6_word : MethodName := ⟨RX6, "word", "(I)I"⟩
def RX7 : String := "MapMachine$Trees"
def TX7 : u_T := fun k => match k with
  | 0 => ("MapMachine$Trees", "cells", "LMapMachine$Cells;", true)
  | 1 => ("MapMachine$Trees", "firsts", "[I", true)
  | 2 => ("MapMachine$Trees", "seconds", "[I", true)
  | 3 => ("MapMachine$Trees", "holes", "[I", true)
  | 4 => ("MapMachine$Trees", "unionCount", "I", false)
  | _ => ("MapMachine$Trees", "hole", "I", false)
def tyX7 : Nat → FieldType := fun k => match k with
  | 0 => .object "MapMachine$Cells"
  | 1 => .array .int
  | 2 => .array .int
  | 3 => .array .int
  | 4 => .int
  | _ => .int
abbrev wsX70 : List Cond := u_ws RX7 TX7 6
theorem nmX7 : ∀ a, a < 6 → ∀ b, b < 6 → a ≠ b → (TX7 a).2.1 ≠ (TX7 b).2.1 := by decide +kernel
theorem tyX7_ok : ∀ k, k < 6 → parseFieldDescriptor (TX7 k).2.2.1 = some (tyX7 k) := by decide +kernel
abbrev cX7_init : ByteArray := prog_9_method_1_code
def yX7_init : MethodName := ⟨RX7, "<init>", "(LMapMachine$Cells;)V"⟩
abbrev cX7_put : ByteArray := prog_9_method_2_code
def yX7_put : MethodName := ⟨RX7, "put", "(III)I"⟩
abbrev cX7_without : ByteArray := prog_9_method_3_code
def yX7_without : MethodName := ⟨RX7, "without", "(II)I"⟩
abbrev cX7_union : ByteArray := prog_9_method_4_code
def yX7_union : MethodName := ⟨RX7, "union", "(II)I"⟩
abbrev cX7_unite : ByteArray := prog_9_method_5_code
def yX7_unite : MethodName := ⟨RX7, "unite", "(III)V"⟩
abbrev cX7_copyTowards : ByteArray := prog_9_method_6_code
def yX7_copyTowards : MethodName := ⟨RX7, "copyTowards", "(II)I"⟩
abbrev cX7_split : ByteArray := prog_9_method_7_code
def yX7_split : MethodName := ⟨RX7, "split", "(II)V"⟩
abbrev cX7_join : ByteArray := prog_9_method_8_code
def yX7_join : MethodName := ⟨RX7, "join", "(II)V"⟩
def RX8 : String := "MapMachine$Walker"
def TX8 : u_T := fun k => match k with
  | 0 => ("MapMachine$Walker", "program", "LMapMachine$Program;", true)
  | 1 => ("MapMachine$Walker", "store", "LMapMachine$Store;", true)
  | 2 => ("MapMachine$Walker", "places", "[I", true)
  | 3 => ("MapMachine$Walker", "stages", "[I", true)
  | 4 => ("MapMachine$Walker", "open", "I", false)
  | 5 => ("MapMachine$Walker", "next", "I", false)
  | 6 => ("MapMachine$Walker", "granted", "I", false)
  | 7 => ("MapMachine$Walker", "stopped", "Z", false)
  | _ => ("MapMachine$Walker", "end", "I", false)
def tyX8 : Nat → FieldType := fun k => match k with
  | 0 => .object "MapMachine$Program"
  | 1 => .object "MapMachine$Store"
  | 2 => .array .int
  | 3 => .array .int
  | 4 => .int
  | 5 => .int
  | 6 => .int
  | 7 => .boolean
  | _ => .int
abbrev wsX80 : List Cond := u_ws RX8 TX8 9
theorem nmX8 : ∀ a, a < 9 → ∀ b, b < 9 → a ≠ b → (TX8 a).2.1 ≠ (TX8 b).2.1 := by decide +kernel
theorem tyX8_ok : ∀ k, k < 9 → parseFieldDescriptor (TX8 k).2.2.1 = some (tyX8 k) := by decide +kernel
abbrev cX8_init : ByteArray := prog_10_method_1_code
def yX8_init : MethodName := ⟨RX8, "<init>", "(LMapMachine$Program;LMapMachine$Store;)V"⟩
abbrev cX8_walk : ByteArray := prog_10_method_2_code
def yX8_walk : MethodName := ⟨RX8, "walk", "(I)I"⟩
abbrev cX8_openAt : ByteArray := prog_10_method_3_code
def yX8_openAt : MethodName := ⟨RX8, "openAt", "(I)V"⟩
abbrev cX8_close : ByteArray := prog_10_method_4_code
def yX8_close : MethodName := ⟨RX8, "close", "()V"⟩
abbrev cX8_closeBehind : ByteArray := prog_10_method_5_code
def yX8_closeBehind : MethodName := ⟨RX8, "closeBehind", "(I)V"⟩
abbrev cX8_setStage : ByteArray := prog_10_method_6_code
def yX8_setStage : MethodName := ⟨RX8, "setStage", "(I)V"⟩
abbrev cX8_mayStep : ByteArray := prog_10_method_7_code
def yX8_mayStep : MethodName := ⟨RX8, "mayStep", "()Z"⟩
abbrev cX8_beginNext : ByteArray := prog_10_method_8_code
def yX8_beginNext : MethodName := ⟨RX8, "beginNext", "()V"⟩
abbrev cX8_body : ByteArray := prog_10_method_9_code
def yX8_body : MethodName := ⟨RX8, "body", "()V"⟩
abbrev cX8_comeBack : ByteArray := prog_10_method_10_code
def yX8_comeBack : MethodName := ⟨RX8, "comeBack", "(I)V"⟩
abbrev cX8_beginPart : ByteArray := prog_10_method_11_code
def yX8_beginPart : MethodName := ⟨RX8, "beginPart", "(I)V"⟩
abbrev cX8_choice : ByteArray := prog_10_method_12_code
def yX8_choice : MethodName := ⟨RX8, "choice", "(II)V"⟩
abbrev cX8_repetition : ByteArray := prog_10_method_13_code
def yX8_repetition : MethodName := ⟨RX8, "repetition", "(II)V"⟩
abbrev cX8_eachKey : ByteArray := prog_10_method_14_code
def yX8_eachKey : MethodName := ⟨RX8, "eachKey", "(II)V"⟩
abbrev cX8_comeToKey : ByteArray := prog_10_method_15_code
def yX8_comeToKey : MethodName := ⟨RX8, "comeToKey", "(I)V"⟩
abbrev cX8_answer : ByteArray := prog_10_method_16_code
def yX8_answer : MethodName := ⟨RX8, "answer", "(I)V"⟩
abbrev cX8_call : ByteArray := prog_10_method_17_code
def yX8_call : MethodName := ⟨RX8, "call", "(II)V"⟩
abbrev cX8_enter : ByteArray := prog_10_method_18_code
def yX8_enter : MethodName := ⟨RX8, "enter", "(II)V"⟩
abbrev cX8_shortcut : ByteArray := prog_10_method_19_code
def yX8_shortcut : MethodName := ⟨RX8, "shortcut", "(II)V"⟩
abbrev cX8_plain : ByteArray := prog_10_method_20_code
def yX8_plain : MethodName := ⟨RX8, "plain", "(II)V"⟩
def RX9 : String := "MapMachine$Word"
def TX9 : u_T := fun k => match k with
  | _ => ("", "", "", false)
def tyX9 : Nat → FieldType := fun k => match k with
  | _ => .int
abbrev wsX90 : List Cond := u_ws RX9 TX9 0
theorem nmX9 : ∀ a, a < 0 → ∀ b, b < 0 → a ≠ b → (TX9 a).2.1 ≠ (TX9 b).2.1 := by decide +kernel
theorem tyX9_ok : ∀ k, k < 0 → parseFieldDescriptor (TX9 k).2.2.1 = some (tyX9 k) := by decide +kernel
abbrev cX9_length : ByteArray := prog_11_method_2_code
def yX9_length : MethodName := ⟨RX9, "length", "(I)I"⟩
def RX10 : String := "MapMachine"
def TX10 : u_T := fun k => match k with
  | 0 => ("MapMachine", "program", "LMapMachine$Program;", true)
  | 1 => ("MapMachine", "compiler", "LMapMachine$Compiler;", true)
  | 2 => ("MapMachine", "cells", "LMapMachine$Cells;", true)
  | 3 => ("MapMachine", "store", "LMapMachine$Store;", true)
  | 4 => ("MapMachine", "runner", "LMapMachine$Runner;", true)
  | _ => ("MapMachine", "walker", "LMapMachine$Walker;", true)
def tyX10 : Nat → FieldType := fun k => match k with
  | 0 => .object "MapMachine$Program"
  | 1 => .object "MapMachine$Compiler"
  | 2 => .object "MapMachine$Cells"
  | 3 => .object "MapMachine$Store"
  | 4 => .object "MapMachine$Runner"
  | _ => .object "MapMachine$Walker"
abbrev wsX100 : List Cond := u_ws RX10 TX10 6
theorem nmX10 : ∀ a, a < 6 → ∀ b, b < 6 → a ≠ b → (TX10 a).2.1 ≠ (TX10 b).2.1 := by decide +kernel
theorem tyX10_ok : ∀ k, k < 6 → parseFieldDescriptor (TX10 k).2.2.1 = some (tyX10 k) := by decide +kernel
abbrev cX10_init : ByteArray := prog_1_method_1_code
def yX10_init : MethodName := ⟨RX10, "<init>", "()V"⟩
abbrev cX10_init_ : ByteArray := prog_1_method_2_code
def yX10_init_ : MethodName := ⟨RX10, "init", "(II)I"⟩
abbrev cX10_feed : ByteArray := prog_1_method_3_code
def yX10_feed : MethodName := ⟨RX10, "feed", "(I)I"⟩
abbrev cX10_compile : ByteArray := prog_1_method_4_code
def yX10_compile : MethodName := ⟨RX10, "compile", "()I"⟩
abbrev cX10_place : ByteArray := prog_1_method_5_code
def yX10_place : MethodName := ⟨RX10, "place", "()I"⟩
abbrev cX10_code : ByteArray := prog_1_method_6_code
def yX10_code : MethodName := ⟨RX10, "code", "(I)I"⟩
abbrev cX10_start : ByteArray := prog_1_method_7_code
def yX10_start : MethodName := ⟨RX10, "start", "(I)I"⟩
abbrev cX10_run : ByteArray := prog_1_method_8_code
def yX10_run : MethodName := ⟨RX10, "run", "(I)I"⟩
abbrev cX10_interpret : ByteArray := prog_1_method_9_code
def yX10_interpret : MethodName := ⟨RX10, "interpret", "(II)I"⟩
abbrev cX10_outSize : ByteArray := prog_1_method_10_code
def yX10_outSize : MethodName := ⟨RX10, "outSize", "()I"⟩
abbrev cX10_out : ByteArray := prog_1_method_11_code
def yX10_out : MethodName := ⟨RX10, "out", "(I)I"⟩
abbrev cX10_variable : ByteArray := prog_1_method_12_code
def yX10_variable : MethodName := ⟨RX10, "variable", "(I)I"⟩
abbrev cX10_map : ByteArray := prog_1_method_13_code
def yX10_map : MethodName := ⟨RX10, "map", "(III)I"⟩
abbrev cX10_count : ByteArray := prog_1_method_14_code
def yX10_count : MethodName := ⟨RX10, "count", "(I)I"⟩
abbrev cX10_mayBeGranted : ByteArray := prog_1_method_15_code
def yX10_mayBeGranted : MethodName := ⟨RX10, "mayBeGranted", "(I)Z"⟩
abbrev cX10_leaveRun : ByteArray := prog_1_method_16_code
def yX10_leaveRun : MethodName := ⟨RX10, "leaveRun", "()V"⟩
def RX11 : String := "MapMachineModel"
def TX11 : u_T := fun k => match k with
  | 0 => ("MapMachineModel", "tokens", "[I", true)
  | 1 => ("MapMachineModel", "tokenMany", "I", false)
  | 2 => ("MapMachineModel", "at", "I", false)
  | 3 => ("MapMachineModel", "fault", "I", false)
  | 4 => ("MapMachineModel", "faultPlace", "I", false)
  | 5 => ("MapMachineModel", "isCompiled", "Z", false)
  | 6 => ("MapMachineModel", "words", "[I", true)
  | 7 => ("MapMachineModel", "wordMany", "I", false)
  | 8 => ("MapMachineModel", "marked", "[I", true)
  | 9 => ("MapMachineModel", "markedMany", "I", false)
  | 10 => ("MapMachineModel", "mainWord", "I", false)
  | 11 => ("MapMachineModel", "mainMarked", "I", false)
  | 12 => ("MapMachineModel", "inMain", "Z", false)
  | 13 => ("MapMachineModel", "isFunction", "[Z", true)
  | 14 => ("MapMachineModel", "parameters", "[I", true)
  | 15 => ("MapMachineModel", "functionWord", "[I", true)
  | 16 => ("MapMachineModel", "functionMarked", "[I", true)
  | 17 => ("MapMachineModel", "todo", "[I", true)
  | 18 => ("MapMachineModel", "todoNumber", "[I", true)
  | 19 => ("MapMachineModel", "todoDeep", "[I", true)
  | 20 => ("MapMachineModel", "todos", "I", false)
  | 21 => ("MapMachineModel", "holeWord", "[I", true)
  | 22 => ("MapMachineModel", "holeMarked", "[I", true)
  | 23 => ("MapMachineModel", "holes", "I", false)
  | 24 => ("MapMachineModel", "keys", "[I", true)
  | 25 => ("MapMachineModel", "values", "[I", true)
  | 26 => ("MapMachineModel", "lesser", "[I", true)
  | 27 => ("MapMachineModel", "greater", "[I", true)
  | 28 => ("MapMachineModel", "isLive", "[Z", true)
  | 29 => ("MapMachineModel", "pile", "[I", true)
  | 30 => ("MapMachineModel", "live", "I", false)
  | 31 => ("MapMachineModel", "nextCell", "I", false)
  | 32 => ("MapMachineModel", "made", "I", false)
  | 33 => ("MapMachineModel", "most", "I", false)
  | 34 => ("MapMachineModel", "isFull", "Z", false)
  | 35 => ("MapMachineModel", "seed", "I", false)
  | 36 => ("MapMachineModel", "room", "I", false)
  | 37 => ("MapMachineModel", "variables", "[I", true)
  | 38 => ("MapMachineModel", "maps", "[I", true)
  | 39 => ("MapMachineModel", "ownVariables", "[I", true)
  | 40 => ("MapMachineModel", "ownMaps", "[I", true)
  | 41 => ("MapMachineModel", "returnTo", "[I", true)
  | 42 => ("MapMachineModel", "heights", "[I", true)
  | 43 => ("MapMachineModel", "calls", "I", false)
  | 44 => ("MapMachineModel", "isMap", "[Z", true)
  | 45 => ("MapMachineModel", "stack", "[I", true)
  | 46 => ("MapMachineModel", "isGoing", "[Z", true)
  | 47 => ("MapMachineModel", "lastKey", "[I", true)
  | 48 => ("MapMachineModel", "height", "I", false)
  | 49 => ("MapMachineModel", "told", "[I", true)
  | 50 => ("MapMachineModel", "tolds", "I", false)
  | 51 => ("MapMachineModel", "next", "I", false)
  | 52 => ("MapMachineModel", "steps", "I", false)
  | 53 => ("MapMachineModel", "ended", "I", false)
  | 54 => ("MapMachineModel", "isRun", "Z", false)
  | 55 => ("MapMachineModel", "isStraight", "Z", false)
  | 56 => ("MapMachineModel", "way", "[I", true)
  | 57 => ("MapMachineModel", "wayMany", "I", false)
  | 58 => ("MapMachineModel", "low", "I", false)
  | 59 => ("MapMachineModel", "high", "I", false)
  | 60 => ("MapMachineModel", "unionKey", "[I", true)
  | 61 => ("MapMachineModel", "unionValue", "[I", true)
  | 62 => ("MapMachineModel", "unionOne", "[I", true)
  | 63 => ("MapMachineModel", "unionOther", "[I", true)
  | 64 => ("MapMachineModel", "unionLow", "[I", true)
  | _ => ("MapMachineModel", "unionSecond", "[Z", true)
def tyX11 : Nat → FieldType := fun k => match k with
  | 0 => .array .int
  | 1 => .int
  | 2 => .int
  | 3 => .int
  | 4 => .int
  | 5 => .boolean
  | 6 => .array .int
  | 7 => .int
  | 8 => .array .int
  | 9 => .int
  | 10 => .int
  | 11 => .int
  | 12 => .boolean
  | 13 => .array .boolean
  | 14 => .array .int
  | 15 => .array .int
  | 16 => .array .int
  | 17 => .array .int
  | 18 => .array .int
  | 19 => .array .int
  | 20 => .int
  | 21 => .array .int
  | 22 => .array .int
  | 23 => .int
  | 24 => .array .int
  | 25 => .array .int
  | 26 => .array .int
  | 27 => .array .int
  | 28 => .array .boolean
  | 29 => .array .int
  | 30 => .int
  | 31 => .int
  | 32 => .int
  | 33 => .int
  | 34 => .boolean
  | 35 => .int
  | 36 => .int
  | 37 => .array .int
  | 38 => .array .int
  | 39 => .array .int
  | 40 => .array .int
  | 41 => .array .int
  | 42 => .array .int
  | 43 => .int
  | 44 => .array .boolean
  | 45 => .array .int
  | 46 => .array .boolean
  | 47 => .array .int
  | 48 => .int
  | 49 => .array .int
  | 50 => .int
  | 51 => .int
  | 52 => .int
  | 53 => .int
  | 54 => .boolean
  | 55 => .boolean
  | 56 => .array .int
  | 57 => .int
  | 58 => .int
  | 59 => .int
  | 60 => .array .int
  | 61 => .array .int
  | 62 => .array .int
  | 63 => .array .int
  | 64 => .array .int
  | _ => .array .boolean
abbrev wsX110 : List Cond := u_ws RX11 TX11 66
theorem nmX11 : ∀ a, a < 66 → ∀ b, b < 66 → a ≠ b → (TX11 a).2.1 ≠ (TX11 b).2.1 := by decide +kernel
theorem tyX11_ok : ∀ k, k < 66 → parseFieldDescriptor (TX11 k).2.2.1 = some (tyX11 k) := by decide +kernel
abbrev cX11_init : ByteArray := prog_13_method_1_code
def yX11_init : MethodName := ⟨RX11, "<init>", "()V"⟩
abbrev cX11_in : ByteArray := prog_13_method_2_code
def yX11_in : MethodName := ⟨RX11, "in", "(III)Z"⟩
abbrev cX11_init_ : ByteArray := prog_13_method_3_code
def yX11_init_ : MethodName := ⟨RX11, "init", "(II)I"⟩
abbrev cX11_feed : ByteArray := prog_13_method_4_code
def yX11_feed : MethodName := ⟨RX11, "feed", "(I)I"⟩
abbrev cX11_token : ByteArray := prog_13_method_5_code
def yX11_token : MethodName := ⟨RX11, "token", "()I"⟩
abbrev cX11_wrong : ByteArray := prog_13_method_6_code
def yX11_wrong : MethodName := ⟨RX11, "wrong", "(I)V"⟩
abbrev cX11_number : ByteArray := prog_13_method_7_code
def yX11_number : MethodName := ⟨RX11, "number", "(I)I"⟩
abbrev cX11_known : ByteArray := prog_13_method_8_code
def yX11_known : MethodName := ⟨RX11, "known", "()I"⟩
abbrev cX11_later : ByteArray := prog_13_method_9_code
def yX11_later : MethodName := ⟨RX11, "later", "(III)V"⟩
abbrev cX11_lay : ByteArray := prog_13_method_10_code
def yX11_lay : MethodName := ⟨RX11, "lay", "(I)V"⟩
abbrev cX11_mark : ByteArray := prog_13_method_11_code
def yX11_mark : MethodName := ⟨RX11, "mark", "()V"⟩
abbrev cX11_newHole : ByteArray := prog_13_method_12_code
def yX11_newHole : MethodName := ⟨RX11, "newHole", "()I"⟩
abbrev cX11_layHole : ByteArray := prog_13_method_13_code
def yX11_layHole : MethodName := ⟨RX11, "layHole", "(I)V"⟩
abbrev cX11_fill : ByteArray := prog_13_method_14_code
def yX11_fill : MethodName := ⟨RX11, "fill", "(I)V"⟩
abbrev cX11_layBack : ByteArray := prog_13_method_15_code
def yX11_layBack : MethodName := ⟨RX11, "layBack", "(I)V"⟩
abbrev cX11_remember : ByteArray := prog_13_method_16_code
def yX11_remember : MethodName := ⟨RX11, "remember", "(I)V"⟩
abbrev cX11_readAll : ByteArray := prog_13_method_17_code
def yX11_readAll : MethodName := ⟨RX11, "readAll", "()V"⟩
abbrev cX11_isDeep : ByteArray := prog_13_method_18_code
def yX11_isDeep : MethodName := ⟨RX11, "isDeep", "(I)Z"⟩
abbrev cX11_readStatements : ByteArray := prog_13_method_19_code
def yX11_readStatements : MethodName := ⟨RX11, "readStatements", "(II)V"⟩
abbrev cX11_readStatement : ByteArray := prog_13_method_20_code
def yX11_readStatement : MethodName := ⟨RX11, "readStatement", "(II)V"⟩
abbrev cX11_readOver : ByteArray := prog_13_method_21_code
def yX11_readOver : MethodName := ⟨RX11, "readOver", "(I)V"⟩
abbrev cX11_readCall : ByteArray := prog_13_method_22_code
def yX11_readCall : MethodName := ⟨RX11, "readCall", "(I)V"⟩
abbrev cX11_readExpression : ByteArray := prog_13_method_23_code
def yX11_readExpression : MethodName := ⟨RX11, "readExpression", "(I)V"⟩
abbrev cX11_readEither : ByteArray := prog_13_method_24_code
def yX11_readEither : MethodName := ⟨RX11, "readEither", "(II)V"⟩
abbrev cX11_readMap : ByteArray := prog_13_method_25_code
def yX11_readMap : MethodName := ⟨RX11, "readMap", "(I)V"⟩
abbrev cX11_readFunction : ByteArray := prog_13_method_26_code
def yX11_readFunction : MethodName := ⟨RX11, "readFunction", "()V"⟩
abbrev cX11_compile : ByteArray := prog_13_method_27_code
def yX11_compile : MethodName := ⟨RX11, "compile", "()I"⟩
abbrev cX11_place : ByteArray := prog_13_method_28_code
def yX11_place : MethodName := ⟨RX11, "place", "()I"⟩
abbrev cX11_code : ByteArray := prog_13_method_29_code
def yX11_code : MethodName := ⟨RX11, "code", "(I)I"⟩
abbrev cX11_rank : ByteArray := prog_13_method_30_code
def yX11_rank : MethodName := ⟨RX11, "rank", "(II)I"⟩
abbrev cX11_rankOf : ByteArray := prog_13_method_31_code
def yX11_rankOf : MethodName := ⟨RX11, "rankOf", "(I)I"⟩
abbrev cX11_markTree : ByteArray := prog_13_method_32_code
def yX11_markTree : MethodName := ⟨RX11, "markTree", "(I)V"⟩
abbrev cX11_findLive : ByteArray := prog_13_method_33_code
def yX11_findLive : MethodName := ⟨RX11, "findLive", "(Z)V"⟩
abbrev cX11_beginMaking : ByteArray := prog_13_method_34_code
def yX11_beginMaking : MethodName := ⟨RX11, "beginMaking", "()V"⟩
abbrev cX11_cell : ByteArray := prog_13_method_35_code
def yX11_cell : MethodName := ⟨RX11, "cell", "(IIII)I"⟩
abbrev cX11_split : ByteArray := prog_13_method_36_code
def yX11_split : MethodName := ⟨RX11, "split", "(II)V"⟩
abbrev cX11_climb : ByteArray := prog_13_method_37_code
def yX11_climb : MethodName := ⟨RX11, "climb", "(II)I"⟩
abbrev cX11_put : ByteArray := prog_13_method_38_code
def yX11_put : MethodName := ⟨RX11, "put", "(III)I"⟩
abbrev cX11_find : ByteArray := prog_13_method_39_code
def yX11_find : MethodName := ⟨RX11, "find", "(II)I"⟩
abbrev cX11_without : ByteArray := prog_13_method_40_code
def yX11_without : MethodName := ⟨RX11, "without", "(II)I"⟩
abbrev cX11_union : ByteArray := prog_13_method_41_code
def yX11_union : MethodName := ⟨RX11, "union", "(II)I"⟩
abbrev cX11_isMade : ByteArray := prog_13_method_42_code
def yX11_isMade : MethodName := ⟨RX11, "isMade", "()Z"⟩
abbrev cX11_sizeOf : ByteArray := prog_13_method_43_code
def yX11_sizeOf : MethodName := ⟨RX11, "sizeOf", "(I)I"⟩
abbrev cX11_above : ByteArray := prog_13_method_44_code
def yX11_above : MethodName := ⟨RX11, "above", "(IIZ)I"⟩
abbrev cX11_floor : ByteArray := prog_13_method_45_code
def yX11_floor : MethodName := ⟨RX11, "floor", "(II)I"⟩
abbrev cX11_clear : ByteArray := prog_13_method_46_code
def yX11_clear : MethodName := ⟨RX11, "clear", "(I)V"⟩
abbrev cX11_clearOwn : ByteArray := prog_13_method_47_code
def yX11_clearOwn : MethodName := ⟨RX11, "clearOwn", "()V"⟩
abbrev cX11_start : ByteArray := prog_13_method_48_code
def yX11_start : MethodName := ⟨RX11, "start", "(I)I"⟩
abbrev cX11_run : ByteArray := prog_13_method_49_code
def yX11_run : MethodName := ⟨RX11, "run", "(I)I"⟩
abbrev cX11_interpret : ByteArray := prog_13_method_50_code
def yX11_interpret : MethodName := ⟨RX11, "interpret", "(II)I"⟩
abbrev cX11_word : ByteArray := prog_13_method_51_code
def yX11_word : MethodName := ⟨RX11, "word", "(I)I"⟩
abbrev cX11_isStep : ByteArray := prog_13_method_52_code
def yX11_isStep : MethodName := ⟨RX11, "isStep", "()Z"⟩
abbrev cX11_nextKey : ByteArray := prog_13_method_53_code
def yX11_nextKey : MethodName := ⟨RX11, "nextKey", "()I"⟩
abbrev cX11_go : ByteArray := prog_13_method_54_code
def yX11_go : MethodName := ⟨RX11, "go", "(I)V"⟩
abbrev cX11_push : ByteArray := prog_13_method_55_code
def yX11_push : MethodName := ⟨RX11, "push", "(I)V"⟩
abbrev cX11_pushMap : ByteArray := prog_13_method_56_code
def yX11_pushMap : MethodName := ⟨RX11, "pushMap", "(I)V"⟩
abbrev cX11_pop : ByteArray := prog_13_method_57_code
def yX11_pop : MethodName := ⟨RX11, "pop", "()I"⟩
abbrev cX11_variable : ByteArray := prog_13_method_58_code
def yX11_variable : MethodName := ⟨RX11, "variable", "(IZ)I"⟩
abbrev cX11_setVariable : ByteArray := prog_13_method_59_code
def yX11_setVariable : MethodName := ⟨RX11, "setVariable", "(II)V"⟩
abbrev cX11_perform : ByteArray := prog_13_method_60_code
def yX11_perform : MethodName := ⟨RX11, "perform", "()V"⟩
abbrev cX11_end : ByteArray := prog_13_method_61_code
def yX11_end : MethodName := ⟨RX11, "end", "(I)V"⟩
abbrev cX11_reckon : ByteArray := prog_13_method_62_code
def yX11_reckon : MethodName := ⟨RX11, "reckon", "(I)V"⟩
abbrev cX11_of : ByteArray := prog_13_method_63_code
def yX11_of : MethodName := ⟨RX11, "of", "(III)I"⟩
abbrev cX11_turn : ByteArray := prog_13_method_64_code
def yX11_turn : MethodName := ⟨RX11, "turn", "(I)V"⟩
abbrev cX11_call : ByteArray := prog_13_method_65_code
def yX11_call : MethodName := ⟨RX11, "call", "(I)V"⟩
abbrev cX11_mapOf : ByteArray := prog_13_method_66_code
def yX11_mapOf : MethodName := ⟨RX11, "mapOf", "(I)I"⟩
abbrev cX11_withMaps : ByteArray := prog_13_method_67_code
def yX11_withMaps : MethodName := ⟨RX11, "withMaps", "(I)V"⟩
abbrev cX11_make : ByteArray := prog_13_method_68_code
def yX11_make : MethodName := ⟨RX11, "make", "(I)V"⟩
abbrev cX11_look : ByteArray := prog_13_method_69_code
def yX11_look : MethodName := ⟨RX11, "look", "(I)V"⟩
abbrev cX11_goOver : ByteArray := prog_13_method_70_code
def yX11_goOver : MethodName := ⟨RX11, "goOver", "()V"⟩
abbrev cX11_outSize : ByteArray := prog_13_method_71_code
def yX11_outSize : MethodName := ⟨RX11, "outSize", "()I"⟩
abbrev cX11_out : ByteArray := prog_13_method_72_code
def yX11_out : MethodName := ⟨RX11, "out", "(I)I"⟩
abbrev cX11_variable_ : ByteArray := prog_13_method_73_code
def yX11_variable_ : MethodName := ⟨RX11, "variable", "(I)I"⟩
abbrev cX11_map : ByteArray := prog_13_method_74_code
def yX11_map : MethodName := ⟨RX11, "map", "(III)I"⟩
abbrev cX11_count : ByteArray := prog_13_method_75_code
def yX11_count : MethodName := ⟨RX11, "count", "(I)I"⟩
def RL : String := "MapMachineLaw"
abbrev cL_law : ByteArray := code
def yL_law : MethodName := ⟨RL, "law", "([I)Z"⟩
abbrev vwCl : List vw_C := [(RX0, TX0, 16), (RX1, TX1, 4), (RX2, TX2, 13), (RX4, TX4, 5), (RX5, TX5, 17), (RX7, TX7, 6), (RX8, TX8, 9), (RX10, TX10, 6), (RX11, TX11, 66)]
end
section
/-! A SMALL MACHINE over a flat store: what a method's bytecode does, as a predicate over its end. Places stand for addresses; nothing is made. -/
/-- the store: the ints of objects by place and field, the ints of rows by place and index, the longs of rows -/
abbrev mv_S : Type := (Nat → Nat → Int32) × (Nat → Nat → Int32) × (Nat → Nat → Int64)
/-- a cell's shape: an object (its class's number, its fields: 0 an int, 1 a boolean, i + 2 the cell at place i), or a row (0 ints, 1 booleans, 2 longs; its length) -/
abbrev mv_D : Type := (Nat × List Nat) ⊕ (Nat × Nat)
def mv_f (ad : Nat → Nat) (x : Int32) : Nat → Value
  | 0 => .int x
  | 1 => .int x
  | i + 2 => .ref (ad i)
def mv_fs (ad : Nat → Nat) (v : Nat → Int32) : Nat → List Nat → List Value
  | _, [] => []
  | k, f :: r => mv_f ad (v k) f :: mv_fs ad v (k + 1) r
def mv_c (cy : Nat → ClassId) (ad : Nat → Nat) (S : mv_S) (q : Nat) : mv_D → va_E
  | .inl (ci, fs) => .inr (ci, mv_fs ad (S.1 q) 0 fs)
  | .inr (0, n) => .inl (cy 0, n, .inl (S.2.1 q))
  | .inr (1, n) => .inl (cy 1, n, .inl (S.2.1 q))
  | .inr (_ + 2, n) => .inl (cy 2, n, .inr (.inl (S.2.2 q)))
def mv_w (cy : Nat → ClassId) (ad : Nat → Nat) (S : mv_S) : Nat → List mv_D → va_W
  | _, [] => []
  | q, d :: r => (ad q, mv_c cy ad S q d) :: mv_w cy ad S (q + 1) r
def mv_tys (cy : Nat → ClassId) : List (ClassId × FieldType) := [(cy 0, .int), (cy 1, .boolean), (cy 2, .long)]
def mv_pf (S : mv_S) (q k : Nat) (x : Int32) : mv_S := (va_up S.1 q (upd (S.1 q) k x), S.2.1, S.2.2)
def mv_pr (S : mv_S) (q k : Nat) (x : Int32) : mv_S := (S.1, va_up S.2.1 q (upd (S.2.1 q) k x), S.2.2)
def mv_pl (S : mv_S) (q k : Nat) (x : Int64) : mv_S := (S.1, S.2.1, va_up S.2.2 q (vp_updL (S.2.2 q) k x))
/-- a value with places, as the machine has it -/
def mv_k (ad : Nat → Nat) : Value → Value
  | .ref i => .ref (ad i)
  | v => v
def mv_ks (ad : Nat → Nat) (l : List (Nat × Value)) : List (Nat × Value) := l.map (fun q => (q.1, mv_k ad q.2))
/-- a table: what stands at a number -/
def mv_at {α : Type} (i : Nat) : List (Nat × α) → Option α
  | [] => none
  | (j, a) :: r => bif Nat.beq j i then some a else mv_at i r
def mv_sv (i : Nat) (x : Value) (lv : List (Nat × Value)) : List (Nat × Value) := (i, x) :: lv.filter (fun q => !(q.1 == i) && !(q.1 + 1 == i && q.2.category == 2))
/-- a class's links: fields (index: class's number, field), ints, longs, methods -/
abbrev mv_T : Type := List (Nat × Nat × Nat) × List (Nat × Int32) × List (Nat × Int64) × List (Nat × Nat)
/-- a method: name, bytes, locals, answer, number of parameters, the receiver's class (none: static), links, instructions -/
abbrev mv_M : Type := MethodName × ByteArray × Nat × Option FieldType × Nat × Option Nat × mv_T × List (Nat × Instr)
abbrev mv_Call : Type := Nat → List Value → mv_S → (Option Value → mv_S → Prop) → Prop
def mv_len (pc : Nat) : Instr → Nat
  | .bipush _ => 2
  | .iload _ => 2
  | .istore _ => 2
  | .aload _ => 2
  | .astore _ => 2
  | .ldc _ => 2
  | .sipush _ => 3
  | .ifCond _ _ => 3
  | .if_icmp _ _ => 3
  | .goto _ => 3
  | .getfield _ => 3
  | .putfield _ => 3
  | .invokevirtual _ => 3
  | .invokestatic _ => 3
  | .iinc _ _ => 3
  | .ldc_w _ => 3
  | .ldc2_w _ => 3
  | .tableswitch _ _ _ offs => 16 - pc % 4 + 4 * offs.size
  | .lookupswitch _ ps => 12 - pc % 4 + 8 * ps.size
  | _ => 1
def mv_to (pc : Nat) (off : Int) (k : Nat → Prop) : Prop := match (pc : Int) + off with
  | .ofNat t => k t
  | .negSucc _ => False
def mv_cd : Jvm.ClassFile.Cond → Int32 → Int32 → Prop
  | .eq, x, y => x = y
  | .ne, x, y => ¬ x = y
  | .lt, x, y => x < y
  | .ge, x, y => y ≤ x
  | .gt, x, y => y < x
  | .le, x, y => x ≤ y
def mv_nc : Jvm.ClassFile.Cond → Int32 → Int32 → Prop
  | .eq, x, y => ¬ x = y
  | .ne, x, y => x = y
  | .lt, x, y => ¬ x < y
  | .ge, x, y => ¬ y ≤ x
  | .gt, x, y => ¬ y < x
  | .le, x, y => ¬ x ≤ y
def mv_tb (lo : Int) : List Int → List (Int × Int)
  | [] => []
  | o :: r => (lo, o) :: mv_tb (lo + 1) r
def mv_sw (pc : Nat) (x : Int32) (d : Int) (k : Nat → Prop) : List (Int × Int) → Prop
  | [] => mv_to pc d k
  | (c, o) :: r => (x = Int32.ofInt c → mv_to pc o k) ∧ (¬ x = Int32.ofInt c → mv_sw pc x d k r)
def mv_rng (c : Int) : Bool := decide (-2147483648 ≤ c) && decide (c < 2147483648)
def mv_fd (lay : List mv_D) (T : mv_T) (i q : Nat) : Option (Nat × Nat × Nat) := match mv_at i T.1 with
  | none => none
  | some (ci, k) => match lay[q]? with
    | some (.inl (cj, fs)) => bif Nat.beq cj ci then (match fs[k]? with
      | some f => some (ci, k, f)
      | none => none) else none
    | _ => none
def mv_cat (l : List Value) : Nat := (l.map fun v => v.category).sum
def mv_iv (lay : List mv_D) (sys : List mv_M) (T : mv_T) (i : Nat) (st : List Value) : Option (Nat × List Value × List Value) := match mv_at i T.2.2.2 with
  | none => none
  | some j => match sys[j]? with
    | some (_, _, _, _, np, some ci, _, _) => match st.drop np with
      | .ref q :: rest => match lay[q]? with
        | some (.inl (cj, _)) => bif Nat.beq cj ci && Nat.beq (st.take np).length np && Nat.ble (mv_cat rest) 8 then some (j, .ref q :: (st.take np).reverse, rest) else none
        | _ => none
      | _ => none
    | _ => none
def mv_is (sys : List mv_M) (T : mv_T) (i : Nat) (st : List Value) : Option (Nat × List Value × List Value) := match mv_at i T.2.2.2 with
  | none => none
  | some j => match sys[j]? with
    | some (_, _, _, _, np, none, _, _) => bif Nat.beq (st.take np).length np && Nat.ble (mv_cat (st.drop np)) 8 then some (j, (st.take np).reverse, st.drop np) else none
    | _ => none
/-- what an instruction asks for -/
def mv_do (lay : List mv_D) (sys : List mv_M) (T : mv_T) (nL : Nat) (z : Option FieldType) (Call : mv_Call) (P : Option Value → mv_S → Prop) (K : Nat → List (Nat × Value) → List Value → mv_S → Prop) (pc : Nat) (lv : List (Nat × Value)) (st : List Value) (S : mv_S) (i : Instr) : Prop := match i with
  | .iconst n => K (pc + 1) lv (.int (Int32.ofInt n) :: st) S
  | .bipush n => K (pc + 2) lv (.int (Int8.ofInt n).toInt32 :: st) S
  | .sipush n => K (pc + 3) lv (.int (Int16.ofInt n).toInt32 :: st) S
  | .lconst n => K (pc + 1) lv (.long (Int64.ofNat n.val) :: st) S
  | .iload_n k => match mv_at k.val lv with
    | some (.int x) => K (pc + 1) lv (.int x :: st) S
    | _ => False
  | .iload k => match mv_at k lv with
    | some (.int x) => K (pc + 2) lv (.int x :: st) S
    | _ => False
  | .aload_n k => match mv_at k.val lv with
    | some (.ref x) => K (pc + 1) lv (.ref x :: st) S
    | _ => False
  | .aload k => match mv_at k lv with
    | some (.ref x) => K (pc + 2) lv (.ref x :: st) S
    | _ => False
  | .lload_n k => match mv_at k.val lv with
    | some (.long x) => K (pc + 1) lv (.long x :: st) S
    | _ => False
  | .istore_n k => match st with
    | .int x :: r => bif Nat.blt k.val nL then K (pc + 1) (mv_sv k.val (.int x) lv) r S else False
    | _ => False
  | .istore k => match st with
    | .int x :: r => bif Nat.blt k nL then K (pc + 2) (mv_sv k (.int x) lv) r S else False
    | _ => False
  | .astore_n k => match st with
    | .ref x :: r => bif Nat.blt k.val nL then K (pc + 1) (mv_sv k.val (.ref x) lv) r S else False
    | _ => False
  | .astore k => match st with
    | .ref x :: r => bif Nat.blt k nL then K (pc + 2) (mv_sv k (.ref x) lv) r S else False
    | _ => False
  | .iinc k n => match mv_at k lv with
    | some (.int x) => bif Nat.blt k nL then K (pc + 3) (mv_sv k (.int (x + Int32.ofInt n)) lv) st S else False
    | _ => False
  | .iadd => match st with
    | .int y :: .int x :: r => K (pc + 1) lv (.int (x + y) :: r) S
    | _ => False
  | .isub => match st with
    | .int y :: .int x :: r => K (pc + 1) lv (.int (x - y) :: r) S
    | _ => False
  | .imul => match st with
    | .int y :: .int x :: r => K (pc + 1) lv (.int (x * y) :: r) S
    | _ => False
  | .iand => match st with
    | .int y :: .int x :: r => K (pc + 1) lv (.int (x &&& y) :: r) S
    | _ => False
  | .ixor => match st with
    | .int y :: .int x :: r => K (pc + 1) lv (.int (x ^^^ y) :: r) S
    | _ => False
  | .idiv => match st with
    | .int y :: .int x :: r => (¬ y = 0) ∧ K (pc + 1) lv (.int (x / y) :: r) S
    | _ => False
  | .irem => match st with
    | .int y :: .int x :: r => (¬ y = 0) ∧ K (pc + 1) lv (.int (x - x / y * y) :: r) S
    | _ => False
  | .ineg => match st with
    | .int x :: r => K (pc + 1) lv (.int (-x) :: r) S
    | _ => False
  | .iushr => match st with
    | .int y :: .int x :: r => K (pc + 1) lv (.int (x.toUInt32 >>> (y.toUInt32 &&& Int32.toUInt32 31)).toInt32 :: r) S
    | _ => False
  | .i2l => match st with
    | .int x :: r => K (pc + 1) lv (.long x.toInt64 :: r) S
    | _ => False
  | .ladd => match st with
    | .long y :: .long x :: r => K (pc + 1) lv (.long (x + y) :: r) S
    | _ => False
  | .lcmp => match st with
    | .long y :: .long x :: r => K (pc + 1) lv (.int (lg_cmp x y) :: r) S
    | _ => False
  | .dup => match st with
    | .int x :: r => K (pc + 1) lv (.int x :: .int x :: r) S
    | .ref x :: r => K (pc + 1) lv (.ref x :: .ref x :: r) S
    | _ => False
  | .pop => match st with
    | .int _ :: r => K (pc + 1) lv r S
    | .ref _ :: r => K (pc + 1) lv r S
    | _ => False
  | .ldc k => match mv_at k T.2.1 with
    | some x => K (pc + 2) lv (.int x :: st) S
    | none => False
  | .ldc_w k => match mv_at k T.2.1 with
    | some x => K (pc + 3) lv (.int x :: st) S
    | none => False
  | .ldc2_w k => match mv_at k T.2.2.1 with
    | some x => K (pc + 3) lv (.long x :: st) S
    | none => False
  | .goto off => mv_to pc off (fun t => K t lv st S)
  | .ifCond c off => match st with
    | .int x :: r => mv_to pc off (fun t => (mv_cd c x 0 → K t lv r S) ∧ (mv_nc c x 0 → K (pc + 3) lv r S))
    | _ => False
  | .if_icmp c off => match st with
    | .int y :: .int x :: r => mv_to pc off (fun t => (mv_cd c x y → K t lv r S) ∧ (mv_nc c x y → K (pc + 3) lv r S))
    | _ => False
  | .tableswitch d lo hi offs => match st with
    | .int x :: r => bif decide (hi + 1 = lo + offs.size) && mv_rng lo && mv_rng hi then mv_sw pc x d (fun t => K t lv r S) (mv_tb lo offs.toList) else False
    | _ => False
  | .lookupswitch d ps => match st with
    | .int x :: r => bif (ps.toList.zip (ps.toList.drop 1)).all (fun (a, next) => a.1 < next.1) && ps.toList.all (fun q => mv_rng q.1) then mv_sw pc x d (fun t => K t lv r S) ps.toList else False
    | _ => False
  | .getfield k => match st with
    | .ref q :: r => match mv_fd lay T k q with
      | some (_, k, 0) => K (pc + 3) lv (.int (S.1 q k) :: r) S
      | some (_, k, 1) => K (pc + 3) lv (.int (S.1 q k) :: r) S
      | some (_, _, j + 2) => K (pc + 3) lv (.ref j :: r) S
      | none => False
    | _ => False
  | .putfield k => match st with
    | .int x :: .ref q :: r => match mv_fd lay T k q with
      | some (_, k, 0) => K (pc + 3) lv r (mv_pf S q k x)
      | some (_, k, 1) => (x = 0 ∨ x = 1) ∧ K (pc + 3) lv r (mv_pf S q k x)
      | _ => False
    | _ => False
  | .iaload => match st with
    | .int j :: .ref q :: r => match lay[q]? with
      | some (.inr (0, n)) => vp_in j n ∧ K (pc + 1) lv (.int (S.2.1 q j.toNatClampNeg) :: r) S
      | _ => False
    | _ => False
  | .baload => match st with
    | .int j :: .ref q :: r => match lay[q]? with
      | some (.inr (1, n)) => vp_in j n ∧ K (pc + 1) lv (.int (S.2.1 q j.toNatClampNeg) :: r) S
      | _ => False
    | _ => False
  | .laload => match st with
    | .int j :: .ref q :: r => match lay[q]? with
      | some (.inr (_ + 2, n)) => vp_in j n ∧ K (pc + 1) lv (.long (S.2.2 q j.toNatClampNeg) :: r) S
      | _ => False
    | _ => False
  | .iastore => match st with
    | .int x :: .int j :: .ref q :: r => match lay[q]? with
      | some (.inr (0, n)) => vp_in j n ∧ K (pc + 1) lv r (mv_pr S q j.toNatClampNeg x)
      | _ => False
    | _ => False
  | .bastore => match st with
    | .int x :: .int j :: .ref q :: r => match lay[q]? with
      | some (.inr (1, n)) => (x = 0 ∨ x = 1) ∧ vp_in j n ∧ K (pc + 1) lv r (mv_pr S q j.toNatClampNeg x)
      | _ => False
    | _ => False
  | .lastore => match st with
    | .long x :: .int j :: .ref q :: r => match lay[q]? with
      | some (.inr (_ + 2, n)) => vp_in j n ∧ K (pc + 1) lv r (mv_pl S q j.toNatClampNeg x)
      | _ => False
    | _ => False
  | .arraylength => match st with
    | .ref q :: r => match lay[q]? with
      | some (.inr (0, n)) => K (pc + 1) lv (.int (Int32.ofNat n) :: r) S
      | some (.inr (1, n)) => K (pc + 1) lv (.int (Int32.ofNat n) :: r) S
      | some (.inr (_ + 2, n)) => K (pc + 1) lv (.int (Int32.ofNat n) :: r) S
      | _ => False
    | _ => False
  | .invokevirtual k => match mv_iv lay sys T k st with
    | some (j, a, rest) => Call j a S (fun r S' => K (pc + 3) lv (r.toList ++ rest) S')
    | none => False
  | .invokestatic k => match mv_is sys T k st with
    | some (j, a, rest) => Call j a S (fun r S' => K (pc + 3) lv (r.toList ++ rest) S')
    | none => False
  | .ireturn => match st with
    | [.int x] => match z with
      | some .int => P (some (.int x)) S
      | some .boolean => (x = 0 ∨ x = 1) ∧ P (some (.int x)) S
      | _ => False
    | _ => False
  | .lreturn => match st with
    | [.long x] => match z with
      | some .long => P (some (.long x)) S
      | _ => False
    | _ => False
  | .return_ => match st with
    | [] => match z with
      | none => P none S
      | _ => False
    | _ => False
  | _ => False
def mv_wp (lay : List mv_D) (sys : List mv_M) (T : mv_T) (nL : Nat) (z : Option FieldType) (il : List (Nat × Instr)) (Call : mv_Call) (P : Option Value → mv_S → Prop) : Nat → Nat → List (Nat × Value) → List Value → mv_S → Prop
  | 0, _, _, _, _ => False
  | n + 1, pc, lv, st, S => match mv_at pc il with
    | none => False
    | some i => mv_do lay sys T nL z Call P (mv_wp lay sys T nL z il Call P n) pc lv st S i
/-- a method's whole, with calls at most d deep -/
def mv_big (lay : List mv_D) (sys : List mv_M) : Nat → mv_Call
  | 0, _, _, _, _ => False
  | d + 1, j, a, S, P => match sys[j]? with
    | none => False
    | some M => bif Nat.ble (lg_sl a).length M.2.2.1 then (∃ n, mv_wp lay sys M.2.2.2.2.2.2.1 M.2.2.1 M.2.2.2.1 M.2.2.2.2.2.2.2 (mv_big lay sys d) P n 0 (lv_args 0 a) [] S) else False
end
section
/-! THE SMALL MACHINE IS SOUND: helper rows -/
theorem mv_fs_at (ad : Nat → Nat) (v : Nat → Int32) : ∀ (l : List Nat) (k0 k : Nat), (mv_fs ad v k0 l)[k]? = (l[k]?).map (fun f => mv_f ad (v (k0 + k)) f)
  | [], k0, k => by simp [mv_fs]
  | f :: r, k0, 0 => by simp [mv_fs]
  | f :: r, k0, k + 1 => by
    simp only [mv_fs, List.getElem?_cons_succ]
    rw [mv_fs_at ad v r (k0 + 1) k, show k0 + 1 + k = k0 + (k + 1) by omega]
theorem mv_w_at (cy : Nat → ClassId) (ad : Nat → Nat) (S : mv_S) : ∀ (l : List mv_D) (q0 q : Nat), (mv_w cy ad S q0 l)[q]? = (l[q]?).map (fun d => (ad (q0 + q), mv_c cy ad S (q0 + q) d))
  | [], q0, q => by simp [mv_w]
  | d :: r, q0, 0 => by simp [mv_w]
  | d :: r, q0, q + 1 => by
    simp only [mv_w, List.getElem?_cons_succ]
    rw [mv_w_at cy ad S r (q0 + 1) q, show q0 + 1 + q = q0 + (q + 1) by omega]
theorem mv_w_get {cy : Nat → ClassId} {ad : Nat → Nat} {S : mv_S} {lay : List mv_D} {q : Nat} {d : mv_D} (h : lay[q]? = some d) : (mv_w cy ad S 0 lay)[q]? = some (ad q, mv_c cy ad S q d) := by
  rw [mv_w_at, h, Nat.zero_add]; rfl
theorem mv_lt {α : Type} {l : List α} {q : Nat} {d : α} (h : l[q]? = some d) : q < l.length := (List.getElem?_eq_some_iff.mp h).1
/-- the store changed at one place is the list changed there -/
theorem mv_w_set {cy : Nat → ClassId} {ad : Nat → Nat} {S S' : mv_S} {lay : List mv_D} {q : Nat} {d : mv_D} {e : va_E} (h : lay[q]? = some d) (he : mv_c cy ad S' q d = e) (ho : ∀ (p : Nat) (d : mv_D), p ≠ q → mv_c cy ad S' p d = mv_c cy ad S p d) : (mv_w cy ad S 0 lay).set q (ad q, e) = mv_w cy ad S' 0 lay := by
  apply List.ext_getElem?
  intro p
  rw [List.getElem?_set, mv_w_at, mv_w_at]
  by_cases hp : q = p
  · subst hp
    have hl : q < (mv_w cy ad S 0 lay).length := by
      have := mv_w_get (cy := cy) (ad := ad) (S := S) h
      exact mv_lt this
    rw [if_pos rfl, if_pos hl, h, Nat.zero_add, ← he]; rfl
  · rw [if_neg hp, Nat.zero_add]
    cases hd : lay[p]? with
    | none => rfl
    | some d' => simp only [Option.map]; rw [ho p d' (Ne.symm hp)]
theorem mv_fs_set {ad : Nat → Nat} {v : Nat → Int32} {l : List Nat} {k f : Nat} {x : Int32} (h : l[k]? = some f) (hf : f < 2) : (mv_fs ad v 0 l).set k (.int x) = mv_fs ad (upd v k x) 0 l := by
  apply List.ext_getElem?
  intro p
  rw [List.getElem?_set, mv_fs_at, mv_fs_at]
  by_cases hp : k = p
  · subst hp
    have hl : k < (mv_fs ad v 0 l).length := by
      have : (mv_fs ad v 0 l)[k]? = some (mv_f ad (v (0 + k)) f) := by rw [mv_fs_at, h]; rfl
      exact mv_lt this
    rw [if_pos rfl, if_pos hl, h]
    match f, hf with
    | 0, _ => simp [mv_f, upd]
    | 1, _ => simp [mv_f, upd]
  · rw [if_neg hp]
    simp only [Nat.zero_add]
    rw [show upd v k x p = v p from if_neg (Ne.symm hp)]
theorem mv_c_ne {cy : Nat → ClassId} {ad : Nat → Nat} {S S' : mv_S} {p : Nat} (h1 : S'.1 p = S.1 p) (h2 : S'.2.1 p = S.2.1 p) (h3 : S'.2.2 p = S.2.2 p) (d : mv_D) : mv_c cy ad S' p d = mv_c cy ad S p d := by
  match d with
  | .inl (ci, fs) => simp only [mv_c, h1]
  | .inr (0, n) => simp only [mv_c, h2]
  | .inr (1, n) => simp only [mv_c, h2]
  | .inr (_ + 2, n) => simp only [mv_c, h3]
theorem mv_w_pf {cy : Nat → ClassId} {ad : Nat → Nat} {S : mv_S} {lay : List mv_D} {q ci k f : Nat} {fs : List Nat} {x : Int32} (h : lay[q]? = some (.inl (ci, fs))) (hk : fs[k]? = some f) (hf : f < 2) : (mv_w cy ad S 0 lay).set q (ad q, .inr (ci, (mv_fs ad (S.1 q) 0 fs).set k (.int x))) = mv_w cy ad (mv_pf S q k x) 0 lay := by
  refine mv_w_set h ?_ (fun p d hp => mv_c_ne (S' := mv_pf S q k x) (S := S) (va_up_ne _ _ hp) rfl rfl d)
  · rw [mv_fs_set hk hf]
    simp only [mv_c, mv_pf, va_up_self]
theorem mv_w_pr {cy : Nat → ClassId} {ad : Nat → Nat} {S : mv_S} {lay : List mv_D} {q t n k : Nat} {x : Int32} (ht : t < 2) (h : lay[q]? = some (.inr (t, n))) : (mv_w cy ad S 0 lay).set q (ad q, .inl (cy t, n, .inl (upd (S.2.1 q) k x))) = mv_w cy ad (mv_pr S q k x) 0 lay := by
  refine mv_w_set h ?_ (fun p d hp => mv_c_ne (S' := mv_pr S q k x) (S := S) rfl (va_up_ne _ _ hp) rfl d)
  · match t, ht with
    | 0, _ => simp only [mv_c, mv_pr, va_up_self]
    | 1, _ => simp only [mv_c, mv_pr, va_up_self]
theorem mv_w_pl {cy : Nat → ClassId} {ad : Nat → Nat} {S : mv_S} {lay : List mv_D} {q t n k : Nat} {x : Int64} (h : lay[q]? = some (.inr (t + 2, n))) : (mv_w cy ad S 0 lay).set q (ad q, .inl (cy 2, n, .inr (.inl (vp_updL (S.2.2 q) k x)))) = mv_w cy ad (mv_pl S q k x) 0 lay := by
  refine mv_w_set h ?_ (fun p d hp => mv_c_ne (S' := mv_pl S q k x) (S := S) rfl rfl (va_up_ne _ _ hp) d)
  · simp only [mv_c, mv_pl, va_up_self]
theorem mv_k_cat (ad : Nat → Nat) (v : Value) : (mv_k ad v).category = v.category := by cases v <;> rfl
theorem mv_at_mem {α : Type} {i : Nat} {a : α} : ∀ {l : List (Nat × α)}, mv_at i l = some a → (i, a) ∈ l
  | [], h => by simp [mv_at] at h
  | (j, b) :: r, h => by
    simp only [mv_at] at h
    cases hj : Nat.beq j i with
    | true =>
      rw [hj] at h
      have e : j = i := Nat.eq_of_beq_eq_true hj
      simp at h
      subst e; subst h
      exact List.mem_cons_self
    | false =>
      rw [hj] at h
      simp at h
      exact List.mem_cons_of_mem _ (mv_at_mem h)
theorem mv_ks_mem {ad : Nat → Nat} {i : Nat} {v : Value} {lv : List (Nat × Value)} (h : mv_at i lv = some v) : (i, mv_k ad v) ∈ mv_ks ad lv := List.mem_map.mpr ⟨(i, v), mv_at_mem h, rfl⟩
theorem mv_ks_at {ad : Nat → Nat} {ls : Array Slot} {nL i : Nat} {v : Value} {lv : List (Nat × Value)} (hl : lv_has ls nL (mv_ks ad lv)) (h : mv_at i lv = some v) : ls[i]? = some (.val (mv_k ad v)) := hl.2.2 _ (mv_ks_mem h)
theorem mv_ks_sv (ad : Nat → Nat) (i : Nat) (x : Value) (lv : List (Nat × Value)) : (i, mv_k ad x) :: (mv_ks ad lv).filter (fun q => !(q.1 == i) && !(q.1 + 1 == i && q.2.category == 2)) = mv_ks ad (mv_sv i x lv) := by
  simp only [mv_ks, mv_sv, List.map_cons, List.filter_map]
  congr 2
  apply List.filter_congr
  intro q _
  simp only [Function.comp, mv_k_cat]
theorem mv_ks_args (ad : Nat → Nat) : ∀ (a : List Value) (k : Nat), lv_args k (a.map (mv_k ad)) = mv_ks ad (lv_args k a)
  | [], k => rfl
  | v :: r, k => by
    simp only [List.map_cons, lv_args, mv_k_cat, mv_ks]
    rw [mv_ks_args ad r]
    rfl
theorem mv_sl_len (ad : Nat → Nat) : ∀ a : List Value, (lg_sl (a.map (mv_k ad))).length = (lg_sl a).length
  | [] => rfl
  | v :: r => by
    have h := mv_sl_len ad r
    simp only [lg_sl, List.map_cons, List.flatMap_cons, List.length_append, mv_k_cat] at h ⊢
    rw [h]
    by_cases hc : v.category = 2 <;> simp [hc]
theorem mv_cat_k (ad : Nat → Nat) (l : List Value) : (((l.map (mv_k ad)).map fun v => v.category)).sum = mv_cat l := by
  simp only [mv_cat, List.map_map]
  congr 1
  apply List.map_congr_left
  intro v _
  exact mv_k_cat ad v
theorem mv_to_spec {pc : Nat} {off : Int} {k : Nat → Prop} (h : mv_to pc off k) : ∃ t : Nat, (pc : Int) + off = (t : Int) ∧ k t := by
  unfold mv_to at h
  split at h
  · next t e => exact ⟨t, e, h⟩
  · exact h.elim
theorem mv_rng_toInt {c : Int} (h : mv_rng c = true) : (Int32.ofInt c).toInt = c := by
  simp only [mv_rng, Bool.and_eq_true, decide_eq_true_eq] at h
  exact Int32.toInt_ofInt_of_le h.1 (by omega)
end
section
/-! THE SMALL MACHINE IS SOUND: the walk -/
def mv_Ts : List Cond := lw_tbl.filter goodWord
theorem mv_in {w : Cond} (h : w ∈ lw_tbl) (g : goodWord w = true) : w ∈ mv_Ts := List.mem_filter.mpr ⟨h, g⟩
theorem mv_good : ∀ w ∈ mv_Ts, goodWord w = true := fun _ h => (List.mem_filter.mp h).2
/-- a class of the list: its fields' words, types and names -/
def mv_cok (ci : Nat) : Prop := ∃ (C : String) (T : u_T) (N : Nat) (ty : Nat → FieldType), vwCl[ci]? = some (C, T, N) ∧ (∀ w ∈ u_ws C T N, w ∈ mv_Ts) ∧ (∀ k, k < N → parseFieldDescriptor (T k).2.2.1 = some (ty k)) ∧ (∀ a, a < N → ∀ b, b < N → a ≠ b → (T a).2.1 ≠ (T b).2.1)
/-- a field's link -/
def mv_fok (own : String) (i ci k : Nat) : Prop := ∃ (C : String) (T : u_T) (N : Nat), vwCl[ci]? = some (C, T, N) ∧ k < N ∧ Cond.fieldLink own i C (T k).2.1 (T k).2.2.1 ∈ mv_Ts ∧ (T k).1 = C
/-- the shapes' fields are those of their classes -/
def mv_lok (lay : List mv_D) : Prop := ∀ (q ci : Nat) (fs : List Nat), lay[q]? = some (.inl (ci, fs)) → mv_cok ci ∧ ∀ (C : String) (T : u_T) (N : Nat), vwCl[ci]? = some (C, T, N) → fs.length = N ∧ ∀ k f, fs[k]? = some f → (f = 0 → (T k).2.2.2 = false ∧ parseFieldDescriptor (T k).2.2.1 = some .int) ∧ (f = 1 → (T k).2.2.2 = false ∧ parseFieldDescriptor (T k).2.2.1 = some .boolean)
theorem mv_fd_spec {lay : List mv_D} {T : mv_T} {i q ci k f : Nat} (h : mv_fd lay T i q = some (ci, k, f)) : (i, ci, k) ∈ T.1 ∧ ∃ fs, lay[q]? = some (.inl (ci, fs)) ∧ fs[k]? = some f := by
  unfold mv_fd at h
  split at h
  · cases h
  · next cj kj hm =>
    split at h
    · next cq fs hq =>
      cases hb : Nat.beq cq cj with
      | false => rw [hb] at h; simp at h
      | true =>
        rw [hb] at h
        have e : cq = cj := Nat.eq_of_beq_eq_true hb
        subst e
        simp only [cond_true] at h
        split at h
        · next f' hf =>
          cases h
          exact ⟨mv_at_mem hm, fs, hq, hf⟩
        · cases h
    · cases h
theorem mv_iv_spec {lay : List mv_D} {sys : List mv_M} {T : mv_T} {i j : Nat} {st a rest : List Value} (h : mv_iv lay sys T i st = some (j, a, rest)) : (i, j) ∈ T.2.2.2 ∧ ∃ (y : MethodName) (cc : ByteArray) (mL : Nat) (rt : Option FieldType) (np ci : Nat) (T' : mv_T) (il : List (Nat × Instr)) (q : Nat) (fs : List Nat) (As : List Value), sys[j]? = some (y, cc, mL, rt, np, some ci, T', il) ∧ lay[q]? = some (.inl (ci, fs)) ∧ As.length = np ∧ a = .ref q :: As ∧ st = As.reverse ++ .ref q :: rest ∧ mv_cat rest ≤ 8 := by
  unfold mv_iv at h
  split at h
  · cases h
  · next j' hm =>
    split at h
    · next y cc mL rt np ci T' il hs =>
      split at h
      · next q rs hd =>
        split at h
        · next cj fs hq =>
          cases hb : (Nat.beq cj ci && Nat.beq (st.take np).length np && Nat.ble (mv_cat rs) 8) with
          | false => rw [hb] at h; simp at h
          | true =>
            rw [hb] at h
            simp only [cond_true] at h
            cases h
            simp only [Bool.and_eq_true] at hb
            obtain ⟨⟨h1, h2⟩, h3⟩ := hb
            have e1 : cj = ci := Nat.eq_of_beq_eq_true h1
            have e2 : (st.take np).length = np := Nat.eq_of_beq_eq_true h2
            subst e1
            refine ⟨mv_at_mem hm, y, cc, mL, rt, np, cj, T', il, q, fs, (st.take np).reverse, hs, hq, by rw [List.length_reverse]; exact e2, rfl, ?_, Nat.le_of_ble_eq_true h3⟩
            rw [List.reverse_reverse, ← hd, List.take_append_drop]
        · cases h
      · cases h
    · cases h
theorem mv_is_spec {sys : List mv_M} {T : mv_T} {i j : Nat} {st a rest : List Value} (h : mv_is sys T i st = some (j, a, rest)) : (i, j) ∈ T.2.2.2 ∧ ∃ (y : MethodName) (cc : ByteArray) (mL : Nat) (rt : Option FieldType) (np : Nat) (T' : mv_T) (il : List (Nat × Instr)), sys[j]? = some (y, cc, mL, rt, np, none, T', il) ∧ a.length = np ∧ st = a.reverse ++ rest ∧ mv_cat rest ≤ 8 := by
  unfold mv_is at h
  split at h
  · cases h
  · next j' hm =>
    split at h
    · next y cc mL rt np T' il hs =>
      cases hb : (Nat.beq (st.take np).length np && Nat.ble (mv_cat (st.drop np)) 8) with
      | false => rw [hb] at h; simp at h
      | true =>
        rw [hb] at h
        simp only [cond_true] at h
        cases h
        simp only [Bool.and_eq_true] at hb
        obtain ⟨h2, h3⟩ := hb
        have e2 : (st.take np).length = np := Nat.eq_of_beq_eq_true h2
        exact ⟨mv_at_mem hm, y, cc, mL, rt, np, T', il, hs, by rw [List.length_reverse]; exact e2, by rw [List.reverse_reverse, List.take_append_drop], Nat.le_of_ble_eq_true h3⟩
    · cases h
theorem mv_nar {x : Int32} (h : x = 0 ∨ x = 1) : vp_nar .boolean x = x ∧ narrow .boolean (.int x) = .int x ∧ fits .boolean (.int x) = true := by
  rcases h with rfl | rfl <;> exact ⟨by decide, by decide, by decide⟩
section MV
variable {p : Program} {l : Launch} {e : Env} {R : Room} {s : State} {m : MethodId} {args : Array Value} {below : List Frame} {meth : Method} {c : Code} {cells slots : Nat} {Q : State → Prop}
variable {cc : ByteArray} {D : va_G} {cy : Nat → ClassId} {ad : Nat → Nat} {A : Nat → Prop} {lay : List mv_D} {own : String} {T : mv_T} {nL : Nat}
/-- what a world is: the store's cells on the heap, apart, nothing else changed since the start -/
def mv_W (D : va_G) (cy : Nat → ClassId) (ad : Nat → Nat) (A : Nat → Prop) (lay : List mv_D) (s : State) (S : mv_S) (H : Heap) (locs : List Loc) : Prop := va_P D vwCl (mv_w cy ad S 0 lay) H ∧ va_D A (mv_w cy ad S 0 lay) ∧ va_S A s.heap H locs
theorem mv_sws {pc : Nat} {ls : Array Slot} {rest : List Value} {x : Int32} {H : Heap} {locs : List Loc} {K : Nat → Prop} (hexec : p.tables.exec = Jvm.exec) (hb : c.code = cc) {d : Int} {ps : Array (Int × Int)} {len : Nat} (hdg : decode cc pc = .ok (.lookupswitch d ps, len))
    (hp : (ps.toList.zip (ps.toList.drop 1)).all (fun (a, next) => a.1 < next.1) = true) (hr : ps.toList.all (fun q => mv_rng q.1) = true) (hK : ∀ t, K t → W p l e R s m args below meth c H locs cells slots Q (F0 m t ls rest)) (h : mv_sw pc x d K ps.toList) : W p l e R s m args below meth c H locs cells slots Q (F0 m pc ls (.int x :: rest)) := by
  have key : ∀ r : List (Int × Int), r.all (fun q => mv_rng q.1) = true → mv_sw pc x d K r → ∃ (off : Int) (t : Nat), Op.lookupswitch.offset r d x.toInt = off ∧ (pc : Int) + off = (t : Int) ∧ K t := by
    intro r
    induction r with
    | nil =>
      intro _ h
      obtain ⟨t, e1, e2⟩ := mv_to_spec h
      exact ⟨d, t, rfl, e1, e2⟩
    | cons q r ih =>
      obtain ⟨cq, oq⟩ := q
      intro ha h
      simp only [List.all_cons, Bool.and_eq_true] at ha
      by_cases hx : x = Int32.ofInt cq
      · obtain ⟨t, e1, e2⟩ := mv_to_spec (h.1 hx)
        refine ⟨oq, t, ?_, e1, e2⟩
        have hi : x.toInt = cq := by rw [hx]; exact mv_rng_toInt ha.1
        simp [Op.lookupswitch.offset, hi]
      · obtain ⟨off, t, e1, e2, e3⟩ := ih ha.2 (h.2 hx)
        refine ⟨off, t, ?_, e2, e3⟩
        rw [← e1]
        exact lv_osw hx (mv_rng_toInt ha.1)
  obtain ⟨off, t, e1, e2, e3⟩ := key _ hr h
  exact lv_lookup hexec hb hdg hp e1 e2 (hK t e3)
theorem mv_swt {pc : Nat} {ls : Array Slot} {rest : List Value} {x : Int32} {H : Heap} {locs : List Loc} {K : Nat → Prop} (hexec : p.tables.exec = Jvm.exec) (hb : c.code = cc) {d lo hi : Int} {offs : Array Int} {len : Nat} (hdg : decode cc pc = .ok (.tableswitch d lo hi offs, len))
    (hh : hi + 1 = lo + offs.size) (h1 : mv_rng lo = true) (h2 : mv_rng hi = true) (hK : ∀ t, K t → W p l e R s m args below meth c H locs cells slots Q (F0 m t ls rest)) (h : mv_sw pc x d K (mv_tb lo offs.toList)) : W p l e R s m args below meth c H locs cells slots Q (F0 m pc ls (.int x :: rest)) := by
  have b1 : -2147483648 ≤ lo := by simp only [mv_rng, Bool.and_eq_true, decide_eq_true_eq] at h1; exact h1.1
  have b2 : hi < 2147483648 := by simp only [mv_rng, Bool.and_eq_true, decide_eq_true_eq] at h2; exact h2.2
  have key : ∀ (r : List Int) (c0 : Int), -2147483648 ≤ c0 → c0 + r.length ≤ 2147483648 → mv_sw pc x d K (mv_tb c0 r) → (∃ (j : Nat) (o : Int) (t : Nat), r[j]? = some o ∧ x.toInt = c0 + j ∧ (pc : Int) + o = (t : Int) ∧ K t) ∨ ((x.toInt < c0 ∨ c0 + r.length ≤ x.toInt) ∧ ∃ t : Nat, (pc : Int) + d = (t : Int) ∧ K t) := by
    intro r
    induction r with
    | nil =>
      intro c0 _ _ h
      obtain ⟨t, e1, e2⟩ := mv_to_spec h
      exact Or.inr ⟨by simp only [List.length_nil]; omega, t, e1, e2⟩
    | cons o r ih =>
      intro c0 hl hu h
      simp only [List.length_cons] at hu
      have hr : mv_rng c0 = true := by
        simp only [mv_rng, Bool.and_eq_true, decide_eq_true_eq]
        omega
      by_cases hx : x = Int32.ofInt c0
      · obtain ⟨t, e1, e2⟩ := mv_to_spec (h.1 hx)
        refine Or.inl ⟨0, o, t, rfl, ?_, e1, e2⟩
        rw [hx, mv_rng_toInt hr]; simp
      · have hne : ¬ x.toInt = c0 := fun q => hx (by rw [← q, Int32.ofInt_toInt])
        rcases ih (c0 + 1) (by omega) (by omega) (h.2 hx) with ⟨j, o', t, e1, e2, e3, e4⟩ | ⟨e1, t, e2, e3⟩
        · exact Or.inl ⟨j + 1, o', t, by simpa using e1, by rw [e2]; omega, e3, e4⟩
        · exact Or.inr ⟨by simp only [List.length_cons]; omega, t, e2, e3⟩
  have hlen : (offs.toList.length : Int) = offs.size := by simp
  rcases key offs.toList lo b1 (by rw [hlen]; omega) h with ⟨j, o, t, e1, e2, e3, e4⟩ | ⟨e1, t, e2, e3⟩
  · have hj : j < offs.toList.length := mv_lt e1
    refine lv_tableIn hexec hb hdg (by omega) (by have : (j : Int) < offs.toList.length := by exact_mod_cast hj
                                                  rw [hlen] at this; omega) (off := o) ?_ e3 (hK t e4)
    rw [show (x.toInt - lo).toNat = j by omega, ← Array.getElem?_toList]
    exact e1
  · exact lv_tableOut hexec hb hdg (by rw [hlen] at e1; omega) e2 (hK t e3)
end MV
end
section
/-! THE SMALL MACHINE IS SOUND: every instruction -/
theorem mv_bif {b : Bool} {X : Prop} (h : bif b then X else False) : b = true ∧ X := by cases b <;> simp_all
section MVW
variable {p : Program} {l : Launch} {e : Env} {R : Room} {s : State} {m : MethodId} {args : Array Value} {below : List Frame} {meth : Method} {c : Code} {Q : State → Prop}
variable {cc : ByteArray} {D : va_G} {cy : Nat → ClassId} {ad : Nat → Nat} {A : Nat → Prop} {lay : List mv_D} {sys : List mv_M} {own : String} {T : mv_T} {nL : Nat} {Call : mv_Call} {P : Option Value → mv_S → Prop}
/-- what a method's links must be -/
def mv_Tok (own : String) (T : mv_T) : Prop := (∀ i ci k, (i, ci, k) ∈ T.1 → mv_fok own i ci k) ∧ (∀ i v, (i, v) ∈ T.2.1 → Cond.constant own i v ∈ mv_Ts) ∧ (∀ i v, (i, v) ∈ T.2.2.1 → Cond.constantLong own i v ∈ mv_Ts)
/-- a call's row -/
def mv_Row (p : Program) (l : Launch) (e : Env) (R : Room) (s : State) (m : MethodId) (args : Array Value) (below : List Frame) (meth : Method) (c : Code) (Q : State → Prop) (D : va_G) (cy : Nat → ClassId) (ad : Nat → Nat) (A : Nat → Prop) (lay : List mv_D) (nL : Nat) (Call : mv_Call) (pc : Nat) (st : List Value) (j : Nat) (a rest : List Value) : Prop :=
  ∀ (S : mv_S) (P' : Option Value → mv_S → Prop) (H : Heap) (locs : List Loc) (ls : Array Slot), Call j a S P' → mv_W D cy ad A lay s S H locs → ls.size = nL →
    (∀ (r : Option Value) (S' : mv_S) (H' : Heap) (locs' : List Loc), P' r S' → mv_W D cy ad A lay s S' H' locs' → W p l e R s m args below meth c H' locs' 0 0 Q (F0 m (pc + 3) ls ((r.toList ++ rest).map (mv_k ad)))) →
    W p l e R s m args below meth c H locs 0 0 Q (F0 m pc ls (st.map (mv_k ad)))
theorem mv_get1 {S : mv_S} {H : Heap} {locs : List Loc} {pc i q ci k f : Nat} {ls : Array Slot} {rest : List Value} {v : Value} (hx : p.tables.exec = Jvm.exec) (hb : c.code = cc) (hown : s.vm.findClass own = some m.cls) (hts : ∀ w ∈ mv_Ts, w.before args s = true) (hK : va_K D vwCl (mv_tys cy) s) (hlay : mv_lok lay) (hT : mv_Tok own T)
    (hd : decode cc pc = .ok (.getfield i, 3)) (hf : mv_fd lay T i q = some (ci, k, f)) (hv : mv_f ad (S.1 q k) f = v) (hW : mv_W D cy ad A lay s S H locs) (kk : W p l e R s m args below meth c H locs 0 0 Q (F0 m (pc + 3) ls (v :: rest))) : W p l e R s m args below meth c H locs 0 0 Q (F0 m pc ls (.ref (ad q) :: rest)) := by
  obtain ⟨hm, fs, hq, hk⟩ := mv_fd_spec hf
  obtain ⟨C, Tt, N, hc, hkN, hlink, hC⟩ := hT.1 _ _ _ hm
  obtain ⟨⟨C', T', N', ty, hc', hin, hty, hnm⟩, hfs⟩ := hlay q ci fs hq
  have he : (C', T', N') = (C, Tt, N) := Option.some.inj (hc'.symm.trans hc)
  cases he
  refine va_get (D := D) (cl := vwCl) (tys := mv_tys cy) (ci := ci) (fs := mv_fs ad (S.1 q) 0 fs) hx hb hts hin hown hK hW.1 q (mv_w_get hq) hc k hkN (hts _ hlink) (fun x hxx => by rw [hC] at hxx; exact hxx) (v := v) ?_ hd kk
  rw [mv_fs_at, hk, Nat.zero_add, ← hv]; rfl
theorem mv_put1 {S : mv_S} {H : Heap} {locs : List Loc} {pc i q ci k f : Nat} {ls : Array Slot} {rest : List Value} {x : Int32} (hx : p.tables.exec = Jvm.exec) (hb : c.code = cc) (hown : s.vm.findClass own = some m.cls) (hts : ∀ w ∈ mv_Ts, w.before args s = true) (hK : va_K D vwCl (mv_tys cy) s) (hlay : mv_lok lay) (hT : mv_Tok own T)
    (hd : decode cc pc = .ok (.putfield i, 3)) (hf : mv_fd lay T i q = some (ci, k, f)) (hv : f = 0 ∨ (f = 1 ∧ (x = 0 ∨ x = 1))) (hW : mv_W D cy ad A lay s S H locs) (kk : ∀ (H1 : Heap) (locs1 : List Loc), mv_W D cy ad A lay s (mv_pf S q k x) H1 locs1 → W p l e R s m args below meth c H1 locs1 0 0 Q (F0 m (pc + 3) ls rest)) : W p l e R s m args below meth c H locs 0 0 Q (F0 m pc ls (.int x :: .ref (ad q) :: rest)) := by
  obtain ⟨hm, fs, hq, hk⟩ := mv_fd_spec hf
  obtain ⟨C, Tt, N, hc, hkN, hlink, hC⟩ := hT.1 _ _ _ hm
  obtain ⟨⟨C', T', N', ty, hc', hin, hty, hnm⟩, hfs⟩ := hlay q ci fs hq
  have he : (C', T', N') = (C, Tt, N) := Option.some.inj (hc'.symm.trans hc)
  cases he
  have hf2 : f < 2 := by rcases hv with h | h <;> omega
  obtain ⟨g0, g1⟩ := (hfs _ _ _ hc).2 k f hk
  have hl : k < (mv_fs ad (S.1 q) 0 fs).length := by
    have : (mv_fs ad (S.1 q) 0 fs)[k]? = some (mv_f ad (S.1 q (0 + k)) f) := by rw [mv_fs_at, hk]; rfl
    exact mv_lt this
  obtain ⟨ty1, hfin, hp, hn, hft⟩ : ∃ ty1 : FieldType, (Tt k).2.2.2 = false ∧ parseFieldDescriptor (Tt k).2.2.1 = some ty1 ∧ narrow ty1 (.int x) = .int x ∧ fits ty1 (.int x) = true := by
    rcases hv with h | ⟨h, h2⟩
    · exact ⟨.int, (g0 h).1, (g0 h).2, rfl, rfl⟩
    · exact ⟨.boolean, (g1 h).1, (g1 h).2, (mv_nar h2).2.1, (mv_nar h2).2.2⟩
  refine va_put (D := D) (cl := vwCl) (tys := mv_tys cy) (ci := ci) (fs := mv_fs ad (S.1 q) 0 fs) hx hb hts hin ty hty hnm hown hK hW.1 hW.2.1 hW.2.2 q (mv_w_get hq) hc k hkN (hts _ hlink) (fun x hxx => by rw [hC] at hxx; exact hxx) hfin hp hn hft hl hd (fun H1 locs1 hP1 hD1 hS1 => kk H1 locs1 ?_)
  rw [mv_w_pf hq hk hf2] at hP1 hD1
  exact ⟨hP1, hD1, hS1⟩
set_option maxHeartbeats 4000000 in
theorem mv_snd {Qc : Array Value → State → Outcome → State → Prop} {z : Option FieldType} {il : List (Nat × Instr)} (hx : p.tables.exec = Jvm.exec) (hb : c.code = cc) (hown : s.vm.findClass own = some m.cls) (hr : meth.sig.returnType = z) (hlocks : meth.locks = false) (hts : ∀ w ∈ mv_Ts, w.before args s = true) (hK : va_K D vwCl (mv_tys cy) s) (hlay : mv_lok lay) (hT : mv_Tok own T)
    (hdec : ∀ q ∈ il, decode cc q.1 = .ok (q.2, mv_len q.1 q.2))
    (hQ : ∀ (r : Option Value) (S' : mv_S) (H : Heap) (locs : List Loc) (t : State), P r S' → mv_W D cy ad A lay s S' H locs → t.heap = H → s.WarmedH t.vm → Qc args s (.returned (r.map (mv_k ad))) t)
    (hV : ∀ (pc i : Nat) (st : List Value) (j : Nat) (a rest : List Value), decode cc pc = .ok (.invokevirtual i, 3) → mv_iv lay sys T i st = some (j, a, rest) → mv_Row p l e R s m args below meth c (MQ below Qc args s 0 0 A) D cy ad A lay nL Call pc st j a rest)
    (hI : ∀ (pc i : Nat) (st : List Value) (j : Nat) (a rest : List Value), decode cc pc = .ok (.invokestatic i, 3) → mv_is sys T i st = some (j, a, rest) → mv_Row p l e R s m args below meth c (MQ below Qc args s 0 0 A) D cy ad A lay nL Call pc st j a rest) :
    ∀ (n pc : Nat) (lv : List (Nat × Value)) (st : List Value) (S : mv_S), mv_wp lay sys T nL z il Call P n pc lv st S → ∀ (H : Heap) (locs : List Loc) (ls : Array Slot), mv_W D cy ad A lay s S H locs → lv_has ls nL (mv_ks ad lv) → W p l e R s m args below meth c H locs 0 0 (MQ below Qc args s 0 0 A) (F0 m pc ls (st.map (mv_k ad))) := by
  intro n
  induction n with
  | zero => intro pc lv st S h; exact h.elim
  | succ n ih =>
    intro pc lv st S h H locs ls hW hl
    unfold mv_wp at h
    split at h
    · exact h.elim
    next i hm =>
    have hd := hdec _ (mv_at_mem hm)
    dsimp only at hd
    cases i
    case iconst n => exact lv_iconst hx hb hd rfl (ih _ _ _ _ h _ _ _ hW hl)
    case bipush n => exact lv_bipush hx hb hd rfl (ih _ _ _ _ h _ _ _ hW hl)
    case sipush n => exact lv_sipush hx hb hd rfl (ih _ _ _ _ h _ _ _ hW hl)
    case lconst n => exact lv_lconst hx hb hd rfl (ih _ _ _ _ h _ _ _ hW hl)
    case iload_n k =>
      dsimp only [mv_do] at h
      split at h
      · next x hm2 => exact lv_iload_n hx hb hd rfl (mv_ks_at hl hm2) (ih _ _ _ _ h _ _ _ hW hl)
      · exact h.elim
    case iload k =>
      dsimp only [mv_do] at h
      split at h
      · next x hm2 => exact lv_iload hx hb hd (mv_ks_at hl hm2) (ih _ _ _ _ h _ _ _ hW hl)
      · exact h.elim
    case aload_n k =>
      dsimp only [mv_do] at h
      split at h
      · next x hm2 => exact lv_aload_n hx hb hd rfl (mv_ks_at hl hm2) (ih _ _ _ _ h _ _ _ hW hl)
      · exact h.elim
    case aload k =>
      dsimp only [mv_do] at h
      split at h
      · next x hm2 => exact lv_aload hx hb hd (mv_ks_at hl hm2) (ih _ _ _ _ h _ _ _ hW hl)
      · exact h.elim
    case lload_n k =>
      dsimp only [mv_do] at h
      split at h
      · next x hm2 => exact lv_lload_n hx hb hd rfl (mv_ks_at hl hm2) (ih _ _ _ _ h _ _ _ hW hl)
      · exact h.elim
    case istore_n k =>
      dsimp only [mv_do] at h
      split at h
      · next x r =>
        obtain ⟨hk, h⟩ := mv_bif h
        exact lv_istore_n hx hb hd rfl hl (Nat.le_of_ble_eq_true hk) (mv_ks_sv ad _ (.int x) lv) (fun ls' hl' => ih _ _ _ _ h _ _ _ hW hl')
      · exact h.elim
    case istore k =>
      dsimp only [mv_do] at h
      split at h
      · next x r =>
        obtain ⟨hk, h⟩ := mv_bif h
        exact lv_istore hx hb hd hl (Nat.le_of_ble_eq_true hk) (mv_ks_sv ad _ (.int x) lv) (fun ls' hl' => ih _ _ _ _ h _ _ _ hW hl')
      · exact h.elim
    case astore_n k =>
      dsimp only [mv_do] at h
      split at h
      · next x r =>
        obtain ⟨hk, h⟩ := mv_bif h
        exact lv_astore_n hx hb hd rfl hl (Nat.le_of_ble_eq_true hk) (mv_ks_sv ad _ (.ref x) lv) (fun ls' hl' => ih _ _ _ _ h _ _ _ hW hl')
      · exact h.elim
    case astore k =>
      dsimp only [mv_do] at h
      split at h
      · next x r =>
        obtain ⟨hk, h⟩ := mv_bif h
        exact lv_astore hx hb hd hl (Nat.le_of_ble_eq_true hk) (mv_ks_sv ad _ (.ref x) lv) (fun ls' hl' => ih _ _ _ _ h _ _ _ hW hl')
      · exact h.elim
    case iinc k n =>
      dsimp only [mv_do] at h
      split at h
      · next x hm2 =>
        obtain ⟨hk, h⟩ := mv_bif h
        obtain ⟨kk, hkk⟩ := List.getElem?_of_mem (mv_ks_mem (ad := ad) hm2)
        exact lv_iinc hx hb hd hl hkk rfl (Nat.le_of_ble_eq_true hk) (mv_ks_sv ad _ (.int (x + Int32.ofInt n)) lv) (fun ls' hl' => ih _ _ _ _ h _ _ _ hW hl')
      · exact h.elim
    case iadd =>
      dsimp only [mv_do] at h
      split at h
      · exact lv_iadd hx hb hd (ih _ _ _ _ h _ _ _ hW hl)
      · exact h.elim
    case isub =>
      dsimp only [mv_do] at h
      split at h
      · exact lv_isub hx hb hd (ih _ _ _ _ h _ _ _ hW hl)
      · exact h.elim
    case imul =>
      dsimp only [mv_do] at h
      split at h
      · exact lv_imul hx hb hd (ih _ _ _ _ h _ _ _ hW hl)
      · exact h.elim
    case iand =>
      dsimp only [mv_do] at h
      split at h
      · exact lv_iand hx hb hd (ih _ _ _ _ h _ _ _ hW hl)
      · exact h.elim
    case ixor =>
      dsimp only [mv_do] at h
      split at h
      · exact lv_ixor hx hb hd (ih _ _ _ _ h _ _ _ hW hl)
      · exact h.elim
    case idiv =>
      dsimp only [mv_do] at h
      split at h
      · exact lv_idiv hx hb hd h.1 (ih _ _ _ _ h.2 _ _ _ hW hl)
      · exact h.elim
    case irem =>
      dsimp only [mv_do] at h
      split at h
      · exact lv_irem hx hb hd h.1 (ih _ _ _ _ h.2 _ _ _ hW hl)
      · exact h.elim
    case ineg =>
      dsimp only [mv_do] at h
      split at h
      · exact lv_ineg hx hb hd (ih _ _ _ _ h _ _ _ hW hl)
      · exact h.elim
    case iushr =>
      dsimp only [mv_do] at h
      split at h
      · exact lv_iushr hx hb hd rfl (ih _ _ _ _ h _ _ _ hW hl)
      · exact h.elim
    case i2l =>
      dsimp only [mv_do] at h
      split at h
      · exact lv_i2l hx hb hd rfl (ih _ _ _ _ h _ _ _ hW hl)
      · exact h.elim
    case ladd =>
      dsimp only [mv_do] at h
      split at h
      · exact lv_ladd hx hb hd (ih _ _ _ _ h _ _ _ hW hl)
      · exact h.elim
    case lcmp =>
      dsimp only [mv_do] at h
      split at h
      · exact W.lcmp hx hb hd (ih _ _ _ _ h _ _ _ hW hl)
      · exact h.elim
    case dup =>
      dsimp only [mv_do] at h
      split at h
      · exact lv_dup hx hb hd rfl (ih _ _ _ _ h _ _ _ hW hl)
      · exact lv_dup hx hb hd rfl (ih _ _ _ _ h _ _ _ hW hl)
      · exact h.elim
    case pop =>
      dsimp only [mv_do] at h
      split at h
      · exact lv_pop hx hb hd rfl (ih _ _ _ _ h _ _ _ hW hl)
      · exact lv_pop hx hb hd rfl (ih _ _ _ _ h _ _ _ hW hl)
      · exact h.elim
    case ldc k =>
      dsimp only [mv_do] at h
      split at h
      · next x hm2 => exact lv_ldc hx hb hown (hts _ (hT.2.1 _ _ (mv_at_mem hm2))) hd (ih _ _ _ _ h _ _ _ hW hl)
      · exact h.elim
    case ldc_w k =>
      dsimp only [mv_do] at h
      split at h
      · next x hm2 => exact lv_ldcw hx hb hown (hts _ (hT.2.1 _ _ (mv_at_mem hm2))) hd (ih _ _ _ _ h _ _ _ hW hl)
      · exact h.elim
    case ldc2_w k =>
      dsimp only [mv_do] at h
      split at h
      · next x hm2 => exact lv_ldc2 hx hb hown (hts _ (hT.2.2 _ _ (mv_at_mem hm2))) hd (ih _ _ _ _ h _ _ _ hW hl)
      · exact h.elim
    case goto off =>
      obtain ⟨t, e1, h⟩ := mv_to_spec h
      exact lv_goto hx hb hd e1 (ih _ _ _ _ h _ _ _ hW hl)
    case ifCond cd off =>
      dsimp only [mv_do] at h
      split at h
      · obtain ⟨t, e1, h1, h2⟩ := mv_to_spec h
        cases cd
        case eq => exact lv_if_eq hx hb hd e1 (fun h => ih _ _ _ _ (h1 h) _ _ _ hW hl) (fun h => ih _ _ _ _ (h2 h) _ _ _ hW hl)
        case ne => exact lv_if_ne hx hb hd e1 (fun h => ih _ _ _ _ (h1 h) _ _ _ hW hl) (fun h => ih _ _ _ _ (h2 h) _ _ _ hW hl)
        case lt => exact lv_if_lt hx hb hd e1 (fun h => ih _ _ _ _ (h1 h) _ _ _ hW hl) (fun h => ih _ _ _ _ (h2 h) _ _ _ hW hl)
        case ge => exact lv_if_ge hx hb hd e1 (fun h => ih _ _ _ _ (h1 h) _ _ _ hW hl) (fun h => ih _ _ _ _ (h2 h) _ _ _ hW hl)
        case gt => exact lv_if_gt hx hb hd e1 (fun h => ih _ _ _ _ (h1 h) _ _ _ hW hl) (fun h => ih _ _ _ _ (h2 h) _ _ _ hW hl)
        case le => exact lv_if_le hx hb hd e1 (fun h => ih _ _ _ _ (h1 h) _ _ _ hW hl) (fun h => ih _ _ _ _ (h2 h) _ _ _ hW hl)
      · exact h.elim
    case if_icmp cd off =>
      dsimp only [mv_do] at h
      split at h
      · obtain ⟨t, e1, h1, h2⟩ := mv_to_spec h
        cases cd
        case eq => exact lv_icmp_eq hx hb hd e1 (fun h => ih _ _ _ _ (h1 h) _ _ _ hW hl) (fun h => ih _ _ _ _ (h2 h) _ _ _ hW hl)
        case ne => exact lv_icmp_ne hx hb hd e1 (fun h => ih _ _ _ _ (h1 h) _ _ _ hW hl) (fun h => ih _ _ _ _ (h2 h) _ _ _ hW hl)
        case lt => exact lv_icmp_lt hx hb hd e1 (fun h => ih _ _ _ _ (h1 h) _ _ _ hW hl) (fun h => ih _ _ _ _ (h2 h) _ _ _ hW hl)
        case ge => exact lv_icmp_ge hx hb hd e1 (fun h => ih _ _ _ _ (h1 h) _ _ _ hW hl) (fun h => ih _ _ _ _ (h2 h) _ _ _ hW hl)
        case gt => exact lv_icmp_gt hx hb hd e1 (fun h => ih _ _ _ _ (h1 h) _ _ _ hW hl) (fun h => ih _ _ _ _ (h2 h) _ _ _ hW hl)
        case le => exact lv_icmp_le hx hb hd e1 (fun h => ih _ _ _ _ (h1 h) _ _ _ hW hl) (fun h => ih _ _ _ _ (h2 h) _ _ _ hW hl)
      · exact h.elim
    case tableswitch d lo hi offs =>
      dsimp only [mv_do] at h
      split at h
      · obtain ⟨hk, h⟩ := mv_bif h
        simp only [Bool.and_eq_true, decide_eq_true_eq] at hk
        exact mv_swt hx hb hd hk.1.1 hk.1.2 hk.2 (fun t h => ih _ _ _ _ h _ _ _ hW hl) h
      · exact h.elim
    case lookupswitch d ps =>
      dsimp only [mv_do] at h
      split at h
      · obtain ⟨hk, h⟩ := mv_bif h
        simp only [Bool.and_eq_true] at hk
        exact mv_sws hx hb hd hk.1 hk.2 (fun t h => ih _ _ _ _ h _ _ _ hW hl) h
      · exact h.elim
    case getfield k =>
      dsimp only [mv_do] at h
      split at h
      · split at h
        · next hf => exact mv_get1 hx hb hown hts hK hlay hT hd hf rfl hW (ih _ _ _ _ h _ _ _ hW hl)
        · next hf => exact mv_get1 hx hb hown hts hK hlay hT hd hf rfl hW (ih _ _ _ _ h _ _ _ hW hl)
        · next hf => exact mv_get1 hx hb hown hts hK hlay hT hd hf rfl hW (ih _ _ _ _ h _ _ _ hW hl)
        · exact h.elim
      · exact h.elim
    case putfield k =>
      dsimp only [mv_do] at h
      split at h
      · split at h
        · next hf => exact mv_put1 hx hb hown hts hK hlay hT hd hf (Or.inl rfl) hW (fun H1 locs1 hW1 => ih _ _ _ _ h _ _ _ hW1 hl)
        · next hf => exact mv_put1 hx hb hown hts hK hlay hT hd hf (Or.inr ⟨rfl, h.1⟩) hW (fun H1 locs1 hW1 => ih _ _ _ _ h.2 _ _ _ hW1 hl)
        · exact h.elim
      · exact h.elim
    case iaload =>
      dsimp only [mv_do] at h
      split at h
      · split at h
        · next hq => exact va_iald (tys := mv_tys cy) hx hb hK hW.1 _ 0 (mv_w_get hq) rfl h.1 hd (ih _ _ _ _ h.2 _ _ _ hW hl)
        · exact h.elim
      · exact h.elim
    case baload =>
      dsimp only [mv_do] at h
      split at h
      · split at h
        · next hq => exact va_zald (tys := mv_tys cy) hx hb hK hW.1 _ 1 (mv_w_get hq) rfl h.1 hd (ih _ _ _ _ h.2 _ _ _ hW hl)
        · exact h.elim
      · exact h.elim
    case laload =>
      dsimp only [mv_do] at h
      split at h
      · split at h
        · next hq => exact va_lald (tys := mv_tys cy) hx hb hK hW.1 _ 2 (mv_w_get hq) rfl h.1 hd (ih _ _ _ _ h.2 _ _ _ hW hl)
        · exact h.elim
      · exact h.elim
    case iastore =>
      dsimp only [mv_do] at h
      split at h
      · split at h
        · next hq =>
          refine va_iast (tys := mv_tys cy) hx hb hK hW.1 hW.2.1 hW.2.2 _ 0 (mv_w_get hq) rfl h.1 hd (fun H1 locs1 hP1 hD1 hS1 => ih _ _ _ _ h.2 H1 locs1 _ ?_ hl)
          rw [mv_w_pr (by decide) hq] at hP1 hD1
          exact ⟨hP1, hD1, hS1⟩
        · exact h.elim
      · exact h.elim
    case bastore =>
      dsimp only [mv_do] at h
      split at h
      · split at h
        · next hq =>
          refine va_zast (tys := mv_tys cy) hx hb hK hW.1 hW.2.1 hW.2.2 _ 1 (mv_w_get hq) rfl h.2.1 hd (fun H1 locs1 hP1 hD1 hS1 => ih _ _ _ _ h.2.2 H1 locs1 _ ?_ hl)
          rw [(mv_nar h.1).1, mv_w_pr (by decide) hq] at hP1 hD1
          exact ⟨hP1, hD1, hS1⟩
        · exact h.elim
      · exact h.elim
    case lastore =>
      dsimp only [mv_do] at h
      split at h
      · split at h
        · next hq =>
          refine va_last (tys := mv_tys cy) hx hb hK hW.1 hW.2.1 hW.2.2 _ 2 (mv_w_get hq) rfl h.1 hd (fun H1 locs1 hP1 hD1 hS1 => ih _ _ _ _ h.2 H1 locs1 _ ?_ hl)
          rw [mv_w_pl hq] at hP1 hD1
          exact ⟨hP1, hD1, hS1⟩
        · exact h.elim
      · exact h.elim
    case arraylength =>
      dsimp only [mv_do] at h
      split at h
      · split at h
        · next hq => exact va_alen (tys := mv_tys cy) hx hb hK hW.1 _ 0 (mv_w_get hq) rfl rfl hd (ih _ _ _ _ h _ _ _ hW hl)
        · next hq => exact va_alen (tys := mv_tys cy) hx hb hK hW.1 _ 1 (mv_w_get hq) rfl rfl hd (ih _ _ _ _ h _ _ _ hW hl)
        · next hq => exact va_alen (tys := mv_tys cy) hx hb hK hW.1 _ 2 (mv_w_get hq) rfl rfl hd (ih _ _ _ _ h _ _ _ hW hl)
        · exact h.elim
      · exact h.elim
    case invokevirtual k =>
      dsimp only [mv_do] at h
      split at h
      · next hi => exact hV _ _ _ _ _ _ hd hi _ _ _ _ _ h hW hl.1 (fun r S' H' locs' h' hW' => ih _ _ _ _ h' _ _ _ hW' hl)
      · exact h.elim
    case invokestatic k =>
      dsimp only [mv_do] at h
      split at h
      · next hi => exact hI _ _ _ _ _ _ hd hi _ _ _ _ _ h hW hl.1 (fun r S' H' locs' h' hW' => ih _ _ _ _ h' _ _ _ hW' hl)
      · exact h.elim
    case ireturn =>
      dsimp only [mv_do] at h
      split at h
      · next x =>
        split at h
        · exact W.iret (Qc := Qc) hx hb hr (fun t ht hw => hQ (some (.int x)) S H locs t h hW ht hw) hW.2.2.2.2 hd
        · exact W.zret (Qc := Qc) hx hb hr (mv_nar h.1).2.1 (fun t ht hw => hQ (some (.int x)) S H locs t h.2 hW ht hw) hW.2.2.2.2 hd
        · exact h.elim
      · exact h.elim
    case lreturn =>
      dsimp only [mv_do] at h
      split at h
      · next x =>
        split at h
        · exact W.lret (Qc := Qc) hx hb hr (fun t ht hw => hQ (some (.long x)) S H locs t h hW ht hw) hW.2.2.2.2 hd
        · exact h.elim
      · exact h.elim
    case return_ =>
      dsimp only [mv_do] at h
      split at h
      · split at h
        · exact W.vret (Qc := Qc) hx hb hr (fun t ht hw => hQ none S H locs t h hW ht hw) hW.2.2.2.2 hd
        · exact h.elim
      · exact h.elim
    all_goals exact False.elim h
end MVW
end
section
/-! THE SMALL MACHINE IS SOUND: methods, calls, levels -/
def mv_rm (d : Nat) : Room := { frames := d, cells := 0, slots := 0, locals := 40 * d }
/-- a contract's start and end, over the store -/
def mv_Pc (D : va_G) (cy : Nat → ClassId) (ad : Nat → Nat) (A : Nat → Prop) (lay : List mv_D) (a : List Value) (S : mv_S) : Array Value → State → Prop := va_Pc (a.map (mv_k ad)) (fun U => va_P D vwCl (mv_w cy ad S 0 lay) U.heap ∧ va_K D vwCl (mv_tys cy) U ∧ va_D A (mv_w cy ad S 0 lay))
def mv_Qc (D : va_G) (cy : Nat → ClassId) (ad : Nat → Nat) (A : Nat → Prop) (lay : List mv_D) (P : Option Value → mv_S → Prop) : Array Value → State → Outcome → State → Prop := fun _ st oc t => (∃ (r : Option Value) (S' : mv_S), oc = .returned (r.map (mv_k ad)) ∧ P r S' ∧ va_P D vwCl (mv_w cy ad S' 0 lay) t.heap ∧ va_K D vwCl (mv_tys cy) t ∧ va_D A (mv_w cy ad S' 0 lay)) ∧ va_F A st t
/-- what a method of the system must be -/
def mv_mok (sys : List mv_M) (M : mv_M) : Prop :=
  plainName M.1.cls = true ∧ Cond.code M.1 M.2.1 M.2.2.1 M.2.2.2.1 ∈ mv_Ts ∧ (∀ q ∈ M.2.2.2.2.2.2.2, decode M.2.1 q.1 = .ok (q.2, mv_len q.1 q.2)) ∧ mv_Tok M.1.cls M.2.2.2.2.2.2.1 ∧
  (∀ (i j : Nat), (i, j) ∈ M.2.2.2.2.2.2.1.2.2.2 → ∀ M', sys[j]? = some M' → Cond.methodLink M.1.cls i M'.1 ∈ mv_Ts) ∧
  (M.1.cls ≠ "java/lang/invoke/MethodHandle" ∧ M.1.cls ≠ "java/lang/invoke/VarHandle" ∧ (parseMethodDescriptor M.1.desc).map (fun d => d.parameters.length) = some M.2.2.2.2.1) ∧ M.2.2.1 ≤ 21 ∧
  (Cond.initialized M.1.cls ∈ mv_Ts) ∧ (∀ ci, M.2.2.2.2.2.1 = some ci → (∃ (T : u_T) (N : Nat), vwCl[ci]? = some (M.1.cls, T, N)) ∧ Cond.instanceMethod M.1 ∈ mv_Ts ∧ Cond.selects M.1.cls M.1 M.1 ∈ mv_Ts) ∧ (M.2.2.2.2.2.1 = none → Cond.static M.1 ∈ mv_Ts)
theorem mv_goodIn {w : Cond} (h : w ∈ mv_Ts) : GoodIn mv_Ts (w :: mv_Ts) := fun v hv => by
  have : v ∈ mv_Ts := by
    rcases List.mem_cons.mp hv with rfl | h1
    · exact h
    · exact h1
  exact ⟨this, good_of_word (mv_good v this)⟩
theorem mv_blind {D : va_G} {cy : Nat → ClassId} {ad : Nat → Nat} {A : Nat → Prop} {lay : List mv_D} {a : List Value} {S : mv_S} : FrameBlind (mv_Pc D cy ad A lay a S) := fun a U g mk q => by
  obtain ⟨q0, qP, qK, qD⟩ := q
  exact ⟨q0, qP, va_K.moved (u := U) (U := U.calling g mk a) (Vm.Alike.refl U.vm) qK, qD⟩
section MVB
variable {p : Program} {l : Launch} {e : Env} {R : Room} {s : State} {m : MethodId} {args : Array Value} {below : List Frame} {meth : Method} {c : Code} {Q : State → Prop}
variable {cc : ByteArray} {D : va_G} {cy : Nat → ClassId} {ad : Nat → Nat} {A : Nat → Prop} {lay : List mv_D} {sys : List mv_M} {own : String} {T : mv_T} {nL : Nat} {Call : mv_Call} {P : Option Value → mv_S → Prop}
theorem mv_run {pc : Nat} {ls : Array Slot} {st0 rest : List Value} {a : Array Value} {H : Heap} {locs : List Loc} {S : mv_S} (hr : va_Run p l e R s m args below meth c H locs 0 0 0 0 (F0 m pc ls st0) (rest.map (mv_k ad)) (mv_Qc D cy ad A lay P a) A) (hW : mv_W D cy ad A lay s S H locs)
    (kk : ∀ (r : Option Value) (S' : mv_S) (H' : Heap) (locs' : List Loc), P r S' → mv_W D cy ad A lay s S' H' locs' → W p l e R s m args below meth c H' locs' 0 0 Q (F0 m (pc + 3) ls ((r.toList ++ rest).map (mv_k ad)))) : W p l e R s m args below meth c H locs 0 0 Q (F0 m pc ls st0) := by
  intro U hU X
  obtain ⟨v, st₀, t, T', L, h0, X', hL, e1, e2, ⟨⟨r, S', hv, hp, hP1, hK1, hD1⟩, hz, hk⟩, st⟩ := hr U hU X
  rw [h0] at hz hk
  obtain ⟨hP, hD, hS⟩ := hW
  have ev : v = r.map (mv_k ad) := by cases hv; rfl
  subst ev
  obtain ⟨t2, a1, b1⟩ := kk r S' T'.heap (locs ++ L) hp ⟨by rw [e1]; exact hP1, hD1, Nat.le_trans hS.1 (by rw [e1]; exact hz), fun q h1 h2 => by rw [e1, hk q (Nat.lt_of_lt_of_le h1 hS.1) h2]; exact hS.2.1 q h1 h2, fun q hq => by
      rcases List.mem_append.mp hq with h | h
      · exact hS.2.2 q h
      · exact hL q h⟩ T' rfl X'
  refine ⟨t2, st t2 ?_, b1⟩
  have : (r.map (mv_k ad)).toList ++ rest.map (mv_k ad) = (r.toList ++ rest).map (mv_k ad) := by cases r <;> simp
  rw [this]
  exact a1
end MVB
theorem mv_met {l : Launch} {D : va_G} {cy : Nat → ClassId} {ad : Nat → Nat} {A : Nat → Prop} {lay : List mv_D} {sys : List mv_M} (hlay : mv_lok lay) (hsys : ∀ (j : Nat) (M : mv_M), sys[j]? = some M → mv_mok sys M) :
    ∀ (d j : Nat) (a : List Value) (S : mv_S) (P : Option Value → mv_S → Prop) (M : mv_M), sys[j]? = some M → mv_big lay sys d j a S P → Met l M.1 (Cond.code M.1 M.2.1 M.2.2.1 M.2.2.2.1 :: mv_Ts) (mv_rm d) (mv_Pc D cy ad A lay a S) (mv_Qc D cy ad A lay P) 0 0 A := by
  intro d
  induction d with
  | zero => intro j a S P M _ h; exact h.elim
  | succ d ih =>
    intro j a S P M hM h
    unfold mv_big at h
    rw [hM] at h
    obtain ⟨hlen, n, h⟩ := mv_bif h
    obtain ⟨h1, h2, h3, h4, h5, h6, h7, h8, h9, h10⟩ := hsys j M hM
    refine Met.ofW (cc := M.2.1) (maxL := M.2.2.1) (ret := M.2.2.2.1) h1 rfl ?_
    intro p e s m args below meth c s₁ B hml hv
    obtain ⟨rfl, hP, hK, hD⟩ := hv
    have hx := B.exec
    have hb := B.bytes
    have hr := B.returns
    have hts0 := atoms_spec (ws := Cond.code M.1 M.2.1 M.2.2.1 M.2.2.2.1 :: mv_Ts) B.pre
    have hts : ∀ w ∈ mv_Ts, w.before (a.map (mv_k ad)).toArray s = true := fun w hw => hts0 w (List.mem_cons_of_mem _ hw)
    have hown : s.vm.findClass M.1.cls = some m.cls := findClass_of_methodNamed B.named
    have hlocks := B.notSynchronized
    have hl := lv_entry (a.map (mv_k ad)) (n := M.2.2.1) (by rw [mv_sl_len]; exact Nat.le_of_ble_eq_true hlen)
    rw [mv_ks_args] at hl
    rw [lg_entry_eq]
    generalize (lg_sl (a.map (mv_k ad)) ++ List.replicate (M.2.2.1 - (lg_sl (a.map (mv_k ad))).length) Slot.unset).toArray = ls at hl ⊢
    refine mv_snd (own := M.1.cls) (Call := mv_big lay sys d) (Qc := mv_Qc D cy ad A lay P) hx hb hown hr hlocks hts hK hlay h4 h3 ?_ ?_ ?_ n 0 (lv_args 0 a) [] S h s.heap [] ls ⟨hP, hD, va_S.rf⟩ hl
    · intro r S' H locs t hp hW ht hwm
      exact ⟨⟨r, S', rfl, hp, by rw [ht]; exact hW.1, va_K.moved hwm.alike hK, hW.2.1⟩, hW.2.2.F ht⟩
    · intro pc i st j' a' rest hd hiv
      obtain ⟨hm, y, cc', mL, rt, np, ci, T', il', q, fs, As, hs', hq, hAs, rfl, rfl, hcat⟩ := mv_iv_spec hiv
      obtain ⟨g1, g2, g3, g4, g5, g6, g7, g8, g9, g10⟩ := hsys j' _ hs'
      obtain ⟨⟨Tt, N, hcl⟩, gi, gs⟩ := g9 ci rfl
      intro S' P' H locs ls' hc hW hsz kk
      have hM' := ih j' _ S' P' _ hs' hc
      have cb : CallB (headSpec (Cond.code M.1 M.2.1 M.2.2.1 M.2.2.2.1 :: mv_Ts) (mv_rm (d + 1))).room s (a.map (mv_k ad)).toArray M.1.cls i y cc' mL rt (Cond.code y cc' mL rt :: mv_Ts) (mv_rm d) 0 0 np :=
        callB_of np hts (mv_goodIn g2) rfl rfl rfl (hts _ g8) (hts _ (h5 _ _ hm _ hs')) g6 ⟨Nat.le_refl _, by show 8 + (mL + 11) + 40 * d ≤ 40 * (d + 1); have : mL ≤ 21 := g7; omega⟩
      refine mv_run (S := S') (a := (Value.ref (ad q) :: As.map (mv_k ad)).toArray) (va_runV (C := y.cls) (b := ad q) (As := As.map (mv_k ad)) (rest := rest.map (mv_k ad)) ⟨hx, hb, hml, hown, hts⟩ hM' ⟨cb, hts _ gi, hts _ gs⟩ ⟨mv_blind, va_recv hK hW.1 hcl (mv_w_get hq), fun U hU hWm => ⟨rfl, by rw [hU]; exact hW.1, va_K.moved hWm.alike hK, hW.2.1⟩⟩ rfl (by rw [List.length_map]; exact hAs) hsz ?_ (lv_room (by rw [mv_cat_k]; exact hcat)) hd ⟨Nat.zero_le _, Nat.zero_le _⟩) hW kk
      simp [mv_k]
    · intro pc i st j' a' rest hd his
      obtain ⟨hm, y, cc', mL, rt, np, T', il', hs', hAs, rfl, hcat⟩ := mv_is_spec his
      obtain ⟨g1, g2, g3, g4, g5, g6, g7, g8, g9, g10⟩ := hsys j' _ hs'
      intro S' P' H locs ls' hc hW hsz kk
      have hM' := ih j' _ S' P' _ hs' hc
      have cb : CallB (headSpec (Cond.code M.1 M.2.1 M.2.2.1 M.2.2.2.1 :: mv_Ts) (mv_rm (d + 1))).room s (a.map (mv_k ad)).toArray M.1.cls i y cc' mL rt (Cond.code y cc' mL rt :: mv_Ts) (mv_rm d) 0 0 np :=
        callB_of np hts (mv_goodIn g2) rfl rfl rfl (hts _ g8) (hts _ (h5 _ _ hm _ hs')) g6 ⟨Nat.le_refl _, by show 8 + (mL + 11) + 40 * d ≤ 40 * (d + 1); have : mL ≤ 21 := g7; omega⟩
      refine mv_run (S := S') (a := (a'.map (mv_k ad)).toArray) (va_runS (As := a'.map (mv_k ad)) (rest := rest.map (mv_k ad)) ⟨hx, hb, hml, hown, hts⟩ hM' ⟨cb, hts _ (g10 rfl)⟩ ⟨mv_blind, fun U hU hWm => ⟨rfl, by rw [hU]; exact hW.1, va_K.moved hWm.alike hK, hW.2.1⟩⟩ rfl (by rw [List.length_map]; exact hAs) hsz ?_ (lv_room (by rw [mv_cat_k]; exact hcat)) hd ⟨Nat.zero_le _, Nat.zero_le _⟩) hW kk
      simp
end
