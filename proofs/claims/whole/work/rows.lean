section
-- ===== PART A: goes FIRST, ahead of the names: the tables' words, and 'selects' of the private methods out of them =====
/-- a private method of a class that the tables say can be made, by its rows of tables_1 -/
def lw_okq (q : MethodName × Nat) : Prop := (q.1.cls ≠ "java/lang/invoke/MethodHandle" ∧ q.1.cls ≠ "java/lang/invoke/VarHandle") ∧ Cond.instantiable q.1.cls q.2 ∈ tables_1 ∧ Cond.privateMethod q.1 ∈ tables_1 ∧ Cond.instanceMethod q.1 ∈ tables_1
theorem lw_p0 : lw_okq (⟨"MapMachine", "leaveRun", "()V"⟩, 6) := ⟨⟨by decide +kernel, by decide +kernel⟩, List.mem_of_getElem? (i := 14) (by decide +kernel), List.mem_of_getElem? (i := 344) (by decide +kernel), List.mem_of_getElem? (i := 345) (by decide +kernel)⟩
theorem lw_p1 : lw_okq (⟨"MapMachine$Compiler", "functions", "()Z"⟩, 4) := ⟨⟨by decide +kernel, by decide +kernel⟩, List.mem_of_getElem? (i := 69) (by decide +kernel), List.mem_of_getElem? (i := 362) (by decide +kernel), List.mem_of_getElem? (i := 363) (by decide +kernel)⟩
theorem lw_p2 : lw_okq (⟨"MapMachine$Compiler", "newFunction", "()Z"⟩, 4) := ⟨⟨by decide +kernel, by decide +kernel⟩, List.mem_of_getElem? (i := 69) (by decide +kernel), List.mem_of_getElem? (i := 370) (by decide +kernel), List.mem_of_getElem? (i := 371) (by decide +kernel)⟩
theorem lw_p3 : lw_okq (⟨"MapMachine$Compiler", "bare", "(I)Z"⟩, 4) := ⟨⟨by decide +kernel, by decide +kernel⟩, List.mem_of_getElem? (i := 69) (by decide +kernel), List.mem_of_getElem? (i := 378) (by decide +kernel), List.mem_of_getElem? (i := 379) (by decide +kernel)⟩
theorem lw_p4 : lw_okq (⟨"MapMachine$Compiler", "fail", "(I)Z"⟩, 4) := ⟨⟨by decide +kernel, by decide +kernel⟩, List.mem_of_getElem? (i := 69) (by decide +kernel), List.mem_of_getElem? (i := 386) (by decide +kernel), List.mem_of_getElem? (i := 387) (by decide +kernel)⟩
theorem lw_p5 : lw_okq (⟨"MapMachine$Compiler", "block", "(I)Z"⟩, 4) := ⟨⟨by decide +kernel, by decide +kernel⟩, List.mem_of_getElem? (i := 69) (by decide +kernel), List.mem_of_getElem? (i := 394) (by decide +kernel), List.mem_of_getElem? (i := 395) (by decide +kernel)⟩
theorem lw_p6 : lw_okq (⟨"MapMachine$Compiler", "statement", "(I)Z"⟩, 4) := ⟨⟨by decide +kernel, by decide +kernel⟩, List.mem_of_getElem? (i := 69) (by decide +kernel), List.mem_of_getElem? (i := 401) (by decide +kernel), List.mem_of_getElem? (i := 402) (by decide +kernel)⟩
theorem lw_p7 : lw_okq (⟨"MapMachine$Compiler", "choice", "(I)Z"⟩, 4) := ⟨⟨by decide +kernel, by decide +kernel⟩, List.mem_of_getElem? (i := 69) (by decide +kernel), List.mem_of_getElem? (i := 405) (by decide +kernel), List.mem_of_getElem? (i := 406) (by decide +kernel)⟩
theorem lw_p8 : lw_okq (⟨"MapMachine$Compiler", "numberPart", "(I)Z"⟩, 4) := ⟨⟨by decide +kernel, by decide +kernel⟩, List.mem_of_getElem? (i := 69) (by decide +kernel), List.mem_of_getElem? (i := 409) (by decide +kernel), List.mem_of_getElem? (i := 410) (by decide +kernel)⟩
theorem lw_p9 : lw_okq (⟨"MapMachine$Compiler", "shortcut", "(I)Z"⟩, 4) := ⟨⟨by decide +kernel, by decide +kernel⟩, List.mem_of_getElem? (i := 69) (by decide +kernel), List.mem_of_getElem? (i := 416) (by decide +kernel), List.mem_of_getElem? (i := 417) (by decide +kernel)⟩
theorem lw_p10 : lw_okq (⟨"MapMachine$Compiler", "plain", "(I)Z"⟩, 4) := ⟨⟨by decide +kernel, by decide +kernel⟩, List.mem_of_getElem? (i := 69) (by decide +kernel), List.mem_of_getElem? (i := 433) (by decide +kernel), List.mem_of_getElem? (i := 434) (by decide +kernel)⟩
theorem lw_p11 : lw_okq (⟨"MapMachine$Compiler", "argument", "(I)Z"⟩, 4) := ⟨⟨by decide +kernel, by decide +kernel⟩, List.mem_of_getElem? (i := 69) (by decide +kernel), List.mem_of_getElem? (i := 437) (by decide +kernel), List.mem_of_getElem? (i := 438) (by decide +kernel)⟩
theorem lw_p12 : lw_okq (⟨"MapMachine$Compiler", "knownFunction", "()Z"⟩, 4) := ⟨⟨by decide +kernel, by decide +kernel⟩, List.mem_of_getElem? (i := 69) (by decide +kernel), List.mem_of_getElem? (i := 441) (by decide +kernel), List.mem_of_getElem? (i := 442) (by decide +kernel)⟩
theorem lw_p13 : lw_okq (⟨"MapMachine$Compiler", "anyNumber", "()Z"⟩, 4) := ⟨⟨by decide +kernel, by decide +kernel⟩, List.mem_of_getElem? (i := 69) (by decide +kernel), List.mem_of_getElem? (i := 445) (by decide +kernel), List.mem_of_getElem? (i := 446) (by decide +kernel)⟩
theorem lw_p14 : lw_okq (⟨"MapMachine$Compiler", "parts", "(II)Z"⟩, 4) := ⟨⟨by decide +kernel, by decide +kernel⟩, List.mem_of_getElem? (i := 69) (by decide +kernel), List.mem_of_getElem? (i := 449) (by decide +kernel), List.mem_of_getElem? (i := 450) (by decide +kernel)⟩
theorem lw_p15 : lw_okq (⟨"MapMachine$Compiler", "mapPart", "(I)Z"⟩, 4) := ⟨⟨by decide +kernel, by decide +kernel⟩, List.mem_of_getElem? (i := 69) (by decide +kernel), List.mem_of_getElem? (i := 456) (by decide +kernel), List.mem_of_getElem? (i := 457) (by decide +kernel)⟩
def lw_privs_1 : List (MethodName × Nat) := [(⟨"MapMachine", "leaveRun", "()V"⟩, 6), (⟨"MapMachine$Compiler", "functions", "()Z"⟩, 4), (⟨"MapMachine$Compiler", "newFunction", "()Z"⟩, 4), (⟨"MapMachine$Compiler", "bare", "(I)Z"⟩, 4), (⟨"MapMachine$Compiler", "fail", "(I)Z"⟩, 4), (⟨"MapMachine$Compiler", "block", "(I)Z"⟩, 4), (⟨"MapMachine$Compiler", "statement", "(I)Z"⟩, 4), (⟨"MapMachine$Compiler", "choice", "(I)Z"⟩, 4), (⟨"MapMachine$Compiler", "numberPart", "(I)Z"⟩, 4), (⟨"MapMachine$Compiler", "shortcut", "(I)Z"⟩, 4), (⟨"MapMachine$Compiler", "plain", "(I)Z"⟩, 4), (⟨"MapMachine$Compiler", "argument", "(I)Z"⟩, 4), (⟨"MapMachine$Compiler", "knownFunction", "()Z"⟩, 4), (⟨"MapMachine$Compiler", "anyNumber", "()Z"⟩, 4), (⟨"MapMachine$Compiler", "parts", "(II)Z"⟩, 4), (⟨"MapMachine$Compiler", "mapPart", "(I)Z"⟩, 4)]
theorem lw_r1 : ∀ q ∈ lw_privs_1, lw_okq q := List.forall_mem_cons.mpr ⟨lw_p0, List.forall_mem_cons.mpr ⟨lw_p1, List.forall_mem_cons.mpr ⟨lw_p2, List.forall_mem_cons.mpr ⟨lw_p3, List.forall_mem_cons.mpr ⟨lw_p4, List.forall_mem_cons.mpr ⟨lw_p5, List.forall_mem_cons.mpr ⟨lw_p6, List.forall_mem_cons.mpr ⟨lw_p7, List.forall_mem_cons.mpr ⟨lw_p8, List.forall_mem_cons.mpr ⟨lw_p9, List.forall_mem_cons.mpr ⟨lw_p10, List.forall_mem_cons.mpr ⟨lw_p11, List.forall_mem_cons.mpr ⟨lw_p12, List.forall_mem_cons.mpr ⟨lw_p13, List.forall_mem_cons.mpr ⟨lw_p14, List.forall_mem_cons.mpr ⟨lw_p15, fun _ h => absurd h List.not_mem_nil⟩⟩⟩⟩⟩⟩⟩⟩⟩⟩⟩⟩⟩⟩⟩⟩
theorem lw_p16 : lw_okq (⟨"MapMachine$Compiler", "passEnd", "()Z"⟩, 4) := ⟨⟨by decide +kernel, by decide +kernel⟩, List.mem_of_getElem? (i := 69) (by decide +kernel), List.mem_of_getElem? (i := 493) (by decide +kernel), List.mem_of_getElem? (i := 494) (by decide +kernel)⟩
theorem lw_p17 : lw_okq (⟨"MapMachine$Compiler", "repetition", "(I)Z"⟩, 4) := ⟨⟨by decide +kernel, by decide +kernel⟩, List.mem_of_getElem? (i := 69) (by decide +kernel), List.mem_of_getElem? (i := 497) (by decide +kernel), List.mem_of_getElem? (i := 498) (by decide +kernel)⟩
theorem lw_p18 : lw_okq (⟨"MapMachine$Compiler", "loopRest", "(III)Z"⟩, 4) := ⟨⟨by decide +kernel, by decide +kernel⟩, List.mem_of_getElem? (i := 69) (by decide +kernel), List.mem_of_getElem? (i := 505) (by decide +kernel), List.mem_of_getElem? (i := 506) (by decide +kernel)⟩
theorem lw_p19 : lw_okq (⟨"MapMachine$Compiler", "eachKey", "(I)Z"⟩, 4) := ⟨⟨by decide +kernel, by decide +kernel⟩, List.mem_of_getElem? (i := 69) (by decide +kernel), List.mem_of_getElem? (i := 509) (by decide +kernel), List.mem_of_getElem? (i := 510) (by decide +kernel)⟩
theorem lw_p20 : lw_okq (⟨"MapMachine$Compiler", "finishStatement", "(I)V"⟩, 4) := ⟨⟨by decide +kernel, by decide +kernel⟩, List.mem_of_getElem? (i := 69) (by decide +kernel), List.mem_of_getElem? (i := 513) (by decide +kernel), List.mem_of_getElem? (i := 514) (by decide +kernel)⟩
theorem lw_p21 : lw_okq (⟨"MapMachine$Compiler", "mainPart", "()Z"⟩, 4) := ⟨⟨by decide +kernel, by decide +kernel⟩, List.mem_of_getElem? (i := 69) (by decide +kernel), List.mem_of_getElem? (i := 517) (by decide +kernel), List.mem_of_getElem? (i := 518) (by decide +kernel)⟩
theorem lw_p22 : lw_okq (⟨"MapMachine$Runner", "step", "()V"⟩, 5) := ⟨⟨by decide +kernel, by decide +kernel⟩, List.mem_of_getElem? (i := 227) (by decide +kernel), List.mem_of_getElem? (i := 607) (by decide +kernel), List.mem_of_getElem? (i := 608) (by decide +kernel)⟩
theorem lw_p23 : lw_okq (⟨"MapMachine$Runner", "goIf", "(ZI)V"⟩, 5) := ⟨⟨by decide +kernel, by decide +kernel⟩, List.mem_of_getElem? (i := 227) (by decide +kernel), List.mem_of_getElem? (i := 620) (by decide +kernel), List.mem_of_getElem? (i := 621) (by decide +kernel)⟩
theorem lw_p24 : lw_okq (⟨"MapMachine$Runner", "call", "(I)V"⟩, 5) := ⟨⟨by decide +kernel, by decide +kernel⟩, List.mem_of_getElem? (i := 227) (by decide +kernel), List.mem_of_getElem? (i := 624) (by decide +kernel), List.mem_of_getElem? (i := 625) (by decide +kernel)⟩
theorem lw_p25 : lw_okq (⟨"MapMachine$Store", "variablePlace", "(I)I"⟩, 17) := ⟨⟨by decide +kernel, by decide +kernel⟩, List.mem_of_getElem? (i := 143) (by decide +kernel), List.mem_of_getElem? (i := 637) (by decide +kernel), List.mem_of_getElem? (i := 638) (by decide +kernel)⟩
theorem lw_p26 : lw_okq (⟨"MapMachine$Store", "mapPlace", "(I)I"⟩, 17) := ⟨⟨by decide +kernel, by decide +kernel⟩, List.mem_of_getElem? (i := 143) (by decide +kernel), List.mem_of_getElem? (i := 641) (by decide +kernel), List.mem_of_getElem? (i := 642) (by decide +kernel)⟩
theorem lw_p27 : lw_okq (⟨"MapMachine$Runner", "nextKey", "(I)V"⟩, 5) := ⟨⟨by decide +kernel, by decide +kernel⟩, List.mem_of_getElem? (i := 227) (by decide +kernel), List.mem_of_getElem? (i := 658) (by decide +kernel), List.mem_of_getElem? (i := 659) (by decide +kernel)⟩
theorem lw_p28 : lw_okq (⟨"MapMachine$Store", "applyToNumbers", "(I)I"⟩, 17) := ⟨⟨by decide +kernel, by decide +kernel⟩, List.mem_of_getElem? (i := 143) (by decide +kernel), List.mem_of_getElem? (i := 705) (by decide +kernel), List.mem_of_getElem? (i := 706) (by decide +kernel)⟩
theorem lw_p29 : lw_okq (⟨"MapMachine$Store", "changeMap", "(I)I"⟩, 17) := ⟨⟨by decide +kernel, by decide +kernel⟩, List.mem_of_getElem? (i := 143) (by decide +kernel), List.mem_of_getElem? (i := 709) (by decide +kernel), List.mem_of_getElem? (i := 710) (by decide +kernel)⟩
theorem lw_p30 : lw_okq (⟨"MapMachine$Trees", "copyTowards", "(II)I"⟩, 6) := ⟨⟨by decide +kernel, by decide +kernel⟩, List.mem_of_getElem? (i := 149) (by decide +kernel), List.mem_of_getElem? (i := 733) (by decide +kernel), List.mem_of_getElem? (i := 734) (by decide +kernel)⟩
theorem lw_p31 : lw_okq (⟨"MapMachine$Trees", "split", "(II)V"⟩, 6) := ⟨⟨by decide +kernel, by decide +kernel⟩, List.mem_of_getElem? (i := 149) (by decide +kernel), List.mem_of_getElem? (i := 747) (by decide +kernel), List.mem_of_getElem? (i := 748) (by decide +kernel)⟩
def lw_privs_2 : List (MethodName × Nat) := [(⟨"MapMachine$Compiler", "passEnd", "()Z"⟩, 4), (⟨"MapMachine$Compiler", "repetition", "(I)Z"⟩, 4), (⟨"MapMachine$Compiler", "loopRest", "(III)Z"⟩, 4), (⟨"MapMachine$Compiler", "eachKey", "(I)Z"⟩, 4), (⟨"MapMachine$Compiler", "finishStatement", "(I)V"⟩, 4), (⟨"MapMachine$Compiler", "mainPart", "()Z"⟩, 4), (⟨"MapMachine$Runner", "step", "()V"⟩, 5), (⟨"MapMachine$Runner", "goIf", "(ZI)V"⟩, 5), (⟨"MapMachine$Runner", "call", "(I)V"⟩, 5), (⟨"MapMachine$Store", "variablePlace", "(I)I"⟩, 17), (⟨"MapMachine$Store", "mapPlace", "(I)I"⟩, 17), (⟨"MapMachine$Runner", "nextKey", "(I)V"⟩, 5), (⟨"MapMachine$Store", "applyToNumbers", "(I)I"⟩, 17), (⟨"MapMachine$Store", "changeMap", "(I)I"⟩, 17), (⟨"MapMachine$Trees", "copyTowards", "(II)I"⟩, 6), (⟨"MapMachine$Trees", "split", "(II)V"⟩, 6)]
theorem lw_r2 : ∀ q ∈ lw_privs_2, lw_okq q := List.forall_mem_cons.mpr ⟨lw_p16, List.forall_mem_cons.mpr ⟨lw_p17, List.forall_mem_cons.mpr ⟨lw_p18, List.forall_mem_cons.mpr ⟨lw_p19, List.forall_mem_cons.mpr ⟨lw_p20, List.forall_mem_cons.mpr ⟨lw_p21, List.forall_mem_cons.mpr ⟨lw_p22, List.forall_mem_cons.mpr ⟨lw_p23, List.forall_mem_cons.mpr ⟨lw_p24, List.forall_mem_cons.mpr ⟨lw_p25, List.forall_mem_cons.mpr ⟨lw_p26, List.forall_mem_cons.mpr ⟨lw_p27, List.forall_mem_cons.mpr ⟨lw_p28, List.forall_mem_cons.mpr ⟨lw_p29, List.forall_mem_cons.mpr ⟨lw_p30, List.forall_mem_cons.mpr ⟨lw_p31, fun _ h => absurd h List.not_mem_nil⟩⟩⟩⟩⟩⟩⟩⟩⟩⟩⟩⟩⟩⟩⟩⟩
theorem lw_p32 : lw_okq (⟨"MapMachine$Trees", "join", "(II)V"⟩, 6) := ⟨⟨by decide +kernel, by decide +kernel⟩, List.mem_of_getElem? (i := 149) (by decide +kernel), List.mem_of_getElem? (i := 765) (by decide +kernel), List.mem_of_getElem? (i := 766) (by decide +kernel)⟩
theorem lw_p33 : lw_okq (⟨"MapMachine$Trees", "unite", "(III)V"⟩, 6) := ⟨⟨by decide +kernel, by decide +kernel⟩, List.mem_of_getElem? (i := 149) (by decide +kernel), List.mem_of_getElem? (i := 773) (by decide +kernel), List.mem_of_getElem? (i := 774) (by decide +kernel)⟩
theorem lw_p34 : lw_okq (⟨"MapMachine$Store", "keep", "(I)Z"⟩, 17) := ⟨⟨by decide +kernel, by decide +kernel⟩, List.mem_of_getElem? (i := 143) (by decide +kernel), List.mem_of_getElem? (i := 783) (by decide +kernel), List.mem_of_getElem? (i := 784) (by decide +kernel)⟩
theorem lw_p35 : lw_okq (⟨"MapMachine$Store", "reachAll", "()V"⟩, 17) := ⟨⟨by decide +kernel, by decide +kernel⟩, List.mem_of_getElem? (i := 143) (by decide +kernel), List.mem_of_getElem? (i := 791) (by decide +kernel), List.mem_of_getElem? (i := 792) (by decide +kernel)⟩
theorem lw_p36 : lw_okq (⟨"MapMachine$Store", "takeParts", "(I)V"⟩, 17) := ⟨⟨by decide +kernel, by decide +kernel⟩, List.mem_of_getElem? (i := 143) (by decide +kernel), List.mem_of_getElem? (i := 813) (by decide +kernel), List.mem_of_getElem? (i := 814) (by decide +kernel)⟩
theorem lw_p37 : lw_okq (⟨"MapMachine$Store", "tell", "(I)I"⟩, 17) := ⟨⟨by decide +kernel, by decide +kernel⟩, List.mem_of_getElem? (i := 143) (by decide +kernel), List.mem_of_getElem? (i := 827) (by decide +kernel), List.mem_of_getElem? (i := 828) (by decide +kernel)⟩
theorem lw_p38 : lw_okq (⟨"MapMachine$Store", "askMap", "(I)V"⟩, 17) := ⟨⟨by decide +kernel, by decide +kernel⟩, List.mem_of_getElem? (i := 143) (by decide +kernel), List.mem_of_getElem? (i := 835) (by decide +kernel), List.mem_of_getElem? (i := 836) (by decide +kernel)⟩
theorem lw_p39 : lw_okq (⟨"MapMachine$Store", "pushFloor", "()V"⟩, 17) := ⟨⟨by decide +kernel, by decide +kernel⟩, List.mem_of_getElem? (i := 143) (by decide +kernel), List.mem_of_getElem? (i := 845) (by decide +kernel), List.mem_of_getElem? (i := 846) (by decide +kernel)⟩
theorem lw_p40 : lw_okq (⟨"MapMachine$Walker", "openAt", "(I)V"⟩, 9) := ⟨⟨by decide +kernel, by decide +kernel⟩, List.mem_of_getElem? (i := 249) (by decide +kernel), List.mem_of_getElem? (i := 865) (by decide +kernel), List.mem_of_getElem? (i := 866) (by decide +kernel)⟩
theorem lw_p41 : lw_okq (⟨"MapMachine$Walker", "body", "()V"⟩, 9) := ⟨⟨by decide +kernel, by decide +kernel⟩, List.mem_of_getElem? (i := 249) (by decide +kernel), List.mem_of_getElem? (i := 873) (by decide +kernel), List.mem_of_getElem? (i := 874) (by decide +kernel)⟩
theorem lw_p42 : lw_okq (⟨"MapMachine$Walker", "comeBack", "(I)V"⟩, 9) := ⟨⟨by decide +kernel, by decide +kernel⟩, List.mem_of_getElem? (i := 249) (by decide +kernel), List.mem_of_getElem? (i := 877) (by decide +kernel), List.mem_of_getElem? (i := 878) (by decide +kernel)⟩
theorem lw_p43 : lw_okq (⟨"MapMachine$Walker", "beginNext", "()V"⟩, 9) := ⟨⟨by decide +kernel, by decide +kernel⟩, List.mem_of_getElem? (i := 249) (by decide +kernel), List.mem_of_getElem? (i := 890) (by decide +kernel), List.mem_of_getElem? (i := 891) (by decide +kernel)⟩
theorem lw_p44 : lw_okq (⟨"MapMachine$Walker", "mayStep", "()Z"⟩, 9) := ⟨⟨by decide +kernel, by decide +kernel⟩, List.mem_of_getElem? (i := 249) (by decide +kernel), List.mem_of_getElem? (i := 894) (by decide +kernel), List.mem_of_getElem? (i := 895) (by decide +kernel)⟩
theorem lw_p45 : lw_okq (⟨"MapMachine$Walker", "choice", "(II)V"⟩, 9) := ⟨⟨by decide +kernel, by decide +kernel⟩, List.mem_of_getElem? (i := 249) (by decide +kernel), List.mem_of_getElem? (i := 904) (by decide +kernel), List.mem_of_getElem? (i := 905) (by decide +kernel)⟩
theorem lw_p46 : lw_okq (⟨"MapMachine$Walker", "beginPart", "(I)V"⟩, 9) := ⟨⟨by decide +kernel, by decide +kernel⟩, List.mem_of_getElem? (i := 249) (by decide +kernel), List.mem_of_getElem? (i := 908) (by decide +kernel), List.mem_of_getElem? (i := 909) (by decide +kernel)⟩
theorem lw_p47 : lw_okq (⟨"MapMachine$Walker", "setStage", "(I)V"⟩, 9) := ⟨⟨by decide +kernel, by decide +kernel⟩, List.mem_of_getElem? (i := 249) (by decide +kernel), List.mem_of_getElem? (i := 912) (by decide +kernel), List.mem_of_getElem? (i := 913) (by decide +kernel)⟩
def lw_privs_3 : List (MethodName × Nat) := [(⟨"MapMachine$Trees", "join", "(II)V"⟩, 6), (⟨"MapMachine$Trees", "unite", "(III)V"⟩, 6), (⟨"MapMachine$Store", "keep", "(I)Z"⟩, 17), (⟨"MapMachine$Store", "reachAll", "()V"⟩, 17), (⟨"MapMachine$Store", "takeParts", "(I)V"⟩, 17), (⟨"MapMachine$Store", "tell", "(I)I"⟩, 17), (⟨"MapMachine$Store", "askMap", "(I)V"⟩, 17), (⟨"MapMachine$Store", "pushFloor", "()V"⟩, 17), (⟨"MapMachine$Walker", "openAt", "(I)V"⟩, 9), (⟨"MapMachine$Walker", "body", "()V"⟩, 9), (⟨"MapMachine$Walker", "comeBack", "(I)V"⟩, 9), (⟨"MapMachine$Walker", "beginNext", "()V"⟩, 9), (⟨"MapMachine$Walker", "mayStep", "()Z"⟩, 9), (⟨"MapMachine$Walker", "choice", "(II)V"⟩, 9), (⟨"MapMachine$Walker", "beginPart", "(I)V"⟩, 9), (⟨"MapMachine$Walker", "setStage", "(I)V"⟩, 9)]
theorem lw_r3 : ∀ q ∈ lw_privs_3, lw_okq q := List.forall_mem_cons.mpr ⟨lw_p32, List.forall_mem_cons.mpr ⟨lw_p33, List.forall_mem_cons.mpr ⟨lw_p34, List.forall_mem_cons.mpr ⟨lw_p35, List.forall_mem_cons.mpr ⟨lw_p36, List.forall_mem_cons.mpr ⟨lw_p37, List.forall_mem_cons.mpr ⟨lw_p38, List.forall_mem_cons.mpr ⟨lw_p39, List.forall_mem_cons.mpr ⟨lw_p40, List.forall_mem_cons.mpr ⟨lw_p41, List.forall_mem_cons.mpr ⟨lw_p42, List.forall_mem_cons.mpr ⟨lw_p43, List.forall_mem_cons.mpr ⟨lw_p44, List.forall_mem_cons.mpr ⟨lw_p45, List.forall_mem_cons.mpr ⟨lw_p46, List.forall_mem_cons.mpr ⟨lw_p47, fun _ h => absurd h List.not_mem_nil⟩⟩⟩⟩⟩⟩⟩⟩⟩⟩⟩⟩⟩⟩⟩⟩
theorem lw_p48 : lw_okq (⟨"MapMachine$Walker", "closeBehind", "(I)V"⟩, 9) := ⟨⟨by decide +kernel, by decide +kernel⟩, List.mem_of_getElem? (i := 249) (by decide +kernel), List.mem_of_getElem? (i := 922) (by decide +kernel), List.mem_of_getElem? (i := 923) (by decide +kernel)⟩
theorem lw_p49 : lw_okq (⟨"MapMachine$Walker", "close", "()V"⟩, 9) := ⟨⟨by decide +kernel, by decide +kernel⟩, List.mem_of_getElem? (i := 249) (by decide +kernel), List.mem_of_getElem? (i := 926) (by decide +kernel), List.mem_of_getElem? (i := 927) (by decide +kernel)⟩
theorem lw_p50 : lw_okq (⟨"MapMachine$Walker", "repetition", "(II)V"⟩, 9) := ⟨⟨by decide +kernel, by decide +kernel⟩, List.mem_of_getElem? (i := 249) (by decide +kernel), List.mem_of_getElem? (i := 930) (by decide +kernel), List.mem_of_getElem? (i := 931) (by decide +kernel)⟩
theorem lw_p51 : lw_okq (⟨"MapMachine$Walker", "eachKey", "(II)V"⟩, 9) := ⟨⟨by decide +kernel, by decide +kernel⟩, List.mem_of_getElem? (i := 249) (by decide +kernel), List.mem_of_getElem? (i := 934) (by decide +kernel), List.mem_of_getElem? (i := 935) (by decide +kernel)⟩
theorem lw_p52 : lw_okq (⟨"MapMachine$Walker", "comeToKey", "(I)V"⟩, 9) := ⟨⟨by decide +kernel, by decide +kernel⟩, List.mem_of_getElem? (i := 249) (by decide +kernel), List.mem_of_getElem? (i := 940) (by decide +kernel), List.mem_of_getElem? (i := 941) (by decide +kernel)⟩
theorem lw_p53 : lw_okq (⟨"MapMachine$Walker", "answer", "(I)V"⟩, 9) := ⟨⟨by decide +kernel, by decide +kernel⟩, List.mem_of_getElem? (i := 249) (by decide +kernel), List.mem_of_getElem? (i := 947) (by decide +kernel), List.mem_of_getElem? (i := 948) (by decide +kernel)⟩
theorem lw_p54 : lw_okq (⟨"MapMachine$Walker", "call", "(II)V"⟩, 9) := ⟨⟨by decide +kernel, by decide +kernel⟩, List.mem_of_getElem? (i := 249) (by decide +kernel), List.mem_of_getElem? (i := 951) (by decide +kernel), List.mem_of_getElem? (i := 952) (by decide +kernel)⟩
theorem lw_p55 : lw_okq (⟨"MapMachine$Walker", "enter", "(II)V"⟩, 9) := ⟨⟨by decide +kernel, by decide +kernel⟩, List.mem_of_getElem? (i := 249) (by decide +kernel), List.mem_of_getElem? (i := 956) (by decide +kernel), List.mem_of_getElem? (i := 957) (by decide +kernel)⟩
theorem lw_p56 : lw_okq (⟨"MapMachine$Walker", "shortcut", "(II)V"⟩, 9) := ⟨⟨by decide +kernel, by decide +kernel⟩, List.mem_of_getElem? (i := 249) (by decide +kernel), List.mem_of_getElem? (i := 965) (by decide +kernel), List.mem_of_getElem? (i := 966) (by decide +kernel)⟩
theorem lw_p57 : lw_okq (⟨"MapMachine$Walker", "plain", "(II)V"⟩, 9) := ⟨⟨by decide +kernel, by decide +kernel⟩, List.mem_of_getElem? (i := 249) (by decide +kernel), List.mem_of_getElem? (i := 970) (by decide +kernel), List.mem_of_getElem? (i := 971) (by decide +kernel)⟩
theorem lw_p58 : lw_okq (⟨"MapMachineModel", "clear", "(I)V"⟩, 66) := ⟨⟨by decide +kernel, by decide +kernel⟩, List.mem_of_getElem? (i := 1040) (by decide +kernel), List.mem_of_getElem? (i := 1253) (by decide +kernel), List.mem_of_getElem? (i := 1254) (by decide +kernel)⟩
theorem lw_p59 : lw_okq (⟨"MapMachineModel", "clearOwn", "()V"⟩, 66) := ⟨⟨by decide +kernel, by decide +kernel⟩, List.mem_of_getElem? (i := 1040) (by decide +kernel), List.mem_of_getElem? (i := 1257) (by decide +kernel), List.mem_of_getElem? (i := 1258) (by decide +kernel)⟩
theorem lw_p60 : lw_okq (⟨"MapMachineModel", "token", "()I"⟩, 66) := ⟨⟨by decide +kernel, by decide +kernel⟩, List.mem_of_getElem? (i := 1040) (by decide +kernel), List.mem_of_getElem? (i := 1269) (by decide +kernel), List.mem_of_getElem? (i := 1270) (by decide +kernel)⟩
theorem lw_p61 : lw_okq (⟨"MapMachineModel", "readFunction", "()V"⟩, 66) := ⟨⟨by decide +kernel, by decide +kernel⟩, List.mem_of_getElem? (i := 1040) (by decide +kernel), List.mem_of_getElem? (i := 1273) (by decide +kernel), List.mem_of_getElem? (i := 1274) (by decide +kernel)⟩
theorem lw_p62 : lw_okq (⟨"MapMachineModel", "wrong", "(I)V"⟩, 66) := ⟨⟨by decide +kernel, by decide +kernel⟩, List.mem_of_getElem? (i := 1040) (by decide +kernel), List.mem_of_getElem? (i := 1277) (by decide +kernel), List.mem_of_getElem? (i := 1278) (by decide +kernel)⟩
theorem lw_p63 : lw_okq (⟨"MapMachineModel", "number", "(I)I"⟩, 66) := ⟨⟨by decide +kernel, by decide +kernel⟩, List.mem_of_getElem? (i := 1040) (by decide +kernel), List.mem_of_getElem? (i := 1281) (by decide +kernel), List.mem_of_getElem? (i := 1282) (by decide +kernel)⟩
def lw_privs_4 : List (MethodName × Nat) := [(⟨"MapMachine$Walker", "closeBehind", "(I)V"⟩, 9), (⟨"MapMachine$Walker", "close", "()V"⟩, 9), (⟨"MapMachine$Walker", "repetition", "(II)V"⟩, 9), (⟨"MapMachine$Walker", "eachKey", "(II)V"⟩, 9), (⟨"MapMachine$Walker", "comeToKey", "(I)V"⟩, 9), (⟨"MapMachine$Walker", "answer", "(I)V"⟩, 9), (⟨"MapMachine$Walker", "call", "(II)V"⟩, 9), (⟨"MapMachine$Walker", "enter", "(II)V"⟩, 9), (⟨"MapMachine$Walker", "shortcut", "(II)V"⟩, 9), (⟨"MapMachine$Walker", "plain", "(II)V"⟩, 9), (⟨"MapMachineModel", "clear", "(I)V"⟩, 66), (⟨"MapMachineModel", "clearOwn", "()V"⟩, 66), (⟨"MapMachineModel", "token", "()I"⟩, 66), (⟨"MapMachineModel", "readFunction", "()V"⟩, 66), (⟨"MapMachineModel", "wrong", "(I)V"⟩, 66), (⟨"MapMachineModel", "number", "(I)I"⟩, 66)]
theorem lw_r4 : ∀ q ∈ lw_privs_4, lw_okq q := List.forall_mem_cons.mpr ⟨lw_p48, List.forall_mem_cons.mpr ⟨lw_p49, List.forall_mem_cons.mpr ⟨lw_p50, List.forall_mem_cons.mpr ⟨lw_p51, List.forall_mem_cons.mpr ⟨lw_p52, List.forall_mem_cons.mpr ⟨lw_p53, List.forall_mem_cons.mpr ⟨lw_p54, List.forall_mem_cons.mpr ⟨lw_p55, List.forall_mem_cons.mpr ⟨lw_p56, List.forall_mem_cons.mpr ⟨lw_p57, List.forall_mem_cons.mpr ⟨lw_p58, List.forall_mem_cons.mpr ⟨lw_p59, List.forall_mem_cons.mpr ⟨lw_p60, List.forall_mem_cons.mpr ⟨lw_p61, List.forall_mem_cons.mpr ⟨lw_p62, List.forall_mem_cons.mpr ⟨lw_p63, fun _ h => absurd h List.not_mem_nil⟩⟩⟩⟩⟩⟩⟩⟩⟩⟩⟩⟩⟩⟩⟩⟩
theorem lw_p64 : lw_okq (⟨"MapMachineModel", "later", "(III)V"⟩, 66) := ⟨⟨by decide +kernel, by decide +kernel⟩, List.mem_of_getElem? (i := 1040) (by decide +kernel), List.mem_of_getElem? (i := 1285) (by decide +kernel), List.mem_of_getElem? (i := 1286) (by decide +kernel)⟩
theorem lw_p65 : lw_okq (⟨"MapMachineModel", "readAll", "()V"⟩, 66) := ⟨⟨by decide +kernel, by decide +kernel⟩, List.mem_of_getElem? (i := 1040) (by decide +kernel), List.mem_of_getElem? (i := 1289) (by decide +kernel), List.mem_of_getElem? (i := 1290) (by decide +kernel)⟩
theorem lw_p66 : lw_okq (⟨"MapMachineModel", "readStatements", "(II)V"⟩, 66) := ⟨⟨by decide +kernel, by decide +kernel⟩, List.mem_of_getElem? (i := 1040) (by decide +kernel), List.mem_of_getElem? (i := 1293) (by decide +kernel), List.mem_of_getElem? (i := 1294) (by decide +kernel)⟩
theorem lw_p67 : lw_okq (⟨"MapMachineModel", "fill", "(I)V"⟩, 66) := ⟨⟨by decide +kernel, by decide +kernel⟩, List.mem_of_getElem? (i := 1040) (by decide +kernel), List.mem_of_getElem? (i := 1297) (by decide +kernel), List.mem_of_getElem? (i := 1298) (by decide +kernel)⟩
theorem lw_p68 : lw_okq (⟨"MapMachineModel", "newHole", "()I"⟩, 66) := ⟨⟨by decide +kernel, by decide +kernel⟩, List.mem_of_getElem? (i := 1040) (by decide +kernel), List.mem_of_getElem? (i := 1301) (by decide +kernel), List.mem_of_getElem? (i := 1302) (by decide +kernel)⟩
theorem lw_p69 : lw_okq (⟨"MapMachineModel", "lay", "(I)V"⟩, 66) := ⟨⟨by decide +kernel, by decide +kernel⟩, List.mem_of_getElem? (i := 1040) (by decide +kernel), List.mem_of_getElem? (i := 1305) (by decide +kernel), List.mem_of_getElem? (i := 1306) (by decide +kernel)⟩
theorem lw_p70 : lw_okq (⟨"MapMachineModel", "layHole", "(I)V"⟩, 66) := ⟨⟨by decide +kernel, by decide +kernel⟩, List.mem_of_getElem? (i := 1040) (by decide +kernel), List.mem_of_getElem? (i := 1309) (by decide +kernel), List.mem_of_getElem? (i := 1310) (by decide +kernel)⟩
theorem lw_p71 : lw_okq (⟨"MapMachineModel", "isDeep", "(I)Z"⟩, 66) := ⟨⟨by decide +kernel, by decide +kernel⟩, List.mem_of_getElem? (i := 1040) (by decide +kernel), List.mem_of_getElem? (i := 1313) (by decide +kernel), List.mem_of_getElem? (i := 1314) (by decide +kernel)⟩
theorem lw_p72 : lw_okq (⟨"MapMachineModel", "mark", "()V"⟩, 66) := ⟨⟨by decide +kernel, by decide +kernel⟩, List.mem_of_getElem? (i := 1040) (by decide +kernel), List.mem_of_getElem? (i := 1317) (by decide +kernel), List.mem_of_getElem? (i := 1318) (by decide +kernel)⟩
theorem lw_p73 : lw_okq (⟨"MapMachineModel", "readStatement", "(II)V"⟩, 66) := ⟨⟨by decide +kernel, by decide +kernel⟩, List.mem_of_getElem? (i := 1040) (by decide +kernel), List.mem_of_getElem? (i := 1321) (by decide +kernel), List.mem_of_getElem? (i := 1322) (by decide +kernel)⟩
theorem lw_p74 : lw_okq (⟨"MapMachineModel", "remember", "(I)V"⟩, 66) := ⟨⟨by decide +kernel, by decide +kernel⟩, List.mem_of_getElem? (i := 1040) (by decide +kernel), List.mem_of_getElem? (i := 1325) (by decide +kernel), List.mem_of_getElem? (i := 1326) (by decide +kernel)⟩
theorem lw_p75 : lw_okq (⟨"MapMachineModel", "readOver", "(I)V"⟩, 66) := ⟨⟨by decide +kernel, by decide +kernel⟩, List.mem_of_getElem? (i := 1040) (by decide +kernel), List.mem_of_getElem? (i := 1329) (by decide +kernel), List.mem_of_getElem? (i := 1330) (by decide +kernel)⟩
theorem lw_p76 : lw_okq (⟨"MapMachineModel", "readCall", "(I)V"⟩, 66) := ⟨⟨by decide +kernel, by decide +kernel⟩, List.mem_of_getElem? (i := 1040) (by decide +kernel), List.mem_of_getElem? (i := 1333) (by decide +kernel), List.mem_of_getElem? (i := 1334) (by decide +kernel)⟩
theorem lw_p77 : lw_okq (⟨"MapMachineModel", "known", "()I"⟩, 66) := ⟨⟨by decide +kernel, by decide +kernel⟩, List.mem_of_getElem? (i := 1040) (by decide +kernel), List.mem_of_getElem? (i := 1337) (by decide +kernel), List.mem_of_getElem? (i := 1338) (by decide +kernel)⟩
theorem lw_p78 : lw_okq (⟨"MapMachineModel", "readExpression", "(I)V"⟩, 66) := ⟨⟨by decide +kernel, by decide +kernel⟩, List.mem_of_getElem? (i := 1040) (by decide +kernel), List.mem_of_getElem? (i := 1341) (by decide +kernel), List.mem_of_getElem? (i := 1342) (by decide +kernel)⟩
theorem lw_p79 : lw_okq (⟨"MapMachineModel", "readEither", "(II)V"⟩, 66) := ⟨⟨by decide +kernel, by decide +kernel⟩, List.mem_of_getElem? (i := 1040) (by decide +kernel), List.mem_of_getElem? (i := 1345) (by decide +kernel), List.mem_of_getElem? (i := 1346) (by decide +kernel)⟩
def lw_privs_5 : List (MethodName × Nat) := [(⟨"MapMachineModel", "later", "(III)V"⟩, 66), (⟨"MapMachineModel", "readAll", "()V"⟩, 66), (⟨"MapMachineModel", "readStatements", "(II)V"⟩, 66), (⟨"MapMachineModel", "fill", "(I)V"⟩, 66), (⟨"MapMachineModel", "newHole", "()I"⟩, 66), (⟨"MapMachineModel", "lay", "(I)V"⟩, 66), (⟨"MapMachineModel", "layHole", "(I)V"⟩, 66), (⟨"MapMachineModel", "isDeep", "(I)Z"⟩, 66), (⟨"MapMachineModel", "mark", "()V"⟩, 66), (⟨"MapMachineModel", "readStatement", "(II)V"⟩, 66), (⟨"MapMachineModel", "remember", "(I)V"⟩, 66), (⟨"MapMachineModel", "readOver", "(I)V"⟩, 66), (⟨"MapMachineModel", "readCall", "(I)V"⟩, 66), (⟨"MapMachineModel", "known", "()I"⟩, 66), (⟨"MapMachineModel", "readExpression", "(I)V"⟩, 66), (⟨"MapMachineModel", "readEither", "(II)V"⟩, 66)]
theorem lw_r5 : ∀ q ∈ lw_privs_5, lw_okq q := List.forall_mem_cons.mpr ⟨lw_p64, List.forall_mem_cons.mpr ⟨lw_p65, List.forall_mem_cons.mpr ⟨lw_p66, List.forall_mem_cons.mpr ⟨lw_p67, List.forall_mem_cons.mpr ⟨lw_p68, List.forall_mem_cons.mpr ⟨lw_p69, List.forall_mem_cons.mpr ⟨lw_p70, List.forall_mem_cons.mpr ⟨lw_p71, List.forall_mem_cons.mpr ⟨lw_p72, List.forall_mem_cons.mpr ⟨lw_p73, List.forall_mem_cons.mpr ⟨lw_p74, List.forall_mem_cons.mpr ⟨lw_p75, List.forall_mem_cons.mpr ⟨lw_p76, List.forall_mem_cons.mpr ⟨lw_p77, List.forall_mem_cons.mpr ⟨lw_p78, List.forall_mem_cons.mpr ⟨lw_p79, fun _ h => absurd h List.not_mem_nil⟩⟩⟩⟩⟩⟩⟩⟩⟩⟩⟩⟩⟩⟩⟩⟩
theorem lw_p80 : lw_okq (⟨"MapMachineModel", "readMap", "(I)V"⟩, 66) := ⟨⟨by decide +kernel, by decide +kernel⟩, List.mem_of_getElem? (i := 1040) (by decide +kernel), List.mem_of_getElem? (i := 1349) (by decide +kernel), List.mem_of_getElem? (i := 1350) (by decide +kernel)⟩
theorem lw_p81 : lw_okq (⟨"MapMachineModel", "layBack", "(I)V"⟩, 66) := ⟨⟨by decide +kernel, by decide +kernel⟩, List.mem_of_getElem? (i := 1040) (by decide +kernel), List.mem_of_getElem? (i := 1353) (by decide +kernel), List.mem_of_getElem? (i := 1354) (by decide +kernel)⟩
theorem lw_p82 : lw_okq (⟨"MapMachineModel", "go", "(I)V"⟩, 66) := ⟨⟨by decide +kernel, by decide +kernel⟩, List.mem_of_getElem? (i := 1040) (by decide +kernel), List.mem_of_getElem? (i := 1373) (by decide +kernel), List.mem_of_getElem? (i := 1374) (by decide +kernel)⟩
theorem lw_p83 : lw_okq (⟨"MapMachineModel", "isStep", "()Z"⟩, 66) := ⟨⟨by decide +kernel, by decide +kernel⟩, List.mem_of_getElem? (i := 1040) (by decide +kernel), List.mem_of_getElem? (i := 1377) (by decide +kernel), List.mem_of_getElem? (i := 1378) (by decide +kernel)⟩
theorem lw_p84 : lw_okq (⟨"MapMachineModel", "word", "(I)I"⟩, 66) := ⟨⟨by decide +kernel, by decide +kernel⟩, List.mem_of_getElem? (i := 1040) (by decide +kernel), List.mem_of_getElem? (i := 1381) (by decide +kernel), List.mem_of_getElem? (i := 1382) (by decide +kernel)⟩
theorem lw_p85 : lw_okq (⟨"MapMachineModel", "nextKey", "()I"⟩, 66) := ⟨⟨by decide +kernel, by decide +kernel⟩, List.mem_of_getElem? (i := 1040) (by decide +kernel), List.mem_of_getElem? (i := 1385) (by decide +kernel), List.mem_of_getElem? (i := 1386) (by decide +kernel)⟩
theorem lw_p86 : lw_okq (⟨"MapMachineModel", "above", "(IIZ)I"⟩, 66) := ⟨⟨by decide +kernel, by decide +kernel⟩, List.mem_of_getElem? (i := 1040) (by decide +kernel), List.mem_of_getElem? (i := 1389) (by decide +kernel), List.mem_of_getElem? (i := 1390) (by decide +kernel)⟩
theorem lw_p87 : lw_okq (⟨"MapMachineModel", "perform", "()V"⟩, 66) := ⟨⟨by decide +kernel, by decide +kernel⟩, List.mem_of_getElem? (i := 1040) (by decide +kernel), List.mem_of_getElem? (i := 1393) (by decide +kernel), List.mem_of_getElem? (i := 1394) (by decide +kernel)⟩
theorem lw_p88 : lw_okq (⟨"MapMachineModel", "reckon", "(I)V"⟩, 66) := ⟨⟨by decide +kernel, by decide +kernel⟩, List.mem_of_getElem? (i := 1040) (by decide +kernel), List.mem_of_getElem? (i := 1397) (by decide +kernel), List.mem_of_getElem? (i := 1398) (by decide +kernel)⟩
theorem lw_p89 : lw_okq (⟨"MapMachineModel", "end", "(I)V"⟩, 66) := ⟨⟨by decide +kernel, by decide +kernel⟩, List.mem_of_getElem? (i := 1040) (by decide +kernel), List.mem_of_getElem? (i := 1401) (by decide +kernel), List.mem_of_getElem? (i := 1402) (by decide +kernel)⟩
theorem lw_p90 : lw_okq (⟨"MapMachineModel", "push", "(I)V"⟩, 66) := ⟨⟨by decide +kernel, by decide +kernel⟩, List.mem_of_getElem? (i := 1040) (by decide +kernel), List.mem_of_getElem? (i := 1405) (by decide +kernel), List.mem_of_getElem? (i := 1406) (by decide +kernel)⟩
theorem lw_p91 : lw_okq (⟨"MapMachineModel", "variable", "(IZ)I"⟩, 66) := ⟨⟨by decide +kernel, by decide +kernel⟩, List.mem_of_getElem? (i := 1040) (by decide +kernel), List.mem_of_getElem? (i := 1409) (by decide +kernel), List.mem_of_getElem? (i := 1410) (by decide +kernel)⟩
theorem lw_p92 : lw_okq (⟨"MapMachineModel", "pop", "()I"⟩, 66) := ⟨⟨by decide +kernel, by decide +kernel⟩, List.mem_of_getElem? (i := 1040) (by decide +kernel), List.mem_of_getElem? (i := 1413) (by decide +kernel), List.mem_of_getElem? (i := 1414) (by decide +kernel)⟩
theorem lw_p93 : lw_okq (⟨"MapMachineModel", "setVariable", "(II)V"⟩, 66) := ⟨⟨by decide +kernel, by decide +kernel⟩, List.mem_of_getElem? (i := 1040) (by decide +kernel), List.mem_of_getElem? (i := 1417) (by decide +kernel), List.mem_of_getElem? (i := 1418) (by decide +kernel)⟩
theorem lw_p94 : lw_okq (⟨"MapMachineModel", "turn", "(I)V"⟩, 66) := ⟨⟨by decide +kernel, by decide +kernel⟩, List.mem_of_getElem? (i := 1040) (by decide +kernel), List.mem_of_getElem? (i := 1424) (by decide +kernel), List.mem_of_getElem? (i := 1425) (by decide +kernel)⟩
theorem lw_p95 : lw_okq (⟨"MapMachineModel", "call", "(I)V"⟩, 66) := ⟨⟨by decide +kernel, by decide +kernel⟩, List.mem_of_getElem? (i := 1040) (by decide +kernel), List.mem_of_getElem? (i := 1428) (by decide +kernel), List.mem_of_getElem? (i := 1429) (by decide +kernel)⟩
def lw_privs_6 : List (MethodName × Nat) := [(⟨"MapMachineModel", "readMap", "(I)V"⟩, 66), (⟨"MapMachineModel", "layBack", "(I)V"⟩, 66), (⟨"MapMachineModel", "go", "(I)V"⟩, 66), (⟨"MapMachineModel", "isStep", "()Z"⟩, 66), (⟨"MapMachineModel", "word", "(I)I"⟩, 66), (⟨"MapMachineModel", "nextKey", "()I"⟩, 66), (⟨"MapMachineModel", "above", "(IIZ)I"⟩, 66), (⟨"MapMachineModel", "perform", "()V"⟩, 66), (⟨"MapMachineModel", "reckon", "(I)V"⟩, 66), (⟨"MapMachineModel", "end", "(I)V"⟩, 66), (⟨"MapMachineModel", "push", "(I)V"⟩, 66), (⟨"MapMachineModel", "variable", "(IZ)I"⟩, 66), (⟨"MapMachineModel", "pop", "()I"⟩, 66), (⟨"MapMachineModel", "setVariable", "(II)V"⟩, 66), (⟨"MapMachineModel", "turn", "(I)V"⟩, 66), (⟨"MapMachineModel", "call", "(I)V"⟩, 66)]
theorem lw_r6 : ∀ q ∈ lw_privs_6, lw_okq q := List.forall_mem_cons.mpr ⟨lw_p80, List.forall_mem_cons.mpr ⟨lw_p81, List.forall_mem_cons.mpr ⟨lw_p82, List.forall_mem_cons.mpr ⟨lw_p83, List.forall_mem_cons.mpr ⟨lw_p84, List.forall_mem_cons.mpr ⟨lw_p85, List.forall_mem_cons.mpr ⟨lw_p86, List.forall_mem_cons.mpr ⟨lw_p87, List.forall_mem_cons.mpr ⟨lw_p88, List.forall_mem_cons.mpr ⟨lw_p89, List.forall_mem_cons.mpr ⟨lw_p90, List.forall_mem_cons.mpr ⟨lw_p91, List.forall_mem_cons.mpr ⟨lw_p92, List.forall_mem_cons.mpr ⟨lw_p93, List.forall_mem_cons.mpr ⟨lw_p94, List.forall_mem_cons.mpr ⟨lw_p95, fun _ h => absurd h List.not_mem_nil⟩⟩⟩⟩⟩⟩⟩⟩⟩⟩⟩⟩⟩⟩⟩⟩
theorem lw_p96 : lw_okq (⟨"MapMachineModel", "withMaps", "(I)V"⟩, 66) := ⟨⟨by decide +kernel, by decide +kernel⟩, List.mem_of_getElem? (i := 1040) (by decide +kernel), List.mem_of_getElem? (i := 1432) (by decide +kernel), List.mem_of_getElem? (i := 1433) (by decide +kernel)⟩
theorem lw_p97 : lw_okq (⟨"MapMachineModel", "mapOf", "(I)I"⟩, 66) := ⟨⟨by decide +kernel, by decide +kernel⟩, List.mem_of_getElem? (i := 1040) (by decide +kernel), List.mem_of_getElem? (i := 1436) (by decide +kernel), List.mem_of_getElem? (i := 1437) (by decide +kernel)⟩
theorem lw_p98 : lw_okq (⟨"MapMachineModel", "pushMap", "(I)V"⟩, 66) := ⟨⟨by decide +kernel, by decide +kernel⟩, List.mem_of_getElem? (i := 1040) (by decide +kernel), List.mem_of_getElem? (i := 1440) (by decide +kernel), List.mem_of_getElem? (i := 1441) (by decide +kernel)⟩
theorem lw_p99 : lw_okq (⟨"MapMachineModel", "make", "(I)V"⟩, 66) := ⟨⟨by decide +kernel, by decide +kernel⟩, List.mem_of_getElem? (i := 1040) (by decide +kernel), List.mem_of_getElem? (i := 1444) (by decide +kernel), List.mem_of_getElem? (i := 1445) (by decide +kernel)⟩
theorem lw_p100 : lw_okq (⟨"MapMachineModel", "beginMaking", "()V"⟩, 66) := ⟨⟨by decide +kernel, by decide +kernel⟩, List.mem_of_getElem? (i := 1040) (by decide +kernel), List.mem_of_getElem? (i := 1448) (by decide +kernel), List.mem_of_getElem? (i := 1449) (by decide +kernel)⟩
theorem lw_p101 : lw_okq (⟨"MapMachineModel", "findLive", "(Z)V"⟩, 66) := ⟨⟨by decide +kernel, by decide +kernel⟩, List.mem_of_getElem? (i := 1040) (by decide +kernel), List.mem_of_getElem? (i := 1452) (by decide +kernel), List.mem_of_getElem? (i := 1453) (by decide +kernel)⟩
theorem lw_p102 : lw_okq (⟨"MapMachineModel", "markTree", "(I)V"⟩, 66) := ⟨⟨by decide +kernel, by decide +kernel⟩, List.mem_of_getElem? (i := 1040) (by decide +kernel), List.mem_of_getElem? (i := 1456) (by decide +kernel), List.mem_of_getElem? (i := 1457) (by decide +kernel)⟩
theorem lw_p103 : lw_okq (⟨"MapMachineModel", "put", "(III)I"⟩, 66) := ⟨⟨by decide +kernel, by decide +kernel⟩, List.mem_of_getElem? (i := 1040) (by decide +kernel), List.mem_of_getElem? (i := 1460) (by decide +kernel), List.mem_of_getElem? (i := 1461) (by decide +kernel)⟩
theorem lw_p104 : lw_okq (⟨"MapMachineModel", "rankOf", "(I)I"⟩, 66) := ⟨⟨by decide +kernel, by decide +kernel⟩, List.mem_of_getElem? (i := 1040) (by decide +kernel), List.mem_of_getElem? (i := 1470) (by decide +kernel), List.mem_of_getElem? (i := 1471) (by decide +kernel)⟩
theorem lw_p105 : lw_okq (⟨"MapMachineModel", "cell", "(IIII)I"⟩, 66) := ⟨⟨by decide +kernel, by decide +kernel⟩, List.mem_of_getElem? (i := 1040) (by decide +kernel), List.mem_of_getElem? (i := 1474) (by decide +kernel), List.mem_of_getElem? (i := 1475) (by decide +kernel)⟩
theorem lw_p106 : lw_okq (⟨"MapMachineModel", "split", "(II)V"⟩, 66) := ⟨⟨by decide +kernel, by decide +kernel⟩, List.mem_of_getElem? (i := 1040) (by decide +kernel), List.mem_of_getElem? (i := 1478) (by decide +kernel), List.mem_of_getElem? (i := 1479) (by decide +kernel)⟩
theorem lw_p107 : lw_okq (⟨"MapMachineModel", "climb", "(II)I"⟩, 66) := ⟨⟨by decide +kernel, by decide +kernel⟩, List.mem_of_getElem? (i := 1040) (by decide +kernel), List.mem_of_getElem? (i := 1482) (by decide +kernel), List.mem_of_getElem? (i := 1483) (by decide +kernel)⟩
theorem lw_p108 : lw_okq (⟨"MapMachineModel", "without", "(II)I"⟩, 66) := ⟨⟨by decide +kernel, by decide +kernel⟩, List.mem_of_getElem? (i := 1040) (by decide +kernel), List.mem_of_getElem? (i := 1486) (by decide +kernel), List.mem_of_getElem? (i := 1487) (by decide +kernel)⟩
theorem lw_p109 : lw_okq (⟨"MapMachineModel", "find", "(II)I"⟩, 66) := ⟨⟨by decide +kernel, by decide +kernel⟩, List.mem_of_getElem? (i := 1040) (by decide +kernel), List.mem_of_getElem? (i := 1490) (by decide +kernel), List.mem_of_getElem? (i := 1491) (by decide +kernel)⟩
theorem lw_p110 : lw_okq (⟨"MapMachineModel", "union", "(II)I"⟩, 66) := ⟨⟨by decide +kernel, by decide +kernel⟩, List.mem_of_getElem? (i := 1040) (by decide +kernel), List.mem_of_getElem? (i := 1494) (by decide +kernel), List.mem_of_getElem? (i := 1495) (by decide +kernel)⟩
theorem lw_p111 : lw_okq (⟨"MapMachineModel", "isMade", "()Z"⟩, 66) := ⟨⟨by decide +kernel, by decide +kernel⟩, List.mem_of_getElem? (i := 1040) (by decide +kernel), List.mem_of_getElem? (i := 1498) (by decide +kernel), List.mem_of_getElem? (i := 1499) (by decide +kernel)⟩
def lw_privs_7 : List (MethodName × Nat) := [(⟨"MapMachineModel", "withMaps", "(I)V"⟩, 66), (⟨"MapMachineModel", "mapOf", "(I)I"⟩, 66), (⟨"MapMachineModel", "pushMap", "(I)V"⟩, 66), (⟨"MapMachineModel", "make", "(I)V"⟩, 66), (⟨"MapMachineModel", "beginMaking", "()V"⟩, 66), (⟨"MapMachineModel", "findLive", "(Z)V"⟩, 66), (⟨"MapMachineModel", "markTree", "(I)V"⟩, 66), (⟨"MapMachineModel", "put", "(III)I"⟩, 66), (⟨"MapMachineModel", "rankOf", "(I)I"⟩, 66), (⟨"MapMachineModel", "cell", "(IIII)I"⟩, 66), (⟨"MapMachineModel", "split", "(II)V"⟩, 66), (⟨"MapMachineModel", "climb", "(II)I"⟩, 66), (⟨"MapMachineModel", "without", "(II)I"⟩, 66), (⟨"MapMachineModel", "find", "(II)I"⟩, 66), (⟨"MapMachineModel", "union", "(II)I"⟩, 66), (⟨"MapMachineModel", "isMade", "()Z"⟩, 66)]
theorem lw_r7 : ∀ q ∈ lw_privs_7, lw_okq q := List.forall_mem_cons.mpr ⟨lw_p96, List.forall_mem_cons.mpr ⟨lw_p97, List.forall_mem_cons.mpr ⟨lw_p98, List.forall_mem_cons.mpr ⟨lw_p99, List.forall_mem_cons.mpr ⟨lw_p100, List.forall_mem_cons.mpr ⟨lw_p101, List.forall_mem_cons.mpr ⟨lw_p102, List.forall_mem_cons.mpr ⟨lw_p103, List.forall_mem_cons.mpr ⟨lw_p104, List.forall_mem_cons.mpr ⟨lw_p105, List.forall_mem_cons.mpr ⟨lw_p106, List.forall_mem_cons.mpr ⟨lw_p107, List.forall_mem_cons.mpr ⟨lw_p108, List.forall_mem_cons.mpr ⟨lw_p109, List.forall_mem_cons.mpr ⟨lw_p110, List.forall_mem_cons.mpr ⟨lw_p111, fun _ h => absurd h List.not_mem_nil⟩⟩⟩⟩⟩⟩⟩⟩⟩⟩⟩⟩⟩⟩⟩⟩
theorem lw_p112 : lw_okq (⟨"MapMachineModel", "goOver", "()V"⟩, 66) := ⟨⟨by decide +kernel, by decide +kernel⟩, List.mem_of_getElem? (i := 1040) (by decide +kernel), List.mem_of_getElem? (i := 1502) (by decide +kernel), List.mem_of_getElem? (i := 1503) (by decide +kernel)⟩
theorem lw_p113 : lw_okq (⟨"MapMachineModel", "look", "(I)V"⟩, 66) := ⟨⟨by decide +kernel, by decide +kernel⟩, List.mem_of_getElem? (i := 1040) (by decide +kernel), List.mem_of_getElem? (i := 1506) (by decide +kernel), List.mem_of_getElem? (i := 1507) (by decide +kernel)⟩
theorem lw_p114 : lw_okq (⟨"MapMachineModel", "sizeOf", "(I)I"⟩, 66) := ⟨⟨by decide +kernel, by decide +kernel⟩, List.mem_of_getElem? (i := 1040) (by decide +kernel), List.mem_of_getElem? (i := 1510) (by decide +kernel), List.mem_of_getElem? (i := 1511) (by decide +kernel)⟩
theorem lw_p115 : lw_okq (⟨"MapMachineModel", "floor", "(II)I"⟩, 66) := ⟨⟨by decide +kernel, by decide +kernel⟩, List.mem_of_getElem? (i := 1040) (by decide +kernel), List.mem_of_getElem? (i := 1514) (by decide +kernel), List.mem_of_getElem? (i := 1515) (by decide +kernel)⟩
def lw_privs_8 : List (MethodName × Nat) := [(⟨"MapMachineModel", "goOver", "()V"⟩, 66), (⟨"MapMachineModel", "look", "(I)V"⟩, 66), (⟨"MapMachineModel", "sizeOf", "(I)I"⟩, 66), (⟨"MapMachineModel", "floor", "(II)I"⟩, 66)]
theorem lw_r8 : ∀ q ∈ lw_privs_8, lw_okq q := List.forall_mem_cons.mpr ⟨lw_p112, List.forall_mem_cons.mpr ⟨lw_p113, List.forall_mem_cons.mpr ⟨lw_p114, List.forall_mem_cons.mpr ⟨lw_p115, fun _ h => absurd h List.not_mem_nil⟩⟩⟩⟩
def lw_privs : List (MethodName × Nat) := lw_privs_1 ++ (lw_privs_2 ++ (lw_privs_3 ++ (lw_privs_4 ++ (lw_privs_5 ++ (lw_privs_6 ++ (lw_privs_7 ++ (lw_privs_8)))))))
def lw_tbl : List Cond := k2_sels lw_privs ++ tables_1
theorem lw_privs_ok : ∀ q ∈ lw_privs, lw_okq q := by
  show ∀ q ∈ lw_privs_1 ++ (lw_privs_2 ++ (lw_privs_3 ++ (lw_privs_4 ++ (lw_privs_5 ++ (lw_privs_6 ++ (lw_privs_7 ++ (lw_privs_8))))))), lw_okq q
  exact List.forall_mem_append.mpr ⟨lw_r1, List.forall_mem_append.mpr ⟨lw_r2, List.forall_mem_append.mpr ⟨lw_r3, List.forall_mem_append.mpr ⟨lw_r4, List.forall_mem_append.mpr ⟨lw_r5, List.forall_mem_append.mpr ⟨lw_r6, List.forall_mem_append.mpr ⟨lw_r7, lw_r8⟩⟩⟩⟩⟩⟩⟩
end
section
def RX0 : String := "MapMachine$Cells"
def TX0 : u_T := fun k => match k with
  | 0 => ("MapMachine$Cells", "keys", "[I", true)
  | 1 => ("MapMachine$Cells", "values", "[I", true)
  | 2 => ("MapMachine$Cells", "ranks", "[I", true)
  | 3 => ("MapMachine$Cells", "lessers", "[I", true)
  | 4 => ("MapMachine$Cells", "greaters", "[I", true)
  | 5 => ("MapMachine$Cells", "free", "[I", true)
  | 6 => ("MapMachine$Cells", "rounds", "[I", true)
  | 7 => ("MapMachine$Cells", "waiting", "[I", true)
  | 8 => ("MapMachine$Cells", "freeCount", "I", false)
  | 9 => ("MapMachine$Cells", "freeBefore", "I", false)
  | 10 => ("MapMachine$Cells", "round", "I", false)
  | 11 => ("MapMachine$Cells", "reached", "I", false)
  | 12 => ("MapMachine$Cells", "seed", "I", false)
  | 13 => ("MapMachine$Cells", "room", "I", false)
  | 14 => ("MapMachine$Cells", "made", "I", false)
  | _ => ("MapMachine$Cells", "over", "Z", false)
def tyX0 : Nat → FieldType := fun k => match k with
  | 0 => .array .int
  | 1 => .array .int
  | 2 => .array .int
  | 3 => .array .int
  | 4 => .array .int
  | 5 => .array .int
  | 6 => .array .int
  | 7 => .array .int
  | 8 => .int
  | 9 => .int
  | 10 => .int
  | 11 => .int
  | 12 => .int
  | 13 => .int
  | 14 => .int
  | _ => .boolean
abbrev wsX00 : List Cond := u_ws RX0 TX0 16
theorem nmX0 : ∀ a, a < 16 → ∀ b, b < 16 → a ≠ b → (TX0 a).2.1 ≠ (TX0 b).2.1 := by decide +kernel
theorem tyX0_ok : ∀ k, k < 16 → parseFieldDescriptor (TX0 k).2.2.1 = some (tyX0 k) := by decide +kernel
abbrev cX0_init : ByteArray := prog_2_method_1_code
def yX0_init : MethodName := ⟨RX0, "<init>", "()V"⟩
abbrev cX0_furnish : ByteArray := prog_2_method_2_code
def yX0_furnish : MethodName := ⟨RX0, "furnish", "(II)V"⟩
abbrev cX0_giveBackAll : ByteArray := prog_2_method_3_code
def yX0_giveBackAll : MethodName := ⟨RX0, "giveBackAll", "()V"⟩
abbrev cX0_key : ByteArray := prog_2_method_4_code
def yX0_key : MethodName := ⟨RX0, "key", "(I)I"⟩
abbrev cX0_value : ByteArray := prog_2_method_5_code
def yX0_value : MethodName := ⟨RX0, "value", "(I)I"⟩
abbrev cX0_rank : ByteArray := prog_2_method_6_code
def yX0_rank : MethodName := ⟨RX0, "rank", "(I)I"⟩
abbrev cX0_lesser : ByteArray := prog_2_method_7_code
def yX0_lesser : MethodName := ⟨RX0, "lesser", "(I)I"⟩
abbrev cX0_greater : ByteArray := prog_2_method_8_code
def yX0_greater : MethodName := ⟨RX0, "greater", "(I)I"⟩
abbrev cX0_rankOf : ByteArray := prog_2_method_9_code
def yX0_rankOf : MethodName := ⟨RX0, "rankOf", "(I)I"⟩
abbrev cX0_beginMaking : ByteArray := prog_2_method_10_code
def yX0_beginMaking : MethodName := ⟨RX0, "beginMaking", "()V"⟩
abbrev cX0_copy : ByteArray := prog_2_method_11_code
def yX0_copy : MethodName := ⟨RX0, "copy", "(I)I"⟩
abbrev cX0_make : ByteArray := prog_2_method_12_code
def yX0_make : MethodName := ⟨RX0, "make", "(IIII)I"⟩
abbrev cX0_hang : ByteArray := prog_2_method_13_code
def yX0_hang : MethodName := ⟨RX0, "hang", "(II)V"⟩
abbrev cX0_over : ByteArray := prog_2_method_14_code
def yX0_over : MethodName := ⟨RX0, "over", "()Z"⟩
abbrev cX0_made : ByteArray := prog_2_method_15_code
def yX0_made : MethodName := ⟨RX0, "made", "()I"⟩
abbrev cX0_surelyFits : ByteArray := prog_2_method_16_code
def yX0_surelyFits : MethodName := ⟨RX0, "surelyFits", "()Z"⟩
abbrev cX0_fits : ByteArray := prog_2_method_17_code
def yX0_fits : MethodName := ⟨RX0, "fits", "()Z"⟩
abbrev cX0_undo : ByteArray := prog_2_method_18_code
def yX0_undo : MethodName := ⟨RX0, "undo", "()V"⟩
abbrev cX0_beginReaching : ByteArray := prog_2_method_19_code
def yX0_beginReaching : MethodName := ⟨RX0, "beginReaching", "()V"⟩
abbrev cX0_reached : ByteArray := prog_2_method_20_code
def yX0_reached : MethodName := ⟨RX0, "reached", "()I"⟩
abbrev cX0_reach : ByteArray := prog_2_method_21_code
def yX0_reach : MethodName := ⟨RX0, "reach", "(I)V"⟩
abbrev cX0_giveBackUnreached : ByteArray := prog_2_method_22_code
def yX0_giveBackUnreached : MethodName := ⟨RX0, "giveBackUnreached", "()V"⟩
abbrev cX0_size : ByteArray := prog_2_method_23_code
def yX0_size : MethodName := ⟨RX0, "size", "(I)I"⟩
abbrev cX0_find : ByteArray := prog_2_method_24_code
def yX0_find : MethodName := ⟨RX0, "find", "(II)I"⟩
abbrev cX0_least : ByteArray := prog_2_method_25_code
def yX0_least : MethodName := ⟨RX0, "least", "(IJ)I"⟩
abbrev cX0_floor : ByteArray := prog_2_method_26_code
def yX0_floor : MethodName := ⟨RX0, "floor", "(II)I"⟩
abbrev cX0_nth : ByteArray := prog_2_method_27_code
def yX0_nth : MethodName := ⟨RX0, "nth", "(II)I"⟩
def RX1 : String := "MapMachine$Compiler"
def TX1 : u_T := fun k => match k with
  | 0 => ("MapMachine$Compiler", "program", "LMapMachine$Program;", true)
  | 1 => ("MapMachine$Compiler", "next", "I", false)
  | 2 => ("MapMachine$Compiler", "fault", "I", false)
  | _ => ("MapMachine$Compiler", "inMain", "Z", false)
def tyX1 : Nat → FieldType := fun k => match k with
  | 0 => .object "MapMachine$Program"
  | 1 => .int
  | 2 => .int
  | _ => .boolean
abbrev wsX10 : List Cond := u_ws RX1 TX1 4
theorem nmX1 : ∀ a, a < 4 → ∀ b, b < 4 → a ≠ b → (TX1 a).2.1 ≠ (TX1 b).2.1 := by decide +kernel
theorem tyX1_ok : ∀ k, k < 4 → parseFieldDescriptor (TX1 k).2.2.1 = some (tyX1 k) := by decide +kernel
abbrev cX1_init : ByteArray := prog_3_method_1_code
def yX1_init : MethodName := ⟨RX1, "<init>", "(LMapMachine$Program;)V"⟩
abbrev cX1_translate : ByteArray := prog_3_method_2_code
def yX1_translate : MethodName := ⟨RX1, "translate", "()I"⟩
abbrev cX1_fail : ByteArray := prog_3_method_3_code
def yX1_fail : MethodName := ⟨RX1, "fail", "(I)Z"⟩
abbrev cX1_functions : ByteArray := prog_3_method_4_code
def yX1_functions : MethodName := ⟨RX1, "functions", "()Z"⟩
abbrev cX1_mainPart : ByteArray := prog_3_method_5_code
def yX1_mainPart : MethodName := ⟨RX1, "mainPart", "()Z"⟩
abbrev cX1_passEnd : ByteArray := prog_3_method_6_code
def yX1_passEnd : MethodName := ⟨RX1, "passEnd", "()Z"⟩
abbrev cX1_bare : ByteArray := prog_3_method_7_code
def yX1_bare : MethodName := ⟨RX1, "bare", "(I)Z"⟩
abbrev cX1_anyNumber : ByteArray := prog_3_method_8_code
def yX1_anyNumber : MethodName := ⟨RX1, "anyNumber", "()Z"⟩
abbrev cX1_newFunction : ByteArray := prog_3_method_9_code
def yX1_newFunction : MethodName := ⟨RX1, "newFunction", "()Z"⟩
abbrev cX1_knownFunction : ByteArray := prog_3_method_10_code
def yX1_knownFunction : MethodName := ⟨RX1, "knownFunction", "()Z"⟩
abbrev cX1_block : ByteArray := prog_3_method_11_code
def yX1_block : MethodName := ⟨RX1, "block", "(I)Z"⟩
abbrev cX1_statement : ByteArray := prog_3_method_12_code
def yX1_statement : MethodName := ⟨RX1, "statement", "(I)Z"⟩
abbrev cX1_finishStatement : ByteArray := prog_3_method_13_code
def yX1_finishStatement : MethodName := ⟨RX1, "finishStatement", "(I)V"⟩
abbrev cX1_choice : ByteArray := prog_3_method_14_code
def yX1_choice : MethodName := ⟨RX1, "choice", "(I)Z"⟩
abbrev cX1_repetition : ByteArray := prog_3_method_15_code
def yX1_repetition : MethodName := ⟨RX1, "repetition", "(I)Z"⟩
abbrev cX1_eachKey : ByteArray := prog_3_method_16_code
def yX1_eachKey : MethodName := ⟨RX1, "eachKey", "(I)Z"⟩
abbrev cX1_loopRest : ByteArray := prog_3_method_17_code
def yX1_loopRest : MethodName := ⟨RX1, "loopRest", "(III)Z"⟩
abbrev cX1_numberPart : ByteArray := prog_3_method_18_code
def yX1_numberPart : MethodName := ⟨RX1, "numberPart", "(I)Z"⟩
abbrev cX1_mapPart : ByteArray := prog_3_method_19_code
def yX1_mapPart : MethodName := ⟨RX1, "mapPart", "(I)Z"⟩
abbrev cX1_shortcut : ByteArray := prog_3_method_20_code
def yX1_shortcut : MethodName := ⟨RX1, "shortcut", "(I)Z"⟩
abbrev cX1_plain : ByteArray := prog_3_method_21_code
def yX1_plain : MethodName := ⟨RX1, "plain", "(I)Z"⟩
abbrev cX1_argument : ByteArray := prog_3_method_22_code
def yX1_argument : MethodName := ⟨RX1, "argument", "(I)Z"⟩
abbrev cX1_parts : ByteArray := prog_3_method_23_code
def yX1_parts : MethodName := ⟨RX1, "parts", "(II)Z"⟩
def RX2 : String := "MapMachine$Program"
def TX2 : u_T := fun k => match k with
  | 0 => ("MapMachine$Program", "tokens", "[I", true)
  | 1 => ("MapMachine$Program", "behind", "[I", true)
  | 2 => ("MapMachine$Program", "turn", "[I", true)
  | 3 => ("MapMachine$Program", "words", "[I", true)
  | 4 => ("MapMachine$Program", "parameters", "[I", true)
  | 5 => ("MapMachine$Program", "firstWord", "[I", true)
  | 6 => ("MapMachine$Program", "firstToken", "[I", true)
  | 7 => ("MapMachine$Program", "mainWord", "I", false)
  | 8 => ("MapMachine$Program", "mainToken", "I", false)
  | 9 => ("MapMachine$Program", "tokenCount", "I", false)
  | 10 => ("MapMachine$Program", "emitted", "I", false)
  | 11 => ("MapMachine$Program", "compiled", "Z", false)
  | _ => ("MapMachine$Program", "fault", "I", false)
def tyX2 : Nat → FieldType := fun k => match k with
  | 0 => .array .int
  | 1 => .array .int
  | 2 => .array .int
  | 3 => .array .int
  | 4 => .array .int
  | 5 => .array .int
  | 6 => .array .int
  | 7 => .int
  | 8 => .int
  | 9 => .int
  | 10 => .int
  | 11 => .boolean
  | _ => .int
abbrev wsX20 : List Cond := u_ws RX2 TX2 13
theorem nmX2 : ∀ a, a < 13 → ∀ b, b < 13 → a ≠ b → (TX2 a).2.1 ≠ (TX2 b).2.1 := by decide +kernel
theorem tyX2_ok : ∀ k, k < 13 → parseFieldDescriptor (TX2 k).2.2.1 = some (tyX2 k) := by decide +kernel
abbrev cX2_init : ByteArray := prog_4_method_1_code
def yX2_init : MethodName := ⟨RX2, "<init>", "()V"⟩
abbrev cX2_clear : ByteArray := prog_4_method_2_code
def yX2_clear : MethodName := ⟨RX2, "clear", "()V"⟩
abbrev cX2_add : ByteArray := prog_4_method_3_code
def yX2_add : MethodName := ⟨RX2, "add", "(I)Z"⟩
abbrev cX2_forgetCode : ByteArray := prog_4_method_4_code
def yX2_forgetCode : MethodName := ⟨RX2, "forgetCode", "()V"⟩
abbrev cX2_accept : ByteArray := prog_4_method_5_code
def yX2_accept : MethodName := ⟨RX2, "accept", "()V"⟩
abbrev cX2_refuse : ByteArray := prog_4_method_6_code
def yX2_refuse : MethodName := ⟨RX2, "refuse", "(I)V"⟩
abbrev cX2_size : ByteArray := prog_4_method_7_code
def yX2_size : MethodName := ⟨RX2, "size", "()I"⟩
abbrev cX2_ready : ByteArray := prog_4_method_8_code
def yX2_ready : MethodName := ⟨RX2, "ready", "()Z"⟩
abbrev cX2_faultPlace : ByteArray := prog_4_method_9_code
def yX2_faultPlace : MethodName := ⟨RX2, "faultPlace", "()I"⟩
abbrev cX2_hasToken : ByteArray := prog_4_method_10_code
def yX2_hasToken : MethodName := ⟨RX2, "hasToken", "(I)Z"⟩
abbrev cX2_token : ByteArray := prog_4_method_11_code
def yX2_token : MethodName := ⟨RX2, "token", "(I)I"⟩
abbrev cX2_behind : ByteArray := prog_4_method_12_code
def yX2_behind : MethodName := ⟨RX2, "behind", "(I)I"⟩
abbrev cX2_setBehind : ByteArray := prog_4_method_13_code
def yX2_setBehind : MethodName := ⟨RX2, "setBehind", "(II)V"⟩
abbrev cX2_turn : ByteArray := prog_4_method_14_code
def yX2_turn : MethodName := ⟨RX2, "turn", "(I)I"⟩
abbrev cX2_setTurn : ByteArray := prog_4_method_15_code
def yX2_setTurn : MethodName := ⟨RX2, "setTurn", "(II)V"⟩
abbrev cX2_hasFunction : ByteArray := prog_4_method_16_code
def yX2_hasFunction : MethodName := ⟨RX2, "hasFunction", "(I)Z"⟩
abbrev cX2_addFunction : ByteArray := prog_4_method_17_code
def yX2_addFunction : MethodName := ⟨RX2, "addFunction", "(III)V"⟩
abbrev cX2_addMain : ByteArray := prog_4_method_18_code
def yX2_addMain : MethodName := ⟨RX2, "addMain", "(I)V"⟩
abbrev cX2_parameters : ByteArray := prog_4_method_19_code
def yX2_parameters : MethodName := ⟨RX2, "parameters", "(I)I"⟩
abbrev cX2_firstWord : ByteArray := prog_4_method_20_code
def yX2_firstWord : MethodName := ⟨RX2, "firstWord", "(I)I"⟩
abbrev cX2_firstToken : ByteArray := prog_4_method_21_code
def yX2_firstToken : MethodName := ⟨RX2, "firstToken", "(I)I"⟩
abbrev cX2_mainWord : ByteArray := prog_4_method_22_code
def yX2_mainWord : MethodName := ⟨RX2, "mainWord", "()I"⟩
abbrev cX2_mainToken : ByteArray := prog_4_method_23_code
def yX2_mainToken : MethodName := ⟨RX2, "mainToken", "()I"⟩
abbrev cX2_numbers : ByteArray := prog_4_method_24_code
def yX2_numbers : MethodName := ⟨RX2, "numbers", "(I)I"⟩
abbrev cX2_emit : ByteArray := prog_4_method_25_code
def yX2_emit : MethodName := ⟨RX2, "emit", "(I)V"⟩
abbrev cX2_emitHole : ByteArray := prog_4_method_26_code
def yX2_emitHole : MethodName := ⟨RX2, "emitHole", "()I"⟩
abbrev cX2_fillHole : ByteArray := prog_4_method_27_code
def yX2_fillHole : MethodName := ⟨RX2, "fillHole", "(I)V"⟩
abbrev cX2_emitted : ByteArray := prog_4_method_28_code
def yX2_emitted : MethodName := ⟨RX2, "emitted", "()I"⟩
abbrev cX2_wordCount : ByteArray := prog_4_method_29_code
def yX2_wordCount : MethodName := ⟨RX2, "wordCount", "()I"⟩
abbrev cX2_word : ByteArray := prog_4_method_30_code
def yX2_word : MethodName := ⟨RX2, "word", "(I)I"⟩
def RX3 : String := "MapMachine$Rows"
def TX3 : u_T := fun k => match k with
  | _ => ("", "", "", false)
def tyX3 : Nat → FieldType := fun k => match k with
  | _ => .int
abbrev wsX30 : List Cond := u_ws RX3 TX3 0
theorem nmX3 : ∀ a, a < 0 → ∀ b, b < 0 → a ≠ b → (TX3 a).2.1 ≠ (TX3 b).2.1 := by decide +kernel
theorem tyX3_ok : ∀ k, k < 0 → parseFieldDescriptor (TX3 k).2.2.1 = some (tyX3 k) := by decide +kernel
abbrev cX3_at : ByteArray := prog_5_method_2_code
def yX3_at : MethodName := ⟨RX3, "at", "([II)I"⟩
abbrev cX3_at_ : ByteArray := prog_5_method_3_code
def yX3_at_ : MethodName := ⟨RX3, "at", "([JI)J"⟩
abbrev cX3_set : ByteArray := prog_5_method_4_code
def yX3_set : MethodName := ⟨RX3, "set", "([III)V"⟩
abbrev cX3_set_ : ByteArray := prog_5_method_5_code
def yX3_set_ : MethodName := ⟨RX3, "set", "([JIJ)V"⟩
abbrev cX3_zero : ByteArray := prog_5_method_6_code
def yX3_zero : MethodName := ⟨RX3, "zero", "([I)V"⟩
def RX4 : String := "MapMachine$Runner"
def TX4 : u_T := fun k => match k with
  | 0 => ("MapMachine$Runner", "program", "LMapMachine$Program;", true)
  | 1 => ("MapMachine$Runner", "store", "LMapMachine$Store;", true)
  | 2 => ("MapMachine$Runner", "begun", "Z", false)
  | 3 => ("MapMachine$Runner", "next", "I", false)
  | _ => ("MapMachine$Runner", "end", "I", false)
def tyX4 : Nat → FieldType := fun k => match k with
  | 0 => .object "MapMachine$Program"
  | 1 => .object "MapMachine$Store"
  | 2 => .boolean
  | 3 => .int
  | _ => .int
abbrev wsX40 : List Cond := u_ws RX4 TX4 5
theorem nmX4 : ∀ a, a < 5 → ∀ b, b < 5 → a ≠ b → (TX4 a).2.1 ≠ (TX4 b).2.1 := by decide +kernel
theorem tyX4_ok : ∀ k, k < 5 → parseFieldDescriptor (TX4 k).2.2.1 = some (tyX4 k) := by decide +kernel
abbrev cX4_init : ByteArray := prog_6_method_1_code
def yX4_init : MethodName := ⟨RX4, "<init>", "(LMapMachine$Program;LMapMachine$Store;)V"⟩
abbrev cX4_begin : ByteArray := prog_6_method_2_code
def yX4_begin : MethodName := ⟨RX4, "begin", "()V"⟩
abbrev cX4_drop : ByteArray := prog_6_method_3_code
def yX4_drop : MethodName := ⟨RX4, "drop", "()V"⟩
abbrev cX4_there : ByteArray := prog_6_method_4_code
def yX4_there : MethodName := ⟨RX4, "there", "()Z"⟩
abbrev cX4_nextWord : ByteArray := prog_6_method_5_code
def yX4_nextWord : MethodName := ⟨RX4, "nextWord", "()I"⟩
abbrev cX4_end : ByteArray := prog_6_method_6_code
def yX4_end : MethodName := ⟨RX4, "end", "()I"⟩
abbrev cX4_goOn : ByteArray := prog_6_method_7_code
def yX4_goOn : MethodName := ⟨RX4, "goOn", "(I)I"⟩
abbrev cX4_step : ByteArray := prog_6_method_8_code
def yX4_step : MethodName := ⟨RX4, "step", "()V"⟩
abbrev cX4_goIf : ByteArray := prog_6_method_9_code
def yX4_goIf : MethodName := ⟨RX4, "goIf", "(ZI)V"⟩
abbrev cX4_call : ByteArray := prog_6_method_10_code
def yX4_call : MethodName := ⟨RX4, "call", "(I)V"⟩
abbrev cX4_nextKey : ByteArray := prog_6_method_11_code
def yX4_nextKey : MethodName := ⟨RX4, "nextKey", "(I)V"⟩
def RX5 : String := "MapMachine$Store"
def TX5 : u_T := fun k => match k with
  | 0 => ("MapMachine$Store", "cells", "LMapMachine$Cells;", true)
  | 1 => ("MapMachine$Store", "trees", "LMapMachine$Trees;", true)
  | 2 => ("MapMachine$Store", "variables", "[I", true)
  | 3 => ("MapMachine$Store", "maps", "[I", true)
  | 4 => ("MapMachine$Store", "numberStack", "[I", true)
  | 5 => ("MapMachine$Store", "mapStack", "[I", true)
  | 6 => ("MapMachine$Store", "nextKeys", "[J", true)
  | 7 => ("MapMachine$Store", "numberBases", "[I", true)
  | 8 => ("MapMachine$Store", "mapBases", "[I", true)
  | 9 => ("MapMachine$Store", "backs", "[I", true)
  | 10 => ("MapMachine$Store", "told", "[I", true)
  | 11 => ("MapMachine$Store", "numberTop", "I", false)
  | 12 => ("MapMachine$Store", "mapTop", "I", false)
  | 13 => ("MapMachine$Store", "calls", "I", false)
  | 14 => ("MapMachine$Store", "toldCount", "I", false)
  | 15 => ("MapMachine$Store", "steps", "I", false)
  | _ => ("MapMachine$Store", "mostMade", "I", false)
def tyX5 : Nat → FieldType := fun k => match k with
  | 0 => .object "MapMachine$Cells"
  | 1 => .object "MapMachine$Trees"
  | 2 => .array .int
  | 3 => .array .int
  | 4 => .array .int
  | 5 => .array .int
  | 6 => .array .long
  | 7 => .array .int
  | 8 => .array .int
  | 9 => .array .int
  | 10 => .array .int
  | 11 => .int
  | 12 => .int
  | 13 => .int
  | 14 => .int
  | 15 => .int
  | _ => .int
abbrev wsX50 : List Cond := u_ws RX5 TX5 17
theorem nmX5 : ∀ a, a < 17 → ∀ b, b < 17 → a ≠ b → (TX5 a).2.1 ≠ (TX5 b).2.1 := by decide +kernel
theorem tyX5_ok : ∀ k, k < 17 → parseFieldDescriptor (TX5 k).2.2.1 = some (tyX5 k) := by decide +kernel
abbrev cX5_init : ByteArray := prog_7_method_1_code
def yX5_init : MethodName := ⟨RX5, "<init>", "(LMapMachine$Cells;)V"⟩
abbrev cX5_clear : ByteArray := prog_7_method_2_code
def yX5_clear : MethodName := ⟨RX5, "clear", "()V"⟩
abbrev cX5_begin : ByteArray := prog_7_method_3_code
def yX5_begin : MethodName := ⟨RX5, "begin", "(I)V"⟩
abbrev cX5_forgetCalls : ByteArray := prog_7_method_4_code
def yX5_forgetCalls : MethodName := ⟨RX5, "forgetCalls", "()V"⟩
abbrev cX5_steps : ByteArray := prog_7_method_5_code
def yX5_steps : MethodName := ⟨RX5, "steps", "()I"⟩
abbrev cX5_addStep : ByteArray := prog_7_method_6_code
def yX5_addStep : MethodName := ⟨RX5, "addStep", "()V"⟩
abbrev cX5_calls : ByteArray := prog_7_method_7_code
def yX5_calls : MethodName := ⟨RX5, "calls", "()I"⟩
abbrev cX5_mostMade : ByteArray := prog_7_method_8_code
def yX5_mostMade : MethodName := ⟨RX5, "mostMade", "()I"⟩
abbrev cX5_toldCount : ByteArray := prog_7_method_9_code
def yX5_toldCount : MethodName := ⟨RX5, "toldCount", "()I"⟩
abbrev cX5_told : ByteArray := prog_7_method_10_code
def yX5_told : MethodName := ⟨RX5, "told", "(I)I"⟩
abbrev cX5_variablePlace : ByteArray := prog_7_method_11_code
def yX5_variablePlace : MethodName := ⟨RX5, "variablePlace", "(I)I"⟩
abbrev cX5_mapPlace : ByteArray := prog_7_method_12_code
def yX5_mapPlace : MethodName := ⟨RX5, "mapPlace", "(I)I"⟩
abbrev cX5_number : ByteArray := prog_7_method_13_code
def yX5_number : MethodName := ⟨RX5, "number", "(I)I"⟩
abbrev cX5_setNumber : ByteArray := prog_7_method_14_code
def yX5_setNumber : MethodName := ⟨RX5, "setNumber", "(II)V"⟩
abbrev cX5_tree : ByteArray := prog_7_method_15_code
def yX5_tree : MethodName := ⟨RX5, "tree", "(I)I"⟩
abbrev cX5_push : ByteArray := prog_7_method_16_code
def yX5_push : MethodName := ⟨RX5, "push", "(I)V"⟩
abbrev cX5_pop : ByteArray := prog_7_method_17_code
def yX5_pop : MethodName := ⟨RX5, "pop", "()I"⟩
abbrev cX5_pushMap : ByteArray := prog_7_method_18_code
def yX5_pushMap : MethodName := ⟨RX5, "pushMap", "(I)V"⟩
abbrev cX5_popMap : ByteArray := prog_7_method_19_code
def yX5_popMap : MethodName := ⟨RX5, "popMap", "()I"⟩
abbrev cX5_comingCell : ByteArray := prog_7_method_20_code
def yX5_comingCell : MethodName := ⟨RX5, "comingCell", "()I"⟩
abbrev cX5_comeTo : ByteArray := prog_7_method_21_code
def yX5_comeTo : MethodName := ⟨RX5, "comeTo", "(III)V"⟩
abbrev cX5_enter : ByteArray := prog_7_method_22_code
def yX5_enter : MethodName := ⟨RX5, "enter", "(II)Z"⟩
abbrev cX5_leave : ByteArray := prog_7_method_23_code
def yX5_leave : MethodName := ⟨RX5, "leave", "(I)I"⟩
abbrev cX5_apply : ByteArray := prog_7_method_24_code
def yX5_apply : MethodName := ⟨RX5, "apply", "(II)I"⟩
abbrev cX5_tell : ByteArray := prog_7_method_25_code
def yX5_tell : MethodName := ⟨RX5, "tell", "(I)I"⟩
abbrev cX5_applyToNumbers : ByteArray := prog_7_method_26_code
def yX5_applyToNumbers : MethodName := ⟨RX5, "applyToNumbers", "(I)I"⟩
abbrev cX5_askMap : ByteArray := prog_7_method_27_code
def yX5_askMap : MethodName := ⟨RX5, "askMap", "(I)V"⟩
abbrev cX5_pushFloor : ByteArray := prog_7_method_28_code
def yX5_pushFloor : MethodName := ⟨RX5, "pushFloor", "()V"⟩
abbrev cX5_changeMap : ByteArray := prog_7_method_29_code
def yX5_changeMap : MethodName := ⟨RX5, "changeMap", "(I)I"⟩
abbrev cX5_takeParts : ByteArray := prog_7_method_30_code
def yX5_takeParts : MethodName := ⟨RX5, "takeParts", "(I)V"⟩
abbrev cX5_keep : ByteArray := prog_7_method_31_code
def yX5_keep : MethodName := ⟨RX5, "keep", "(I)Z"⟩
abbrev cX5_live : ByteArray := prog_7_method_32_code
def yX5_live : MethodName := ⟨RX5, "live", "()I"⟩
abbrev cX5_reachAll : ByteArray := prog_7_method_33_code
def yX5_reachAll : MethodName := ⟨RX5, "reachAll", "()V"⟩
def RX6 : String := "MapMachine$Token"
def TX6 : u_T := fun k => match k with
  | _ => ("", "", "", false)
def tyX6 : Nat → FieldType := fun k => match k with
  | _ => .int
abbrev wsX60 : List Cond := u_ws RX6 TX6 0
theorem nmX6 : ∀ a, a < 0 → ∀ b, b < 0 → a ≠ b → (TX6 a).2.1 ≠ (TX6 b).2.1 := by decide +kernel
theorem tyX6_ok : ∀ k, k < 0 → parseFieldDescriptor (TX6 k).2.2.1 = some (tyX6 k) := by decide +kernel
abbrev cX6_isStatement : ByteArray := prog_8_method_2_code
def yX6_isStatement : MethodName := ⟨RX6, "isStatement", "(I)Z"⟩
abbrev cX6_isNumber : ByteArray := prog_8_method_3_code
def yX6_isNumber : MethodName := ⟨RX6, "isNumber", "(I)Z"⟩
abbrev cX6_isMap : ByteArray := prog_8_method_4_code
def yX6_isMap : MethodName := ⟨RX6, "isMap", "(I)Z"⟩
abbrev cX6_arguments : ByteArray := prog_8_method_5_code
def yX6_arguments : MethodName := ⟨RX6, "arguments", "(I)I"⟩
abbrev cX6_maps : ByteArray := prog_8_method_6_code
def yX6_maps : MethodName := ⟨RX6, "maps", "(I)I"⟩
abbrev cX6_numbers : ByteArray := prog_8_method_7_code
def yX6_numbers : MethodName := ⟨RX6, "numbers", "(I)I"⟩
abbrev cX6_word : ByteArray := prog_8_method_8_code
def yX6_word : MethodName := ⟨RX6, "word", "(I)I"⟩
def RX7 : String := "MapMachine$Trees"
def TX7 : u_T := fun k => match k with
  | 0 => ("MapMachine$Trees", "cells", "LMapMachine$Cells;", true)
  | 1 => ("MapMachine$Trees", "firsts", "[I", true)
  | 2 => ("MapMachine$Trees", "seconds", "[I", true)
  | 3 => ("MapMachine$Trees", "holes", "[I", true)
  | 4 => ("MapMachine$Trees", "unionCount", "I", false)
  | _ => ("MapMachine$Trees", "hole", "I", false)
def tyX7 : Nat → FieldType := fun k => match k with
  | 0 => .object "MapMachine$Cells"
  | 1 => .array .int
  | 2 => .array .int
  | 3 => .array .int
  | 4 => .int
  | _ => .int
abbrev wsX70 : List Cond := u_ws RX7 TX7 6
theorem nmX7 : ∀ a, a < 6 → ∀ b, b < 6 → a ≠ b → (TX7 a).2.1 ≠ (TX7 b).2.1 := by decide +kernel
theorem tyX7_ok : ∀ k, k < 6 → parseFieldDescriptor (TX7 k).2.2.1 = some (tyX7 k) := by decide +kernel
abbrev cX7_init : ByteArray := prog_9_method_1_code
def yX7_init : MethodName := ⟨RX7, "<init>", "(LMapMachine$Cells;)V"⟩
abbrev cX7_put : ByteArray := prog_9_method_2_code
def yX7_put : MethodName := ⟨RX7, "put", "(III)I"⟩
abbrev cX7_without : ByteArray := prog_9_method_3_code
def yX7_without : MethodName := ⟨RX7, "without", "(II)I"⟩
abbrev cX7_union : ByteArray := prog_9_method_4_code
def yX7_union : MethodName := ⟨RX7, "union", "(II)I"⟩
abbrev cX7_unite : ByteArray := prog_9_method_5_code
def yX7_unite : MethodName := ⟨RX7, "unite", "(III)V"⟩
abbrev cX7_copyTowards : ByteArray := prog_9_method_6_code
def yX7_copyTowards : MethodName := ⟨RX7, "copyTowards", "(II)I"⟩
abbrev cX7_split : ByteArray := prog_9_method_7_code
def yX7_split : MethodName := ⟨RX7, "split", "(II)V"⟩
abbrev cX7_join : ByteArray := prog_9_method_8_code
def yX7_join : MethodName := ⟨RX7, "join", "(II)V"⟩
def RX8 : String := "MapMachine$Walker"
def TX8 : u_T := fun k => match k with
  | 0 => ("MapMachine$Walker", "program", "LMapMachine$Program;", true)
  | 1 => ("MapMachine$Walker", "store", "LMapMachine$Store;", true)
  | 2 => ("MapMachine$Walker", "places", "[I", true)
  | 3 => ("MapMachine$Walker", "stages", "[I", true)
  | 4 => ("MapMachine$Walker", "open", "I", false)
  | 5 => ("MapMachine$Walker", "next", "I", false)
  | 6 => ("MapMachine$Walker", "granted", "I", false)
  | 7 => ("MapMachine$Walker", "stopped", "Z", false)
  | _ => ("MapMachine$Walker", "end", "I", false)
def tyX8 : Nat → FieldType := fun k => match k with
  | 0 => .object "MapMachine$Program"
  | 1 => .object "MapMachine$Store"
  | 2 => .array .int
  | 3 => .array .int
  | 4 => .int
  | 5 => .int
  | 6 => .int
  | 7 => .boolean
  | _ => .int
abbrev wsX80 : List Cond := u_ws RX8 TX8 9
theorem nmX8 : ∀ a, a < 9 → ∀ b, b < 9 → a ≠ b → (TX8 a).2.1 ≠ (TX8 b).2.1 := by decide +kernel
theorem tyX8_ok : ∀ k, k < 9 → parseFieldDescriptor (TX8 k).2.2.1 = some (tyX8 k) := by decide +kernel
abbrev cX8_init : ByteArray := prog_10_method_1_code
def yX8_init : MethodName := ⟨RX8, "<init>", "(LMapMachine$Program;LMapMachine$Store;)V"⟩
abbrev cX8_walk : ByteArray := prog_10_method_2_code
def yX8_walk : MethodName := ⟨RX8, "walk", "(I)I"⟩
abbrev cX8_openAt : ByteArray := prog_10_method_3_code
def yX8_openAt : MethodName := ⟨RX8, "openAt", "(I)V"⟩
abbrev cX8_close : ByteArray := prog_10_method_4_code
def yX8_close : MethodName := ⟨RX8, "close", "()V"⟩
abbrev cX8_closeBehind : ByteArray := prog_10_method_5_code
def yX8_closeBehind : MethodName := ⟨RX8, "closeBehind", "(I)V"⟩
abbrev cX8_setStage : ByteArray := prog_10_method_6_code
def yX8_setStage : MethodName := ⟨RX8, "setStage", "(I)V"⟩
abbrev cX8_mayStep : ByteArray := prog_10_method_7_code
def yX8_mayStep : MethodName := ⟨RX8, "mayStep", "()Z"⟩
abbrev cX8_beginNext : ByteArray := prog_10_method_8_code
def yX8_beginNext : MethodName := ⟨RX8, "beginNext", "()V"⟩
abbrev cX8_body : ByteArray := prog_10_method_9_code
def yX8_body : MethodName := ⟨RX8, "body", "()V"⟩
abbrev cX8_comeBack : ByteArray := prog_10_method_10_code
def yX8_comeBack : MethodName := ⟨RX8, "comeBack", "(I)V"⟩
abbrev cX8_beginPart : ByteArray := prog_10_method_11_code
def yX8_beginPart : MethodName := ⟨RX8, "beginPart", "(I)V"⟩
abbrev cX8_choice : ByteArray := prog_10_method_12_code
def yX8_choice : MethodName := ⟨RX8, "choice", "(II)V"⟩
abbrev cX8_repetition : ByteArray := prog_10_method_13_code
def yX8_repetition : MethodName := ⟨RX8, "repetition", "(II)V"⟩
abbrev cX8_eachKey : ByteArray := prog_10_method_14_code
def yX8_eachKey : MethodName := ⟨RX8, "eachKey", "(II)V"⟩
abbrev cX8_comeToKey : ByteArray := prog_10_method_15_code
def yX8_comeToKey : MethodName := ⟨RX8, "comeToKey", "(I)V"⟩
abbrev cX8_answer : ByteArray := prog_10_method_16_code
def yX8_answer : MethodName := ⟨RX8, "answer", "(I)V"⟩
abbrev cX8_call : ByteArray := prog_10_method_17_code
def yX8_call : MethodName := ⟨RX8, "call", "(II)V"⟩
abbrev cX8_enter : ByteArray := prog_10_method_18_code
def yX8_enter : MethodName := ⟨RX8, "enter", "(II)V"⟩
abbrev cX8_shortcut : ByteArray := prog_10_method_19_code
def yX8_shortcut : MethodName := ⟨RX8, "shortcut", "(II)V"⟩
abbrev cX8_plain : ByteArray := prog_10_method_20_code
def yX8_plain : MethodName := ⟨RX8, "plain", "(II)V"⟩
def RX9 : String := "MapMachine$Word"
def TX9 : u_T := fun k => match k with
  | _ => ("", "", "", false)
def tyX9 : Nat → FieldType := fun k => match k with
  | _ => .int
abbrev wsX90 : List Cond := u_ws RX9 TX9 0
theorem nmX9 : ∀ a, a < 0 → ∀ b, b < 0 → a ≠ b → (TX9 a).2.1 ≠ (TX9 b).2.1 := by decide +kernel
theorem tyX9_ok : ∀ k, k < 0 → parseFieldDescriptor (TX9 k).2.2.1 = some (tyX9 k) := by decide +kernel
abbrev cX9_length : ByteArray := prog_11_method_2_code
def yX9_length : MethodName := ⟨RX9, "length", "(I)I"⟩
def RX10 : String := "MapMachine"
def TX10 : u_T := fun k => match k with
  | 0 => ("MapMachine", "program", "LMapMachine$Program;", true)
  | 1 => ("MapMachine", "compiler", "LMapMachine$Compiler;", true)
  | 2 => ("MapMachine", "cells", "LMapMachine$Cells;", true)
  | 3 => ("MapMachine", "store", "LMapMachine$Store;", true)
  | 4 => ("MapMachine", "runner", "LMapMachine$Runner;", true)
  | _ => ("MapMachine", "walker", "LMapMachine$Walker;", true)
def tyX10 : Nat → FieldType := fun k => match k with
  | 0 => .object "MapMachine$Program"
  | 1 => .object "MapMachine$Compiler"
  | 2 => .object "MapMachine$Cells"
  | 3 => .object "MapMachine$Store"
  | 4 => .object "MapMachine$Runner"
  | _ => .object "MapMachine$Walker"
abbrev wsX100 : List Cond := u_ws RX10 TX10 6
theorem nmX10 : ∀ a, a < 6 → ∀ b, b < 6 → a ≠ b → (TX10 a).2.1 ≠ (TX10 b).2.1 := by decide +kernel
theorem tyX10_ok : ∀ k, k < 6 → parseFieldDescriptor (TX10 k).2.2.1 = some (tyX10 k) := by decide +kernel
abbrev cX10_init : ByteArray := prog_1_method_1_code
def yX10_init : MethodName := ⟨RX10, "<init>", "()V"⟩
abbrev cX10_init_ : ByteArray := prog_1_method_2_code
def yX10_init_ : MethodName := ⟨RX10, "init", "(II)I"⟩
abbrev cX10_feed : ByteArray := prog_1_method_3_code
def yX10_feed : MethodName := ⟨RX10, "feed", "(I)I"⟩
abbrev cX10_compile : ByteArray := prog_1_method_4_code
def yX10_compile : MethodName := ⟨RX10, "compile", "()I"⟩
abbrev cX10_place : ByteArray := prog_1_method_5_code
def yX10_place : MethodName := ⟨RX10, "place", "()I"⟩
abbrev cX10_code : ByteArray := prog_1_method_6_code
def yX10_code : MethodName := ⟨RX10, "code", "(I)I"⟩
abbrev cX10_start : ByteArray := prog_1_method_7_code
def yX10_start : MethodName := ⟨RX10, "start", "(I)I"⟩
abbrev cX10_run : ByteArray := prog_1_method_8_code
def yX10_run : MethodName := ⟨RX10, "run", "(I)I"⟩
abbrev cX10_interpret : ByteArray := prog_1_method_9_code
def yX10_interpret : MethodName := ⟨RX10, "interpret", "(II)I"⟩
abbrev cX10_outSize : ByteArray := prog_1_method_10_code
def yX10_outSize : MethodName := ⟨RX10, "outSize", "()I"⟩
abbrev cX10_out : ByteArray := prog_1_method_11_code
def yX10_out : MethodName := ⟨RX10, "out", "(I)I"⟩
abbrev cX10_variable : ByteArray := prog_1_method_12_code
def yX10_variable : MethodName := ⟨RX10, "variable", "(I)I"⟩
abbrev cX10_map : ByteArray := prog_1_method_13_code
def yX10_map : MethodName := ⟨RX10, "map", "(III)I"⟩
abbrev cX10_count : ByteArray := prog_1_method_14_code
def yX10_count : MethodName := ⟨RX10, "count", "(I)I"⟩
abbrev cX10_mayBeGranted : ByteArray := prog_1_method_15_code
def yX10_mayBeGranted : MethodName := ⟨RX10, "mayBeGranted", "(I)Z"⟩
abbrev cX10_leaveRun : ByteArray := prog_1_method_16_code
def yX10_leaveRun : MethodName := ⟨RX10, "leaveRun", "()V"⟩
def RX11 : String := "MapMachineModel"
def TX11 : u_T := fun k => match k with
  | 0 => ("MapMachineModel", "tokens", "[I", true)
  | 1 => ("MapMachineModel", "tokenMany", "I", false)
  | 2 => ("MapMachineModel", "at", "I", false)
  | 3 => ("MapMachineModel", "fault", "I", false)
  | 4 => ("MapMachineModel", "faultPlace", "I", false)
  | 5 => ("MapMachineModel", "isCompiled", "Z", false)
  | 6 => ("MapMachineModel", "words", "[I", true)
  | 7 => ("MapMachineModel", "wordMany", "I", false)
  | 8 => ("MapMachineModel", "marked", "[I", true)
  | 9 => ("MapMachineModel", "markedMany", "I", false)
  | 10 => ("MapMachineModel", "mainWord", "I", false)
  | 11 => ("MapMachineModel", "mainMarked", "I", false)
  | 12 => ("MapMachineModel", "inMain", "Z", false)
  | 13 => ("MapMachineModel", "isFunction", "[Z", true)
  | 14 => ("MapMachineModel", "parameters", "[I", true)
  | 15 => ("MapMachineModel", "functionWord", "[I", true)
  | 16 => ("MapMachineModel", "functionMarked", "[I", true)
  | 17 => ("MapMachineModel", "todo", "[I", true)
  | 18 => ("MapMachineModel", "todoNumber", "[I", true)
  | 19 => ("MapMachineModel", "todoDeep", "[I", true)
  | 20 => ("MapMachineModel", "todos", "I", false)
  | 21 => ("MapMachineModel", "holeWord", "[I", true)
  | 22 => ("MapMachineModel", "holeMarked", "[I", true)
  | 23 => ("MapMachineModel", "holes", "I", false)
  | 24 => ("MapMachineModel", "keys", "[I", true)
  | 25 => ("MapMachineModel", "values", "[I", true)
  | 26 => ("MapMachineModel", "lesser", "[I", true)
  | 27 => ("MapMachineModel", "greater", "[I", true)
  | 28 => ("MapMachineModel", "isLive", "[Z", true)
  | 29 => ("MapMachineModel", "pile", "[I", true)
  | 30 => ("MapMachineModel", "live", "I", false)
  | 31 => ("MapMachineModel", "nextCell", "I", false)
  | 32 => ("MapMachineModel", "made", "I", false)
  | 33 => ("MapMachineModel", "most", "I", false)
  | 34 => ("MapMachineModel", "isFull", "Z", false)
  | 35 => ("MapMachineModel", "seed", "I", false)
  | 36 => ("MapMachineModel", "room", "I", false)
  | 37 => ("MapMachineModel", "variables", "[I", true)
  | 38 => ("MapMachineModel", "maps", "[I", true)
  | 39 => ("MapMachineModel", "ownVariables", "[I", true)
  | 40 => ("MapMachineModel", "ownMaps", "[I", true)
  | 41 => ("MapMachineModel", "returnTo", "[I", true)
  | 42 => ("MapMachineModel", "heights", "[I", true)
  | 43 => ("MapMachineModel", "calls", "I", false)
  | 44 => ("MapMachineModel", "isMap", "[Z", true)
  | 45 => ("MapMachineModel", "stack", "[I", true)
  | 46 => ("MapMachineModel", "isGoing", "[Z", true)
  | 47 => ("MapMachineModel", "lastKey", "[I", true)
  | 48 => ("MapMachineModel", "height", "I", false)
  | 49 => ("MapMachineModel", "told", "[I", true)
  | 50 => ("MapMachineModel", "tolds", "I", false)
  | 51 => ("MapMachineModel", "next", "I", false)
  | 52 => ("MapMachineModel", "steps", "I", false)
  | 53 => ("MapMachineModel", "ended", "I", false)
  | 54 => ("MapMachineModel", "isRun", "Z", false)
  | 55 => ("MapMachineModel", "isStraight", "Z", false)
  | 56 => ("MapMachineModel", "way", "[I", true)
  | 57 => ("MapMachineModel", "wayMany", "I", false)
  | 58 => ("MapMachineModel", "low", "I", false)
  | 59 => ("MapMachineModel", "high", "I", false)
  | 60 => ("MapMachineModel", "unionKey", "[I", true)
  | 61 => ("MapMachineModel", "unionValue", "[I", true)
  | 62 => ("MapMachineModel", "unionOne", "[I", true)
  | 63 => ("MapMachineModel", "unionOther", "[I", true)
  | 64 => ("MapMachineModel", "unionLow", "[I", true)
  | _ => ("MapMachineModel", "unionSecond", "[Z", true)
def tyX11 : Nat → FieldType := fun k => match k with
  | 0 => .array .int
  | 1 => .int
  | 2 => .int
  | 3 => .int
  | 4 => .int
  | 5 => .boolean
  | 6 => .array .int
  | 7 => .int
  | 8 => .array .int
  | 9 => .int
  | 10 => .int
  | 11 => .int
  | 12 => .boolean
  | 13 => .array .boolean
  | 14 => .array .int
  | 15 => .array .int
  | 16 => .array .int
  | 17 => .array .int
  | 18 => .array .int
  | 19 => .array .int
  | 20 => .int
  | 21 => .array .int
  | 22 => .array .int
  | 23 => .int
  | 24 => .array .int
  | 25 => .array .int
  | 26 => .array .int
  | 27 => .array .int
  | 28 => .array .boolean
  | 29 => .array .int
  | 30 => .int
  | 31 => .int
  | 32 => .int
  | 33 => .int
  | 34 => .boolean
  | 35 => .int
  | 36 => .int
  | 37 => .array .int
  | 38 => .array .int
  | 39 => .array .int
  | 40 => .array .int
  | 41 => .array .int
  | 42 => .array .int
  | 43 => .int
  | 44 => .array .boolean
  | 45 => .array .int
  | 46 => .array .boolean
  | 47 => .array .int
  | 48 => .int
  | 49 => .array .int
  | 50 => .int
  | 51 => .int
  | 52 => .int
  | 53 => .int
  | 54 => .boolean
  | 55 => .boolean
  | 56 => .array .int
  | 57 => .int
  | 58 => .int
  | 59 => .int
  | 60 => .array .int
  | 61 => .array .int
  | 62 => .array .int
  | 63 => .array .int
  | 64 => .array .int
  | _ => .array .boolean
abbrev wsX110 : List Cond := u_ws RX11 TX11 66
theorem nmX11 : ∀ a, a < 66 → ∀ b, b < 66 → a ≠ b → (TX11 a).2.1 ≠ (TX11 b).2.1 := by decide +kernel
theorem tyX11_ok : ∀ k, k < 66 → parseFieldDescriptor (TX11 k).2.2.1 = some (tyX11 k) := by decide +kernel
abbrev cX11_init : ByteArray := prog_13_method_1_code
def yX11_init : MethodName := ⟨RX11, "<init>", "()V"⟩
abbrev cX11_in : ByteArray := prog_13_method_2_code
def yX11_in : MethodName := ⟨RX11, "in", "(III)Z"⟩
abbrev cX11_init_ : ByteArray := prog_13_method_3_code
def yX11_init_ : MethodName := ⟨RX11, "init", "(II)I"⟩
abbrev cX11_feed : ByteArray := prog_13_method_4_code
def yX11_feed : MethodName := ⟨RX11, "feed", "(I)I"⟩
abbrev cX11_token : ByteArray := prog_13_method_5_code
def yX11_token : MethodName := ⟨RX11, "token", "()I"⟩
abbrev cX11_wrong : ByteArray := prog_13_method_6_code
def yX11_wrong : MethodName := ⟨RX11, "wrong", "(I)V"⟩
abbrev cX11_number : ByteArray := prog_13_method_7_code
def yX11_number : MethodName := ⟨RX11, "number", "(I)I"⟩
abbrev cX11_known : ByteArray := prog_13_method_8_code
def yX11_known : MethodName := ⟨RX11, "known", "()I"⟩
abbrev cX11_later : ByteArray := prog_13_method_9_code
def yX11_later : MethodName := ⟨RX11, "later", "(III)V"⟩
abbrev cX11_lay : ByteArray := prog_13_method_10_code
def yX11_lay : MethodName := ⟨RX11, "lay", "(I)V"⟩
abbrev cX11_mark : ByteArray := prog_13_method_11_code
def yX11_mark : MethodName := ⟨RX11, "mark", "()V"⟩
abbrev cX11_newHole : ByteArray := prog_13_method_12_code
def yX11_newHole : MethodName := ⟨RX11, "newHole", "()I"⟩
abbrev cX11_layHole : ByteArray := prog_13_method_13_code
def yX11_layHole : MethodName := ⟨RX11, "layHole", "(I)V"⟩
abbrev cX11_fill : ByteArray := prog_13_method_14_code
def yX11_fill : MethodName := ⟨RX11, "fill", "(I)V"⟩
abbrev cX11_layBack : ByteArray := prog_13_method_15_code
def yX11_layBack : MethodName := ⟨RX11, "layBack", "(I)V"⟩
abbrev cX11_remember : ByteArray := prog_13_method_16_code
def yX11_remember : MethodName := ⟨RX11, "remember", "(I)V"⟩
abbrev cX11_readAll : ByteArray := prog_13_method_17_code
def yX11_readAll : MethodName := ⟨RX11, "readAll", "()V"⟩
abbrev cX11_isDeep : ByteArray := prog_13_method_18_code
def yX11_isDeep : MethodName := ⟨RX11, "isDeep", "(I)Z"⟩
abbrev cX11_readStatements : ByteArray := prog_13_method_19_code
def yX11_readStatements : MethodName := ⟨RX11, "readStatements", "(II)V"⟩
abbrev cX11_readStatement : ByteArray := prog_13_method_20_code
def yX11_readStatement : MethodName := ⟨RX11, "readStatement", "(II)V"⟩
abbrev cX11_readOver : ByteArray := prog_13_method_21_code
def yX11_readOver : MethodName := ⟨RX11, "readOver", "(I)V"⟩
abbrev cX11_readCall : ByteArray := prog_13_method_22_code
def yX11_readCall : MethodName := ⟨RX11, "readCall", "(I)V"⟩
abbrev cX11_readExpression : ByteArray := prog_13_method_23_code
def yX11_readExpression : MethodName := ⟨RX11, "readExpression", "(I)V"⟩
abbrev cX11_readEither : ByteArray := prog_13_method_24_code
def yX11_readEither : MethodName := ⟨RX11, "readEither", "(II)V"⟩
abbrev cX11_readMap : ByteArray := prog_13_method_25_code
def yX11_readMap : MethodName := ⟨RX11, "readMap", "(I)V"⟩
abbrev cX11_readFunction : ByteArray := prog_13_method_26_code
def yX11_readFunction : MethodName := ⟨RX11, "readFunction", "()V"⟩
abbrev cX11_compile : ByteArray := prog_13_method_27_code
def yX11_compile : MethodName := ⟨RX11, "compile", "()I"⟩
abbrev cX11_place : ByteArray := prog_13_method_28_code
def yX11_place : MethodName := ⟨RX11, "place", "()I"⟩
abbrev cX11_code : ByteArray := prog_13_method_29_code
def yX11_code : MethodName := ⟨RX11, "code", "(I)I"⟩
abbrev cX11_rank : ByteArray := prog_13_method_30_code
def yX11_rank : MethodName := ⟨RX11, "rank", "(II)I"⟩
abbrev cX11_rankOf : ByteArray := prog_13_method_31_code
def yX11_rankOf : MethodName := ⟨RX11, "rankOf", "(I)I"⟩
abbrev cX11_markTree : ByteArray := prog_13_method_32_code
def yX11_markTree : MethodName := ⟨RX11, "markTree", "(I)V"⟩
abbrev cX11_findLive : ByteArray := prog_13_method_33_code
def yX11_findLive : MethodName := ⟨RX11, "findLive", "(Z)V"⟩
abbrev cX11_beginMaking : ByteArray := prog_13_method_34_code
def yX11_beginMaking : MethodName := ⟨RX11, "beginMaking", "()V"⟩
abbrev cX11_cell : ByteArray := prog_13_method_35_code
def yX11_cell : MethodName := ⟨RX11, "cell", "(IIII)I"⟩
abbrev cX11_split : ByteArray := prog_13_method_36_code
def yX11_split : MethodName := ⟨RX11, "split", "(II)V"⟩
abbrev cX11_climb : ByteArray := prog_13_method_37_code
def yX11_climb : MethodName := ⟨RX11, "climb", "(II)I"⟩
abbrev cX11_put : ByteArray := prog_13_method_38_code
def yX11_put : MethodName := ⟨RX11, "put", "(III)I"⟩
abbrev cX11_find : ByteArray := prog_13_method_39_code
def yX11_find : MethodName := ⟨RX11, "find", "(II)I"⟩
abbrev cX11_without : ByteArray := prog_13_method_40_code
def yX11_without : MethodName := ⟨RX11, "without", "(II)I"⟩
abbrev cX11_union : ByteArray := prog_13_method_41_code
def yX11_union : MethodName := ⟨RX11, "union", "(II)I"⟩
abbrev cX11_isMade : ByteArray := prog_13_method_42_code
def yX11_isMade : MethodName := ⟨RX11, "isMade", "()Z"⟩
abbrev cX11_sizeOf : ByteArray := prog_13_method_43_code
def yX11_sizeOf : MethodName := ⟨RX11, "sizeOf", "(I)I"⟩
abbrev cX11_above : ByteArray := prog_13_method_44_code
def yX11_above : MethodName := ⟨RX11, "above", "(IIZ)I"⟩
abbrev cX11_floor : ByteArray := prog_13_method_45_code
def yX11_floor : MethodName := ⟨RX11, "floor", "(II)I"⟩
abbrev cX11_clear : ByteArray := prog_13_method_46_code
def yX11_clear : MethodName := ⟨RX11, "clear", "(I)V"⟩
abbrev cX11_clearOwn : ByteArray := prog_13_method_47_code
def yX11_clearOwn : MethodName := ⟨RX11, "clearOwn", "()V"⟩
abbrev cX11_start : ByteArray := prog_13_method_48_code
def yX11_start : MethodName := ⟨RX11, "start", "(I)I"⟩
abbrev cX11_run : ByteArray := prog_13_method_49_code
def yX11_run : MethodName := ⟨RX11, "run", "(I)I"⟩
abbrev cX11_interpret : ByteArray := prog_13_method_50_code
def yX11_interpret : MethodName := ⟨RX11, "interpret", "(II)I"⟩
abbrev cX11_word : ByteArray := prog_13_method_51_code
def yX11_word : MethodName := ⟨RX11, "word", "(I)I"⟩
abbrev cX11_isStep : ByteArray := prog_13_method_52_code
def yX11_isStep : MethodName := ⟨RX11, "isStep", "()Z"⟩
abbrev cX11_nextKey : ByteArray := prog_13_method_53_code
def yX11_nextKey : MethodName := ⟨RX11, "nextKey", "()I"⟩
abbrev cX11_go : ByteArray := prog_13_method_54_code
def yX11_go : MethodName := ⟨RX11, "go", "(I)V"⟩
abbrev cX11_push : ByteArray := prog_13_method_55_code
def yX11_push : MethodName := ⟨RX11, "push", "(I)V"⟩
abbrev cX11_pushMap : ByteArray := prog_13_method_56_code
def yX11_pushMap : MethodName := ⟨RX11, "pushMap", "(I)V"⟩
abbrev cX11_pop : ByteArray := prog_13_method_57_code
def yX11_pop : MethodName := ⟨RX11, "pop", "()I"⟩
abbrev cX11_variable : ByteArray := prog_13_method_58_code
def yX11_variable : MethodName := ⟨RX11, "variable", "(IZ)I"⟩
abbrev cX11_setVariable : ByteArray := prog_13_method_59_code
def yX11_setVariable : MethodName := ⟨RX11, "setVariable", "(II)V"⟩
abbrev cX11_perform : ByteArray := prog_13_method_60_code
def yX11_perform : MethodName := ⟨RX11, "perform", "()V"⟩
abbrev cX11_end : ByteArray := prog_13_method_61_code
def yX11_end : MethodName := ⟨RX11, "end", "(I)V"⟩
abbrev cX11_reckon : ByteArray := prog_13_method_62_code
def yX11_reckon : MethodName := ⟨RX11, "reckon", "(I)V"⟩
abbrev cX11_of : ByteArray := prog_13_method_63_code
def yX11_of : MethodName := ⟨RX11, "of", "(III)I"⟩
abbrev cX11_turn : ByteArray := prog_13_method_64_code
def yX11_turn : MethodName := ⟨RX11, "turn", "(I)V"⟩
abbrev cX11_call : ByteArray := prog_13_method_65_code
def yX11_call : MethodName := ⟨RX11, "call", "(I)V"⟩
abbrev cX11_mapOf : ByteArray := prog_13_method_66_code
def yX11_mapOf : MethodName := ⟨RX11, "mapOf", "(I)I"⟩
abbrev cX11_withMaps : ByteArray := prog_13_method_67_code
def yX11_withMaps : MethodName := ⟨RX11, "withMaps", "(I)V"⟩
abbrev cX11_make : ByteArray := prog_13_method_68_code
def yX11_make : MethodName := ⟨RX11, "make", "(I)V"⟩
abbrev cX11_look : ByteArray := prog_13_method_69_code
def yX11_look : MethodName := ⟨RX11, "look", "(I)V"⟩
abbrev cX11_goOver : ByteArray := prog_13_method_70_code
def yX11_goOver : MethodName := ⟨RX11, "goOver", "()V"⟩
abbrev cX11_outSize : ByteArray := prog_13_method_71_code
def yX11_outSize : MethodName := ⟨RX11, "outSize", "()I"⟩
abbrev cX11_out : ByteArray := prog_13_method_72_code
def yX11_out : MethodName := ⟨RX11, "out", "(I)I"⟩
abbrev cX11_variable_ : ByteArray := prog_13_method_73_code
def yX11_variable_ : MethodName := ⟨RX11, "variable", "(I)I"⟩
abbrev cX11_map : ByteArray := prog_13_method_74_code
def yX11_map : MethodName := ⟨RX11, "map", "(III)I"⟩
abbrev cX11_count : ByteArray := prog_13_method_75_code
def yX11_count : MethodName := ⟨RX11, "count", "(I)I"⟩
def RL : String := "MapMachineLaw"
abbrev cL_law : ByteArray := code
def yL_law : MethodName := ⟨RL, "law", "([I)Z"⟩
abbrev vwCl : List vw_C := [(RX0, TX0, 16), (RX1, TX1, 4), (RX2, TX2, 13), (RX4, TX4, 5), (RX5, TX5, 17), (RX7, TX7, 6), (RX8, TX8, 9), (RX10, TX10, 6), (RX11, TX11, 66)]
end
section
/-! A SMALL MACHINE over a flat store: what a method's bytecode does, as a predicate over its end. Places stand for addresses; nothing is made. -/
/-- the store: the ints of objects by place and field, the ints of rows by place and index, the longs of rows -/
abbrev mv_S : Type := (Nat → Nat → Int32) × (Nat → Nat → Int32) × (Nat → Nat → Int64)
/-- a cell's shape: an object (its class's number, its fields: 0 an int, 1 a boolean, i + 2 the cell at place i), or a row (0 ints, 1 booleans, 2 longs; its length) -/
abbrev mv_D : Type := (Nat × List Nat) ⊕ (Nat × Nat)
def mv_f (ad : Nat → Nat) (x : Int32) : Nat → Value
  | 0 => .int x
  | 1 => .int x
  | i + 2 => .ref (ad i)
def mv_fs (ad : Nat → Nat) (v : Nat → Int32) : Nat → List Nat → List Value
  | _, [] => []
  | k, f :: r => mv_f ad (v k) f :: mv_fs ad v (k + 1) r
def mv_c (cy : Nat → ClassId) (ad : Nat → Nat) (S : mv_S) (q : Nat) : mv_D → va_E
  | .inl (ci, fs) => .inr (ci, mv_fs ad (S.1 q) 0 fs)
  | .inr (0, n) => .inl (cy 0, n, .inl (S.2.1 q))
  | .inr (1, n) => .inl (cy 1, n, .inl (S.2.1 q))
  | .inr (_ + 2, n) => .inl (cy 2, n, .inr (.inl (S.2.2 q)))
def mv_w (cy : Nat → ClassId) (ad : Nat → Nat) (S : mv_S) : Nat → List mv_D → va_W
  | _, [] => []
  | q, d :: r => (ad q, mv_c cy ad S q d) :: mv_w cy ad S (q + 1) r
def mv_tys (cy : Nat → ClassId) : List (ClassId × FieldType) := [(cy 0, .int), (cy 1, .boolean), (cy 2, .long)]
def mv_pf (S : mv_S) (q k : Nat) (x : Int32) : mv_S := (va_up S.1 q (upd (S.1 q) k x), S.2.1, S.2.2)
def mv_pr (S : mv_S) (q k : Nat) (x : Int32) : mv_S := (S.1, va_up S.2.1 q (upd (S.2.1 q) k x), S.2.2)
def mv_pl (S : mv_S) (q k : Nat) (x : Int64) : mv_S := (S.1, S.2.1, va_up S.2.2 q (vp_updL (S.2.2 q) k x))
/-- a value with places, as the machine has it -/
def mv_k (ad : Nat → Nat) : Value → Value
  | .ref i => .ref (ad i)
  | v => v
def mv_ks (ad : Nat → Nat) (l : List (Nat × Value)) : List (Nat × Value) := l.map (fun q => (q.1, mv_k ad q.2))
/-- a table: what stands at a number -/
def mv_at {α : Type} (i : Nat) : List (Nat × α) → Option α
  | [] => none
  | (j, a) :: r => bif Nat.beq j i then some a else mv_at i r
def mv_sv (i : Nat) (x : Value) (lv : List (Nat × Value)) : List (Nat × Value) := (i, x) :: lv.filter (fun q => !(q.1 == i) && !(q.1 + 1 == i && q.2.category == 2))
/-- a class's links: fields (index: class's number, field), ints, longs, methods -/
abbrev mv_T : Type := List (Nat × Nat × Nat) × List (Nat × Int32) × List (Nat × Int64) × List (Nat × Nat)
/-- a method: name, bytes, locals, answer, number of parameters, the receiver's class (none: static), links, instructions -/
abbrev mv_M : Type := MethodName × ByteArray × Nat × Option FieldType × Nat × Option Nat × mv_T × List (Nat × Instr)
abbrev mv_Call : Type := Nat → List Value → mv_S → (Option Value → mv_S → Prop) → Prop
def mv_len (pc : Nat) : Instr → Nat
  | .bipush _ => 2
  | .iload _ => 2
  | .istore _ => 2
  | .aload _ => 2
  | .astore _ => 2
  | .ldc _ => 2
  | .sipush _ => 3
  | .ifCond _ _ => 3
  | .if_icmp _ _ => 3
  | .goto _ => 3
  | .getfield _ => 3
  | .putfield _ => 3
  | .invokevirtual _ => 3
  | .invokestatic _ => 3
  | .iinc _ _ => 3
  | .ldc_w _ => 3
  | .ldc2_w _ => 3
  | .tableswitch _ _ _ offs => 16 - pc % 4 + 4 * offs.size
  | .lookupswitch _ ps => 12 - pc % 4 + 8 * ps.size
  | _ => 1
def mv_to (pc : Nat) (off : Int) (k : Nat → Prop) : Prop := match (pc : Int) + off with
  | .ofNat t => k t
  | .negSucc _ => False
def mv_cd : Jvm.ClassFile.Cond → Int32 → Int32 → Prop
  | .eq, x, y => x = y
  | .ne, x, y => ¬ x = y
  | .lt, x, y => x < y
  | .ge, x, y => y ≤ x
  | .gt, x, y => y < x
  | .le, x, y => x ≤ y
def mv_nc : Jvm.ClassFile.Cond → Int32 → Int32 → Prop
  | .eq, x, y => ¬ x = y
  | .ne, x, y => x = y
  | .lt, x, y => ¬ x < y
  | .ge, x, y => ¬ y ≤ x
  | .gt, x, y => ¬ y < x
  | .le, x, y => ¬ x ≤ y
def mv_tb (lo : Int) : List Int → List (Int × Int)
  | [] => []
  | o :: r => (lo, o) :: mv_tb (lo + 1) r
def mv_sw (pc : Nat) (x : Int32) (d : Int) (k : Nat → Prop) : List (Int × Int) → Prop
  | [] => mv_to pc d k
  | (c, o) :: r => (x = Int32.ofInt c → mv_to pc o k) ∧ (¬ x = Int32.ofInt c → mv_sw pc x d k r)
def mv_rng (c : Int) : Bool := decide (-2147483648 ≤ c) && decide (c < 2147483648)
def mv_fd (lay : List mv_D) (T : mv_T) (i q : Nat) : Option (Nat × Nat × Nat) := match mv_at i T.1 with
  | none => none
  | some (ci, k) => match lay[q]? with
    | some (.inl (cj, fs)) => bif Nat.beq cj ci then (match fs[k]? with
      | some f => some (ci, k, f)
      | none => none) else none
    | _ => none
def mv_cat (l : List Value) : Nat := (l.map fun v => v.category).sum
def mv_iv (lay : List mv_D) (sys : List mv_M) (T : mv_T) (i : Nat) (st : List Value) : Option (Nat × List Value × List Value) := match mv_at i T.2.2.2 with
  | none => none
  | some j => match sys[j]? with
    | some (_, _, _, _, np, some ci, _, _) => match st.drop np with
      | .ref q :: rest => match lay[q]? with
        | some (.inl (cj, _)) => bif Nat.beq cj ci && Nat.beq (st.take np).length np && Nat.ble (mv_cat rest) 8 then some (j, .ref q :: (st.take np).reverse, rest) else none
        | _ => none
      | _ => none
    | _ => none
def mv_is (sys : List mv_M) (T : mv_T) (i : Nat) (st : List Value) : Option (Nat × List Value × List Value) := match mv_at i T.2.2.2 with
  | none => none
  | some j => match sys[j]? with
    | some (_, _, _, _, np, none, _, _) => bif Nat.beq (st.take np).length np && Nat.ble (mv_cat (st.drop np)) 8 then some (j, (st.take np).reverse, st.drop np) else none
    | _ => none
/-- what an instruction asks for -/
def mv_do (lay : List mv_D) (sys : List mv_M) (T : mv_T) (nL : Nat) (z : Option FieldType) (Call : mv_Call) (P : Option Value → mv_S → Prop) (K : Nat → List (Nat × Value) → List Value → mv_S → Prop) (pc : Nat) (lv : List (Nat × Value)) (st : List Value) (S : mv_S) (i : Instr) : Prop := match i with
  | .iconst n => K (pc + 1) lv (.int (Int32.ofInt n) :: st) S
  | .bipush n => K (pc + 2) lv (.int (Int8.ofInt n).toInt32 :: st) S
  | .sipush n => K (pc + 3) lv (.int (Int16.ofInt n).toInt32 :: st) S
  | .lconst n => K (pc + 1) lv (.long (Int64.ofNat n.val) :: st) S
  | .iload_n k => match mv_at k.val lv with
    | some (.int x) => K (pc + 1) lv (.int x :: st) S
    | _ => False
  | .iload k => match mv_at k lv with
    | some (.int x) => K (pc + 2) lv (.int x :: st) S
    | _ => False
  | .aload_n k => match mv_at k.val lv with
    | some (.ref x) => K (pc + 1) lv (.ref x :: st) S
    | _ => False
  | .aload k => match mv_at k lv with
    | some (.ref x) => K (pc + 2) lv (.ref x :: st) S
    | _ => False
  | .lload_n k => match mv_at k.val lv with
    | some (.long x) => K (pc + 1) lv (.long x :: st) S
    | _ => False
  | .istore_n k => match st with
    | .int x :: r => bif Nat.blt k.val nL then K (pc + 1) (mv_sv k.val (.int x) lv) r S else False
    | _ => False
  | .istore k => match st with
    | .int x :: r => bif Nat.blt k nL then K (pc + 2) (mv_sv k (.int x) lv) r S else False
    | _ => False
  | .astore_n k => match st with
    | .ref x :: r => bif Nat.blt k.val nL then K (pc + 1) (mv_sv k.val (.ref x) lv) r S else False
    | _ => False
  | .astore k => match st with
    | .ref x :: r => bif Nat.blt k nL then K (pc + 2) (mv_sv k (.ref x) lv) r S else False
    | _ => False
  | .iinc k n => match mv_at k lv with
    | some (.int x) => bif Nat.blt k nL then K (pc + 3) (mv_sv k (.int (x + Int32.ofInt n)) lv) st S else False
    | _ => False
  | .iadd => match st with
    | .int y :: .int x :: r => K (pc + 1) lv (.int (x + y) :: r) S
    | _ => False
  | .isub => match st with
    | .int y :: .int x :: r => K (pc + 1) lv (.int (x - y) :: r) S
    | _ => False
  | .imul => match st with
    | .int y :: .int x :: r => K (pc + 1) lv (.int (x * y) :: r) S
    | _ => False
  | .iand => match st with
    | .int y :: .int x :: r => K (pc + 1) lv (.int (x &&& y) :: r) S
    | _ => False
  | .ixor => match st with
    | .int y :: .int x :: r => K (pc + 1) lv (.int (x ^^^ y) :: r) S
    | _ => False
  | .idiv => match st with
    | .int y :: .int x :: r => (¬ y = 0) ∧ K (pc + 1) lv (.int (x / y) :: r) S
    | _ => False
  | .irem => match st with
    | .int y :: .int x :: r => (¬ y = 0) ∧ K (pc + 1) lv (.int (x - x / y * y) :: r) S
    | _ => False
  | .ineg => match st with
    | .int x :: r => K (pc + 1) lv (.int (-x) :: r) S
    | _ => False
  | .iushr => match st with
    | .int y :: .int x :: r => K (pc + 1) lv (.int (x.toUInt32 >>> (y.toUInt32 &&& Int32.toUInt32 31)).toInt32 :: r) S
    | _ => False
  | .i2l => match st with
    | .int x :: r => K (pc + 1) lv (.long x.toInt64 :: r) S
    | _ => False
  | .ladd => match st with
    | .long y :: .long x :: r => K (pc + 1) lv (.long (x + y) :: r) S
    | _ => False
  | .lcmp => match st with
    | .long y :: .long x :: r => K (pc + 1) lv (.int (lg_cmp x y) :: r) S
    | _ => False
  | .dup => match st with
    | .int x :: r => K (pc + 1) lv (.int x :: .int x :: r) S
    | .ref x :: r => K (pc + 1) lv (.ref x :: .ref x :: r) S
    | _ => False
  | .pop => match st with
    | .int _ :: r => K (pc + 1) lv r S
    | .ref _ :: r => K (pc + 1) lv r S
    | _ => False
  | .ldc k => match mv_at k T.2.1 with
    | some x => K (pc + 2) lv (.int x :: st) S
    | none => False
  | .ldc_w k => match mv_at k T.2.1 with
    | some x => K (pc + 3) lv (.int x :: st) S
    | none => False
  | .ldc2_w k => match mv_at k T.2.2.1 with
    | some x => K (pc + 3) lv (.long x :: st) S
    | none => False
  | .goto off => mv_to pc off (fun t => K t lv st S)
  | .ifCond c off => match st with
    | .int x :: r => mv_to pc off (fun t => (mv_cd c x 0 → K t lv r S) ∧ (mv_nc c x 0 → K (pc + 3) lv r S))
    | _ => False
  | .if_icmp c off => match st with
    | .int y :: .int x :: r => mv_to pc off (fun t => (mv_cd c x y → K t lv r S) ∧ (mv_nc c x y → K (pc + 3) lv r S))
    | _ => False
  | .tableswitch d lo hi offs => match st with
    | .int x :: r => bif decide (hi + 1 = lo + offs.size) && mv_rng lo && mv_rng hi then mv_sw pc x d (fun t => K t lv r S) (mv_tb lo offs.toList) else False
    | _ => False
  | .lookupswitch d ps => match st with
    | .int x :: r => bif (ps.toList.zip (ps.toList.drop 1)).all (fun (a, next) => a.1 < next.1) && ps.toList.all (fun q => mv_rng q.1) then mv_sw pc x d (fun t => K t lv r S) ps.toList else False
    | _ => False
  | .getfield k => match st with
    | .ref q :: r => match mv_fd lay T k q with
      | some (_, k, 0) => K (pc + 3) lv (.int (S.1 q k) :: r) S
      | some (_, k, 1) => K (pc + 3) lv (.int (S.1 q k) :: r) S
      | some (_, _, j + 2) => K (pc + 3) lv (.ref j :: r) S
      | none => False
    | _ => False
  | .putfield k => match st with
    | .int x :: .ref q :: r => match mv_fd lay T k q with
      | some (_, k, 0) => K (pc + 3) lv r (mv_pf S q k x)
      | some (_, k, 1) => (x = 0 ∨ x = 1) ∧ K (pc + 3) lv r (mv_pf S q k x)
      | _ => False
    | _ => False
  | .iaload => match st with
    | .int j :: .ref q :: r => match lay[q]? with
      | some (.inr (0, n)) => vp_in j n ∧ K (pc + 1) lv (.int (S.2.1 q j.toNatClampNeg) :: r) S
      | _ => False
    | _ => False
  | .baload => match st with
    | .int j :: .ref q :: r => match lay[q]? with
      | some (.inr (1, n)) => vp_in j n ∧ K (pc + 1) lv (.int (S.2.1 q j.toNatClampNeg) :: r) S
      | _ => False
    | _ => False
  | .laload => match st with
    | .int j :: .ref q :: r => match lay[q]? with
      | some (.inr (_ + 2, n)) => vp_in j n ∧ K (pc + 1) lv (.long (S.2.2 q j.toNatClampNeg) :: r) S
      | _ => False
    | _ => False
  | .iastore => match st with
    | .int x :: .int j :: .ref q :: r => match lay[q]? with
      | some (.inr (0, n)) => vp_in j n ∧ K (pc + 1) lv r (mv_pr S q j.toNatClampNeg x)
      | _ => False
    | _ => False
  | .bastore => match st with
    | .int x :: .int j :: .ref q :: r => match lay[q]? with
      | some (.inr (1, n)) => (x = 0 ∨ x = 1) ∧ vp_in j n ∧ K (pc + 1) lv r (mv_pr S q j.toNatClampNeg x)
      | _ => False
    | _ => False
  | .lastore => match st with
    | .long x :: .int j :: .ref q :: r => match lay[q]? with
      | some (.inr (_ + 2, n)) => vp_in j n ∧ K (pc + 1) lv r (mv_pl S q j.toNatClampNeg x)
      | _ => False
    | _ => False
  | .arraylength => match st with
    | .ref q :: r => match lay[q]? with
      | some (.inr (0, n)) => K (pc + 1) lv (.int (Int32.ofNat n) :: r) S
      | some (.inr (1, n)) => K (pc + 1) lv (.int (Int32.ofNat n) :: r) S
      | some (.inr (_ + 2, n)) => K (pc + 1) lv (.int (Int32.ofNat n) :: r) S
      | _ => False
    | _ => False
  | .invokevirtual k => match mv_iv lay sys T k st with
    | some (j, a, rest) => Call j a S (fun r S' => K (pc + 3) lv (r.toList ++ rest) S')
    | none => False
  | .invokestatic k => match mv_is sys T k st with
    | some (j, a, rest) => Call j a S (fun r S' => K (pc + 3) lv (r.toList ++ rest) S')
    | none => False
  | .ireturn => match st with
    | [.int x] => match z with
      | some .int => P (some (.int x)) S
      | some .boolean => (x = 0 ∨ x = 1) ∧ P (some (.int x)) S
      | _ => False
    | _ => False
  | .lreturn => match st with
    | [.long x] => match z with
      | some .long => P (some (.long x)) S
      | _ => False
    | _ => False
  | .return_ => match st with
    | [] => match z with
      | none => P none S
      | _ => False
    | _ => False
  | _ => False
def mv_wp (lay : List mv_D) (sys : List mv_M) (T : mv_T) (nL : Nat) (z : Option FieldType) (il : List (Nat × Instr)) (Call : mv_Call) (P : Option Value → mv_S → Prop) : Nat → Nat → List (Nat × Value) → List Value → mv_S → Prop
  | 0, _, _, _, _ => False
  | n + 1, pc, lv, st, S => match mv_at pc il with
    | none => False
    | some i => mv_do lay sys T nL z Call P (mv_wp lay sys T nL z il Call P n) pc lv st S i
/-- a method's whole, with calls at most d deep -/
def mv_big (lay : List mv_D) (sys : List mv_M) : Nat → mv_Call
  | 0, _, _, _, _ => False
  | d + 1, j, a, S, P => match sys[j]? with
    | none => False
    | some M => bif Nat.ble (lg_sl a).length M.2.2.1 then (∃ n, mv_wp lay sys M.2.2.2.2.2.2.1 M.2.2.1 M.2.2.2.1 M.2.2.2.2.2.2.2 (mv_big lay sys d) P n 0 (lv_args 0 a) [] S) else False
end
section
/-! THE SMALL MACHINE IS SOUND: helper rows -/
theorem mv_fs_at (ad : Nat → Nat) (v : Nat → Int32) : ∀ (l : List Nat) (k0 k : Nat), (mv_fs ad v k0 l)[k]? = (l[k]?).map (fun f => mv_f ad (v (k0 + k)) f)
  | [], k0, k => by simp [mv_fs]
  | f :: r, k0, 0 => by simp [mv_fs]
  | f :: r, k0, k + 1 => by
    simp only [mv_fs, List.getElem?_cons_succ]
    rw [mv_fs_at ad v r (k0 + 1) k, show k0 + 1 + k = k0 + (k + 1) by omega]
theorem mv_w_at (cy : Nat → ClassId) (ad : Nat → Nat) (S : mv_S) : ∀ (l : List mv_D) (q0 q : Nat), (mv_w cy ad S q0 l)[q]? = (l[q]?).map (fun d => (ad (q0 + q), mv_c cy ad S (q0 + q) d))
  | [], q0, q => by simp [mv_w]
  | d :: r, q0, 0 => by simp [mv_w]
  | d :: r, q0, q + 1 => by
    simp only [mv_w, List.getElem?_cons_succ]
    rw [mv_w_at cy ad S r (q0 + 1) q, show q0 + 1 + q = q0 + (q + 1) by omega]
theorem mv_w_get {cy : Nat → ClassId} {ad : Nat → Nat} {S : mv_S} {lay : List mv_D} {q : Nat} {d : mv_D} (h : lay[q]? = some d) : (mv_w cy ad S 0 lay)[q]? = some (ad q, mv_c cy ad S q d) := by
  rw [mv_w_at, h, Nat.zero_add]; rfl
theorem mv_lt {α : Type} {l : List α} {q : Nat} {d : α} (h : l[q]? = some d) : q < l.length := (List.getElem?_eq_some_iff.mp h).1
/-- the store changed at one place is the list changed there -/
theorem mv_w_set {cy : Nat → ClassId} {ad : Nat → Nat} {S S' : mv_S} {lay : List mv_D} {q : Nat} {d : mv_D} {e : va_E} (h : lay[q]? = some d) (he : mv_c cy ad S' q d = e) (ho : ∀ (p : Nat) (d : mv_D), p ≠ q → mv_c cy ad S' p d = mv_c cy ad S p d) : (mv_w cy ad S 0 lay).set q (ad q, e) = mv_w cy ad S' 0 lay := by
  apply List.ext_getElem?
  intro p
  rw [List.getElem?_set, mv_w_at, mv_w_at]
  by_cases hp : q = p
  · subst hp
    have hl : q < (mv_w cy ad S 0 lay).length := by
      have := mv_w_get (cy := cy) (ad := ad) (S := S) h
      exact mv_lt this
    rw [if_pos rfl, if_pos hl, h, Nat.zero_add, ← he]; rfl
  · rw [if_neg hp, Nat.zero_add]
    cases hd : lay[p]? with
    | none => rfl
    | some d' => simp only [Option.map]; rw [ho p d' (Ne.symm hp)]
theorem mv_fs_set {ad : Nat → Nat} {v : Nat → Int32} {l : List Nat} {k f : Nat} {x : Int32} (h : l[k]? = some f) (hf : f < 2) : (mv_fs ad v 0 l).set k (.int x) = mv_fs ad (upd v k x) 0 l := by
  apply List.ext_getElem?
  intro p
  rw [List.getElem?_set, mv_fs_at, mv_fs_at]
  by_cases hp : k = p
  · subst hp
    have hl : k < (mv_fs ad v 0 l).length := by
      have : (mv_fs ad v 0 l)[k]? = some (mv_f ad (v (0 + k)) f) := by rw [mv_fs_at, h]; rfl
      exact mv_lt this
    rw [if_pos rfl, if_pos hl, h]
    match f, hf with
    | 0, _ => simp [mv_f, upd]
    | 1, _ => simp [mv_f, upd]
  · rw [if_neg hp]
    simp only [Nat.zero_add]
    rw [show upd v k x p = v p from if_neg (Ne.symm hp)]
theorem mv_c_ne {cy : Nat → ClassId} {ad : Nat → Nat} {S S' : mv_S} {p : Nat} (h1 : S'.1 p = S.1 p) (h2 : S'.2.1 p = S.2.1 p) (h3 : S'.2.2 p = S.2.2 p) (d : mv_D) : mv_c cy ad S' p d = mv_c cy ad S p d := by
  match d with
  | .inl (ci, fs) => simp only [mv_c, h1]
  | .inr (0, n) => simp only [mv_c, h2]
  | .inr (1, n) => simp only [mv_c, h2]
  | .inr (_ + 2, n) => simp only [mv_c, h3]
theorem mv_w_pf {cy : Nat → ClassId} {ad : Nat → Nat} {S : mv_S} {lay : List mv_D} {q ci k f : Nat} {fs : List Nat} {x : Int32} (h : lay[q]? = some (.inl (ci, fs))) (hk : fs[k]? = some f) (hf : f < 2) : (mv_w cy ad S 0 lay).set q (ad q, .inr (ci, (mv_fs ad (S.1 q) 0 fs).set k (.int x))) = mv_w cy ad (mv_pf S q k x) 0 lay := by
  refine mv_w_set h ?_ (fun p d hp => mv_c_ne (S' := mv_pf S q k x) (S := S) (va_up_ne _ _ hp) rfl rfl d)
  · rw [mv_fs_set hk hf]
    simp only [mv_c, mv_pf, va_up_self]
theorem mv_w_pr {cy : Nat → ClassId} {ad : Nat → Nat} {S : mv_S} {lay : List mv_D} {q t n k : Nat} {x : Int32} (ht : t < 2) (h : lay[q]? = some (.inr (t, n))) : (mv_w cy ad S 0 lay).set q (ad q, .inl (cy t, n, .inl (upd (S.2.1 q) k x))) = mv_w cy ad (mv_pr S q k x) 0 lay := by
  refine mv_w_set h ?_ (fun p d hp => mv_c_ne (S' := mv_pr S q k x) (S := S) rfl (va_up_ne _ _ hp) rfl d)
  · match t, ht with
    | 0, _ => simp only [mv_c, mv_pr, va_up_self]
    | 1, _ => simp only [mv_c, mv_pr, va_up_self]
theorem mv_w_pl {cy : Nat → ClassId} {ad : Nat → Nat} {S : mv_S} {lay : List mv_D} {q t n k : Nat} {x : Int64} (h : lay[q]? = some (.inr (t + 2, n))) : (mv_w cy ad S 0 lay).set q (ad q, .inl (cy 2, n, .inr (.inl (vp_updL (S.2.2 q) k x)))) = mv_w cy ad (mv_pl S q k x) 0 lay := by
  refine mv_w_set h ?_ (fun p d hp => mv_c_ne (S' := mv_pl S q k x) (S := S) rfl rfl (va_up_ne _ _ hp) d)
  · simp only [mv_c, mv_pl, va_up_self]
theorem mv_k_cat (ad : Nat → Nat) (v : Value) : (mv_k ad v).category = v.category := by cases v <;> rfl
theorem mv_at_mem {α : Type} {i : Nat} {a : α} : ∀ {l : List (Nat × α)}, mv_at i l = some a → (i, a) ∈ l
  | [], h => by simp [mv_at] at h
  | (j, b) :: r, h => by
    simp only [mv_at] at h
    cases hj : Nat.beq j i with
    | true =>
      rw [hj] at h
      have e : j = i := Nat.eq_of_beq_eq_true hj
      simp at h
      subst e; subst h
      exact List.mem_cons_self
    | false =>
      rw [hj] at h
      simp at h
      exact List.mem_cons_of_mem _ (mv_at_mem h)
theorem mv_ks_mem {ad : Nat → Nat} {i : Nat} {v : Value} {lv : List (Nat × Value)} (h : mv_at i lv = some v) : (i, mv_k ad v) ∈ mv_ks ad lv := List.mem_map.mpr ⟨(i, v), mv_at_mem h, rfl⟩
theorem mv_ks_at {ad : Nat → Nat} {ls : Array Slot} {nL i : Nat} {v : Value} {lv : List (Nat × Value)} (hl : lv_has ls nL (mv_ks ad lv)) (h : mv_at i lv = some v) : ls[i]? = some (.val (mv_k ad v)) := hl.2.2 _ (mv_ks_mem h)
theorem mv_ks_sv (ad : Nat → Nat) (i : Nat) (x : Value) (lv : List (Nat × Value)) : (i, mv_k ad x) :: (mv_ks ad lv).filter (fun q => !(q.1 == i) && !(q.1 + 1 == i && q.2.category == 2)) = mv_ks ad (mv_sv i x lv) := by
  simp only [mv_ks, mv_sv, List.map_cons, List.filter_map]
  congr 2
  apply List.filter_congr
  intro q _
  simp only [Function.comp, mv_k_cat]
theorem mv_ks_args (ad : Nat → Nat) : ∀ (a : List Value) (k : Nat), lv_args k (a.map (mv_k ad)) = mv_ks ad (lv_args k a)
  | [], k => rfl
  | v :: r, k => by
    simp only [List.map_cons, lv_args, mv_k_cat, mv_ks]
    rw [mv_ks_args ad r]
    rfl
theorem mv_sl_len (ad : Nat → Nat) : ∀ a : List Value, (lg_sl (a.map (mv_k ad))).length = (lg_sl a).length
  | [] => rfl
  | v :: r => by
    have h := mv_sl_len ad r
    simp only [lg_sl, List.map_cons, List.flatMap_cons, List.length_append, mv_k_cat] at h ⊢
    rw [h]
    by_cases hc : v.category = 2 <;> simp [hc]
theorem mv_cat_k (ad : Nat → Nat) (l : List Value) : (((l.map (mv_k ad)).map fun v => v.category)).sum = mv_cat l := by
  simp only [mv_cat, List.map_map]
  congr 1
  apply List.map_congr_left
  intro v _
  exact mv_k_cat ad v
theorem mv_to_spec {pc : Nat} {off : Int} {k : Nat → Prop} (h : mv_to pc off k) : ∃ t : Nat, (pc : Int) + off = (t : Int) ∧ k t := by
  unfold mv_to at h
  split at h
  · next t e => exact ⟨t, e, h⟩
  · exact h.elim
theorem mv_rng_toInt {c : Int} (h : mv_rng c = true) : (Int32.ofInt c).toInt = c := by
  simp only [mv_rng, Bool.and_eq_true, decide_eq_true_eq] at h
  exact Int32.toInt_ofInt_of_le h.1 (by omega)
end
section
/-! THE SMALL MACHINE IS SOUND: the walk -/
def mv_Ts : List Cond := lw_tbl.filter goodWord
theorem mv_in {w : Cond} (h : w ∈ lw_tbl) (g : goodWord w = true) : w ∈ mv_Ts := List.mem_filter.mpr ⟨h, g⟩
theorem mv_good : ∀ w ∈ mv_Ts, goodWord w = true := fun _ h => (List.mem_filter.mp h).2
/-- a class of the list: its fields' words, types and names -/
def mv_cok (ci : Nat) : Prop := ∃ (C : String) (T : u_T) (N : Nat) (ty : Nat → FieldType), vwCl[ci]? = some (C, T, N) ∧ (∀ w ∈ u_ws C T N, w ∈ mv_Ts) ∧ (∀ k, k < N → parseFieldDescriptor (T k).2.2.1 = some (ty k)) ∧ (∀ a, a < N → ∀ b, b < N → a ≠ b → (T a).2.1 ≠ (T b).2.1)
/-- a field's link -/
def mv_fok (own : String) (i ci k : Nat) : Prop := ∃ (C : String) (T : u_T) (N : Nat), vwCl[ci]? = some (C, T, N) ∧ k < N ∧ Cond.fieldLink own i C (T k).2.1 (T k).2.2.1 ∈ mv_Ts ∧ (T k).1 = C
/-- the shapes' fields are those of their classes -/
def mv_lok (lay : List mv_D) : Prop := ∀ (q ci : Nat) (fs : List Nat), lay[q]? = some (.inl (ci, fs)) → mv_cok ci ∧ ∀ (C : String) (T : u_T) (N : Nat), vwCl[ci]? = some (C, T, N) → fs.length = N ∧ ∀ k f, fs[k]? = some f → (f = 0 → (T k).2.2.2 = false ∧ parseFieldDescriptor (T k).2.2.1 = some .int) ∧ (f = 1 → (T k).2.2.2 = false ∧ parseFieldDescriptor (T k).2.2.1 = some .boolean)
theorem mv_fd_spec {lay : List mv_D} {T : mv_T} {i q ci k f : Nat} (h : mv_fd lay T i q = some (ci, k, f)) : (i, ci, k) ∈ T.1 ∧ ∃ fs, lay[q]? = some (.inl (ci, fs)) ∧ fs[k]? = some f := by
  unfold mv_fd at h
  split at h
  · cases h
  · next cj kj hm =>
    split at h
    · next cq fs hq =>
      cases hb : Nat.beq cq cj with
      | false => rw [hb] at h; simp at h
      | true =>
        rw [hb] at h
        have e : cq = cj := Nat.eq_of_beq_eq_true hb
        subst e
        simp only [cond_true] at h
        split at h
        · next f' hf =>
          cases h
          exact ⟨mv_at_mem hm, fs, hq, hf⟩
        · cases h
    · cases h
theorem mv_iv_spec {lay : List mv_D} {sys : List mv_M} {T : mv_T} {i j : Nat} {st a rest : List Value} (h : mv_iv lay sys T i st = some (j, a, rest)) : (i, j) ∈ T.2.2.2 ∧ ∃ (y : MethodName) (cc : ByteArray) (mL : Nat) (rt : Option FieldType) (np ci : Nat) (T' : mv_T) (il : List (Nat × Instr)) (q : Nat) (fs : List Nat) (As : List Value), sys[j]? = some (y, cc, mL, rt, np, some ci, T', il) ∧ lay[q]? = some (.inl (ci, fs)) ∧ As.length = np ∧ a = .ref q :: As ∧ st = As.reverse ++ .ref q :: rest ∧ mv_cat rest ≤ 8 := by
  unfold mv_iv at h
  split at h
  · cases h
  · next j' hm =>
    split at h
    · next y cc mL rt np ci T' il hs =>
      split at h
      · next q rs hd =>
        split at h
        · next cj fs hq =>
          cases hb : (Nat.beq cj ci && Nat.beq (st.take np).length np && Nat.ble (mv_cat rs) 8) with
          | false => rw [hb] at h; simp at h
          | true =>
            rw [hb] at h
            simp only [cond_true] at h
            cases h
            simp only [Bool.and_eq_true] at hb
            obtain ⟨⟨h1, h2⟩, h3⟩ := hb
            have e1 : cj = ci := Nat.eq_of_beq_eq_true h1
            have e2 : (st.take np).length = np := Nat.eq_of_beq_eq_true h2
            subst e1
            refine ⟨mv_at_mem hm, y, cc, mL, rt, np, cj, T', il, q, fs, (st.take np).reverse, hs, hq, by rw [List.length_reverse]; exact e2, rfl, ?_, Nat.le_of_ble_eq_true h3⟩
            rw [List.reverse_reverse, ← hd, List.take_append_drop]
        · cases h
      · cases h
    · cases h
theorem mv_is_spec {sys : List mv_M} {T : mv_T} {i j : Nat} {st a rest : List Value} (h : mv_is sys T i st = some (j, a, rest)) : (i, j) ∈ T.2.2.2 ∧ ∃ (y : MethodName) (cc : ByteArray) (mL : Nat) (rt : Option FieldType) (np : Nat) (T' : mv_T) (il : List (Nat × Instr)), sys[j]? = some (y, cc, mL, rt, np, none, T', il) ∧ a.length = np ∧ st = a.reverse ++ rest ∧ mv_cat rest ≤ 8 := by
  unfold mv_is at h
  split at h
  · cases h
  · next j' hm =>
    split at h
    · next y cc mL rt np T' il hs =>
      cases hb : (Nat.beq (st.take np).length np && Nat.ble (mv_cat (st.drop np)) 8) with
      | false => rw [hb] at h; simp at h
      | true =>
        rw [hb] at h
        simp only [cond_true] at h
        cases h
        simp only [Bool.and_eq_true] at hb
        obtain ⟨h2, h3⟩ := hb
        have e2 : (st.take np).length = np := Nat.eq_of_beq_eq_true h2
        exact ⟨mv_at_mem hm, y, cc, mL, rt, np, T', il, hs, by rw [List.length_reverse]; exact e2, by rw [List.reverse_reverse, List.take_append_drop], Nat.le_of_ble_eq_true h3⟩
    · cases h
theorem mv_nar {x : Int32} (h : x = 0 ∨ x = 1) : vp_nar .boolean x = x ∧ narrow .boolean (.int x) = .int x ∧ fits .boolean (.int x) = true := by
  rcases h with rfl | rfl <;> exact ⟨by decide, by decide, by decide⟩
section MV
variable {p : Program} {l : Launch} {e : Env} {R : Room} {s : State} {m : MethodId} {args : Array Value} {below : List Frame} {meth : Method} {c : Code} {cells slots : Nat} {Q : State → Prop}
variable {cc : ByteArray} {D : va_G} {cy : Nat → ClassId} {ad : Nat → Nat} {A : Nat → Prop} {lay : List mv_D} {own : String} {T : mv_T} {nL : Nat}
/-- what a world is: the store's cells on the heap, apart, nothing else changed since the start -/
def mv_W (D : va_G) (cy : Nat → ClassId) (ad : Nat → Nat) (A : Nat → Prop) (lay : List mv_D) (s : State) (S : mv_S) (H : Heap) (locs : List Loc) : Prop := va_P D vwCl (mv_w cy ad S 0 lay) H ∧ va_D A (mv_w cy ad S 0 lay) ∧ va_S A s.heap H locs
theorem mv_sws {pc : Nat} {ls : Array Slot} {rest : List Value} {x : Int32} {H : Heap} {locs : List Loc} {K : Nat → Prop} (hexec : p.tables.exec = Jvm.exec) (hb : c.code = cc) {d : Int} {ps : Array (Int × Int)} {len : Nat} (hdg : decode cc pc = .ok (.lookupswitch d ps, len))
    (hp : (ps.toList.zip (ps.toList.drop 1)).all (fun (a, next) => a.1 < next.1) = true) (hr : ps.toList.all (fun q => mv_rng q.1) = true) (hK : ∀ t, K t → W p l e R s m args below meth c H locs cells slots Q (F0 m t ls rest)) (h : mv_sw pc x d K ps.toList) : W p l e R s m args below meth c H locs cells slots Q (F0 m pc ls (.int x :: rest)) := by
  have key : ∀ r : List (Int × Int), r.all (fun q => mv_rng q.1) = true → mv_sw pc x d K r → ∃ (off : Int) (t : Nat), Op.lookupswitch.offset r d x.toInt = off ∧ (pc : Int) + off = (t : Int) ∧ K t := by
    intro r
    induction r with
    | nil =>
      intro _ h
      obtain ⟨t, e1, e2⟩ := mv_to_spec h
      exact ⟨d, t, rfl, e1, e2⟩
    | cons q r ih =>
      obtain ⟨cq, oq⟩ := q
      intro ha h
      simp only [List.all_cons, Bool.and_eq_true] at ha
      by_cases hx : x = Int32.ofInt cq
      · obtain ⟨t, e1, e2⟩ := mv_to_spec (h.1 hx)
        refine ⟨oq, t, ?_, e1, e2⟩
        have hi : x.toInt = cq := by rw [hx]; exact mv_rng_toInt ha.1
        simp [Op.lookupswitch.offset, hi]
      · obtain ⟨off, t, e1, e2, e3⟩ := ih ha.2 (h.2 hx)
        refine ⟨off, t, ?_, e2, e3⟩
        rw [← e1]
        exact lv_osw hx (mv_rng_toInt ha.1)
  obtain ⟨off, t, e1, e2, e3⟩ := key _ hr h
  exact lv_lookup hexec hb hdg hp e1 e2 (hK t e3)
theorem mv_swt {pc : Nat} {ls : Array Slot} {rest : List Value} {x : Int32} {H : Heap} {locs : List Loc} {K : Nat → Prop} (hexec : p.tables.exec = Jvm.exec) (hb : c.code = cc) {d lo hi : Int} {offs : Array Int} {len : Nat} (hdg : decode cc pc = .ok (.tableswitch d lo hi offs, len))
    (hh : hi + 1 = lo + offs.size) (h1 : mv_rng lo = true) (h2 : mv_rng hi = true) (hK : ∀ t, K t → W p l e R s m args below meth c H locs cells slots Q (F0 m t ls rest)) (h : mv_sw pc x d K (mv_tb lo offs.toList)) : W p l e R s m args below meth c H locs cells slots Q (F0 m pc ls (.int x :: rest)) := by
  have b1 : -2147483648 ≤ lo := by simp only [mv_rng, Bool.and_eq_true, decide_eq_true_eq] at h1; exact h1.1
  have b2 : hi < 2147483648 := by simp only [mv_rng, Bool.and_eq_true, decide_eq_true_eq] at h2; exact h2.2
  have key : ∀ (r : List Int) (c0 : Int), -2147483648 ≤ c0 → c0 + r.length ≤ 2147483648 → mv_sw pc x d K (mv_tb c0 r) → (∃ (j : Nat) (o : Int) (t : Nat), r[j]? = some o ∧ x.toInt = c0 + j ∧ (pc : Int) + o = (t : Int) ∧ K t) ∨ ((x.toInt < c0 ∨ c0 + r.length ≤ x.toInt) ∧ ∃ t : Nat, (pc : Int) + d = (t : Int) ∧ K t) := by
    intro r
    induction r with
    | nil =>
      intro c0 _ _ h
      obtain ⟨t, e1, e2⟩ := mv_to_spec h
      exact Or.inr ⟨by simp only [List.length_nil]; omega, t, e1, e2⟩
    | cons o r ih =>
      intro c0 hl hu h
      simp only [List.length_cons] at hu
      have hr : mv_rng c0 = true := by
        simp only [mv_rng, Bool.and_eq_true, decide_eq_true_eq]
        omega
      by_cases hx : x = Int32.ofInt c0
      · obtain ⟨t, e1, e2⟩ := mv_to_spec (h.1 hx)
        refine Or.inl ⟨0, o, t, rfl, ?_, e1, e2⟩
        rw [hx, mv_rng_toInt hr]; simp
      · have hne : ¬ x.toInt = c0 := fun q => hx (by rw [← q, Int32.ofInt_toInt])
        rcases ih (c0 + 1) (by omega) (by omega) (h.2 hx) with ⟨j, o', t, e1, e2, e3, e4⟩ | ⟨e1, t, e2, e3⟩
        · exact Or.inl ⟨j + 1, o', t, by simpa using e1, by rw [e2]; omega, e3, e4⟩
        · exact Or.inr ⟨by simp only [List.length_cons]; omega, t, e2, e3⟩
  have hlen : (offs.toList.length : Int) = offs.size := by simp
  rcases key offs.toList lo b1 (by rw [hlen]; omega) h with ⟨j, o, t, e1, e2, e3, e4⟩ | ⟨e1, t, e2, e3⟩
  · have hj : j < offs.toList.length := mv_lt e1
    refine lv_tableIn hexec hb hdg (by omega) (by have : (j : Int) < offs.toList.length := by exact_mod_cast hj
                                                  rw [hlen] at this; omega) (off := o) ?_ e3 (hK t e4)
    rw [show (x.toInt - lo).toNat = j by omega, ← Array.getElem?_toList]
    exact e1
  · exact lv_tableOut hexec hb hdg (by rw [hlen] at e1; omega) e2 (hK t e3)
end MV
end
section
/-! THE SMALL MACHINE IS SOUND: every instruction -/
theorem mv_bif {b : Bool} {X : Prop} (h : bif b then X else False) : b = true ∧ X := by cases b <;> simp_all
section MVW
variable {p : Program} {l : Launch} {e : Env} {R : Room} {s : State} {m : MethodId} {args : Array Value} {below : List Frame} {meth : Method} {c : Code} {Q : State → Prop}
variable {cc : ByteArray} {D : va_G} {cy : Nat → ClassId} {ad : Nat → Nat} {A : Nat → Prop} {lay : List mv_D} {sys : List mv_M} {own : String} {T : mv_T} {nL : Nat} {Call : mv_Call} {P : Option Value → mv_S → Prop}
/-- what a method's links must be -/
def mv_Tok (own : String) (T : mv_T) : Prop := (∀ i ci k, (i, ci, k) ∈ T.1 → mv_fok own i ci k) ∧ (∀ i v, (i, v) ∈ T.2.1 → Cond.constant own i v ∈ mv_Ts) ∧ (∀ i v, (i, v) ∈ T.2.2.1 → Cond.constantLong own i v ∈ mv_Ts)
/-- a call's row -/
def mv_Row (p : Program) (l : Launch) (e : Env) (R : Room) (s : State) (m : MethodId) (args : Array Value) (below : List Frame) (meth : Method) (c : Code) (Q : State → Prop) (D : va_G) (cy : Nat → ClassId) (ad : Nat → Nat) (A : Nat → Prop) (lay : List mv_D) (nL : Nat) (Call : mv_Call) (pc : Nat) (st : List Value) (j : Nat) (a rest : List Value) : Prop :=
  ∀ (S : mv_S) (P' : Option Value → mv_S → Prop) (H : Heap) (locs : List Loc) (ls : Array Slot), Call j a S P' → mv_W D cy ad A lay s S H locs → ls.size = nL →
    (∀ (r : Option Value) (S' : mv_S) (H' : Heap) (locs' : List Loc), P' r S' → mv_W D cy ad A lay s S' H' locs' → W p l e R s m args below meth c H' locs' 0 0 Q (F0 m (pc + 3) ls ((r.toList ++ rest).map (mv_k ad)))) →
    W p l e R s m args below meth c H locs 0 0 Q (F0 m pc ls (st.map (mv_k ad)))
theorem mv_get1 {S : mv_S} {H : Heap} {locs : List Loc} {pc i q ci k f : Nat} {ls : Array Slot} {rest : List Value} {v : Value} (hx : p.tables.exec = Jvm.exec) (hb : c.code = cc) (hown : s.vm.findClass own = some m.cls) (hts : ∀ w ∈ mv_Ts, w.before args s = true) (hK : va_K D vwCl (mv_tys cy) s) (hlay : mv_lok lay) (hT : mv_Tok own T)
    (hd : decode cc pc = .ok (.getfield i, 3)) (hf : mv_fd lay T i q = some (ci, k, f)) (hv : mv_f ad (S.1 q k) f = v) (hW : mv_W D cy ad A lay s S H locs) (kk : W p l e R s m args below meth c H locs 0 0 Q (F0 m (pc + 3) ls (v :: rest))) : W p l e R s m args below meth c H locs 0 0 Q (F0 m pc ls (.ref (ad q) :: rest)) := by
  obtain ⟨hm, fs, hq, hk⟩ := mv_fd_spec hf
  obtain ⟨C, Tt, N, hc, hkN, hlink, hC⟩ := hT.1 _ _ _ hm
  obtain ⟨⟨C', T', N', ty, hc', hin, hty, hnm⟩, hfs⟩ := hlay q ci fs hq
  have he : (C', T', N') = (C, Tt, N) := Option.some.inj (hc'.symm.trans hc)
  cases he
  refine va_get (D := D) (cl := vwCl) (tys := mv_tys cy) (ci := ci) (fs := mv_fs ad (S.1 q) 0 fs) hx hb hts hin hown hK hW.1 q (mv_w_get hq) hc k hkN (hts _ hlink) (fun x hxx => by rw [hC] at hxx; exact hxx) (v := v) ?_ hd kk
  rw [mv_fs_at, hk, Nat.zero_add, ← hv]; rfl
theorem mv_put1 {S : mv_S} {H : Heap} {locs : List Loc} {pc i q ci k f : Nat} {ls : Array Slot} {rest : List Value} {x : Int32} (hx : p.tables.exec = Jvm.exec) (hb : c.code = cc) (hown : s.vm.findClass own = some m.cls) (hts : ∀ w ∈ mv_Ts, w.before args s = true) (hK : va_K D vwCl (mv_tys cy) s) (hlay : mv_lok lay) (hT : mv_Tok own T)
    (hd : decode cc pc = .ok (.putfield i, 3)) (hf : mv_fd lay T i q = some (ci, k, f)) (hv : f = 0 ∨ (f = 1 ∧ (x = 0 ∨ x = 1))) (hW : mv_W D cy ad A lay s S H locs) (kk : ∀ (H1 : Heap) (locs1 : List Loc), mv_W D cy ad A lay s (mv_pf S q k x) H1 locs1 → W p l e R s m args below meth c H1 locs1 0 0 Q (F0 m (pc + 3) ls rest)) : W p l e R s m args below meth c H locs 0 0 Q (F0 m pc ls (.int x :: .ref (ad q) :: rest)) := by
  obtain ⟨hm, fs, hq, hk⟩ := mv_fd_spec hf
  obtain ⟨C, Tt, N, hc, hkN, hlink, hC⟩ := hT.1 _ _ _ hm
  obtain ⟨⟨C', T', N', ty, hc', hin, hty, hnm⟩, hfs⟩ := hlay q ci fs hq
  have he : (C', T', N') = (C, Tt, N) := Option.some.inj (hc'.symm.trans hc)
  cases he
  have hf2 : f < 2 := by rcases hv with h | h <;> omega
  obtain ⟨g0, g1⟩ := (hfs _ _ _ hc).2 k f hk
  have hl : k < (mv_fs ad (S.1 q) 0 fs).length := by
    have : (mv_fs ad (S.1 q) 0 fs)[k]? = some (mv_f ad (S.1 q (0 + k)) f) := by rw [mv_fs_at, hk]; rfl
    exact mv_lt this
  obtain ⟨ty1, hfin, hp, hn, hft⟩ : ∃ ty1 : FieldType, (Tt k).2.2.2 = false ∧ parseFieldDescriptor (Tt k).2.2.1 = some ty1 ∧ narrow ty1 (.int x) = .int x ∧ fits ty1 (.int x) = true := by
    rcases hv with h | ⟨h, h2⟩
    · exact ⟨.int, (g0 h).1, (g0 h).2, rfl, rfl⟩
    · exact ⟨.boolean, (g1 h).1, (g1 h).2, (mv_nar h2).2.1, (mv_nar h2).2.2⟩
  refine va_put (D := D) (cl := vwCl) (tys := mv_tys cy) (ci := ci) (fs := mv_fs ad (S.1 q) 0 fs) hx hb hts hin ty hty hnm hown hK hW.1 hW.2.1 hW.2.2 q (mv_w_get hq) hc k hkN (hts _ hlink) (fun x hxx => by rw [hC] at hxx; exact hxx) hfin hp hn hft hl hd (fun H1 locs1 hP1 hD1 hS1 => kk H1 locs1 ?_)
  rw [mv_w_pf hq hk hf2] at hP1 hD1
  exact ⟨hP1, hD1, hS1⟩
set_option maxHeartbeats 4000000 in
theorem mv_snd {Qc : Array Value → State → Outcome → State → Prop} {z : Option FieldType} {il : List (Nat × Instr)} (hx : p.tables.exec = Jvm.exec) (hb : c.code = cc) (hown : s.vm.findClass own = some m.cls) (hr : meth.sig.returnType = z) (hlocks : meth.locks = false) (hts : ∀ w ∈ mv_Ts, w.before args s = true) (hK : va_K D vwCl (mv_tys cy) s) (hlay : mv_lok lay) (hT : mv_Tok own T)
    (hdec : ∀ q ∈ il, decode cc q.1 = .ok (q.2, mv_len q.1 q.2))
    (hQ : ∀ (r : Option Value) (S' : mv_S) (H : Heap) (locs : List Loc) (t : State), P r S' → mv_W D cy ad A lay s S' H locs → t.heap = H → s.WarmedH t.vm → Qc args s (.returned (r.map (mv_k ad))) t)
    (hV : ∀ (pc i : Nat) (st : List Value) (j : Nat) (a rest : List Value), decode cc pc = .ok (.invokevirtual i, 3) → mv_iv lay sys T i st = some (j, a, rest) → mv_Row p l e R s m args below meth c (MQ below Qc args s 0 0 A) D cy ad A lay nL Call pc st j a rest)
    (hI : ∀ (pc i : Nat) (st : List Value) (j : Nat) (a rest : List Value), decode cc pc = .ok (.invokestatic i, 3) → mv_is sys T i st = some (j, a, rest) → mv_Row p l e R s m args below meth c (MQ below Qc args s 0 0 A) D cy ad A lay nL Call pc st j a rest) :
    ∀ (n pc : Nat) (lv : List (Nat × Value)) (st : List Value) (S : mv_S), mv_wp lay sys T nL z il Call P n pc lv st S → ∀ (H : Heap) (locs : List Loc) (ls : Array Slot), mv_W D cy ad A lay s S H locs → lv_has ls nL (mv_ks ad lv) → W p l e R s m args below meth c H locs 0 0 (MQ below Qc args s 0 0 A) (F0 m pc ls (st.map (mv_k ad))) := by
  intro n
  induction n with
  | zero => intro pc lv st S h; exact h.elim
  | succ n ih =>
    intro pc lv st S h H locs ls hW hl
    unfold mv_wp at h
    split at h
    · exact h.elim
    next i hm =>
    have hd := hdec _ (mv_at_mem hm)
    dsimp only at hd
    cases i
    case iconst n => exact lv_iconst hx hb hd rfl (ih _ _ _ _ h _ _ _ hW hl)
    case bipush n => exact lv_bipush hx hb hd rfl (ih _ _ _ _ h _ _ _ hW hl)
    case sipush n => exact lv_sipush hx hb hd rfl (ih _ _ _ _ h _ _ _ hW hl)
    case lconst n => exact lv_lconst hx hb hd rfl (ih _ _ _ _ h _ _ _ hW hl)
    case iload_n k =>
      dsimp only [mv_do] at h
      split at h
      · next x hm2 => exact lv_iload_n hx hb hd rfl (mv_ks_at hl hm2) (ih _ _ _ _ h _ _ _ hW hl)
      · exact h.elim
    case iload k =>
      dsimp only [mv_do] at h
      split at h
      · next x hm2 => exact lv_iload hx hb hd (mv_ks_at hl hm2) (ih _ _ _ _ h _ _ _ hW hl)
      · exact h.elim
    case aload_n k =>
      dsimp only [mv_do] at h
      split at h
      · next x hm2 => exact lv_aload_n hx hb hd rfl (mv_ks_at hl hm2) (ih _ _ _ _ h _ _ _ hW hl)
      · exact h.elim
    case aload k =>
      dsimp only [mv_do] at h
      split at h
      · next x hm2 => exact lv_aload hx hb hd (mv_ks_at hl hm2) (ih _ _ _ _ h _ _ _ hW hl)
      · exact h.elim
    case lload_n k =>
      dsimp only [mv_do] at h
      split at h
      · next x hm2 => exact lv_lload_n hx hb hd rfl (mv_ks_at hl hm2) (ih _ _ _ _ h _ _ _ hW hl)
      · exact h.elim
    case istore_n k =>
      dsimp only [mv_do] at h
      split at h
      · next x r =>
        obtain ⟨hk, h⟩ := mv_bif h
        exact lv_istore_n hx hb hd rfl hl (Nat.le_of_ble_eq_true hk) (mv_ks_sv ad _ (.int x) lv) (fun ls' hl' => ih _ _ _ _ h _ _ _ hW hl')
      · exact h.elim
    case istore k =>
      dsimp only [mv_do] at h
      split at h
      · next x r =>
        obtain ⟨hk, h⟩ := mv_bif h
        exact lv_istore hx hb hd hl (Nat.le_of_ble_eq_true hk) (mv_ks_sv ad _ (.int x) lv) (fun ls' hl' => ih _ _ _ _ h _ _ _ hW hl')
      · exact h.elim
    case astore_n k =>
      dsimp only [mv_do] at h
      split at h
      · next x r =>
        obtain ⟨hk, h⟩ := mv_bif h
        exact lv_astore_n hx hb hd rfl hl (Nat.le_of_ble_eq_true hk) (mv_ks_sv ad _ (.ref x) lv) (fun ls' hl' => ih _ _ _ _ h _ _ _ hW hl')
      · exact h.elim
    case astore k =>
      dsimp only [mv_do] at h
      split at h
      · next x r =>
        obtain ⟨hk, h⟩ := mv_bif h
        exact lv_astore hx hb hd hl (Nat.le_of_ble_eq_true hk) (mv_ks_sv ad _ (.ref x) lv) (fun ls' hl' => ih _ _ _ _ h _ _ _ hW hl')
      · exact h.elim
    case iinc k n =>
      dsimp only [mv_do] at h
      split at h
      · next x hm2 =>
        obtain ⟨hk, h⟩ := mv_bif h
        obtain ⟨kk, hkk⟩ := List.getElem?_of_mem (mv_ks_mem (ad := ad) hm2)
        exact lv_iinc hx hb hd hl hkk rfl (Nat.le_of_ble_eq_true hk) (mv_ks_sv ad _ (.int (x + Int32.ofInt n)) lv) (fun ls' hl' => ih _ _ _ _ h _ _ _ hW hl')
      · exact h.elim
    case iadd =>
      dsimp only [mv_do] at h
      split at h
      · exact lv_iadd hx hb hd (ih _ _ _ _ h _ _ _ hW hl)
      · exact h.elim
    case isub =>
      dsimp only [mv_do] at h
      split at h
      · exact lv_isub hx hb hd (ih _ _ _ _ h _ _ _ hW hl)
      · exact h.elim
    case imul =>
      dsimp only [mv_do] at h
      split at h
      · exact lv_imul hx hb hd (ih _ _ _ _ h _ _ _ hW hl)
      · exact h.elim
    case iand =>
      dsimp only [mv_do] at h
      split at h
      · exact lv_iand hx hb hd (ih _ _ _ _ h _ _ _ hW hl)
      · exact h.elim
    case ixor =>
      dsimp only [mv_do] at h
      split at h
      · exact lv_ixor hx hb hd (ih _ _ _ _ h _ _ _ hW hl)
      · exact h.elim
    case idiv =>
      dsimp only [mv_do] at h
      split at h
      · exact lv_idiv hx hb hd h.1 (ih _ _ _ _ h.2 _ _ _ hW hl)
      · exact h.elim
    case irem =>
      dsimp only [mv_do] at h
      split at h
      · exact lv_irem hx hb hd h.1 (ih _ _ _ _ h.2 _ _ _ hW hl)
      · exact h.elim
    case ineg =>
      dsimp only [mv_do] at h
      split at h
      · exact lv_ineg hx hb hd (ih _ _ _ _ h _ _ _ hW hl)
      · exact h.elim
    case iushr =>
      dsimp only [mv_do] at h
      split at h
      · exact lv_iushr hx hb hd rfl (ih _ _ _ _ h _ _ _ hW hl)
      · exact h.elim
    case i2l =>
      dsimp only [mv_do] at h
      split at h
      · exact lv_i2l hx hb hd rfl (ih _ _ _ _ h _ _ _ hW hl)
      · exact h.elim
    case ladd =>
      dsimp only [mv_do] at h
      split at h
      · exact lv_ladd hx hb hd (ih _ _ _ _ h _ _ _ hW hl)
      · exact h.elim
    case lcmp =>
      dsimp only [mv_do] at h
      split at h
      · exact W.lcmp hx hb hd (ih _ _ _ _ h _ _ _ hW hl)
      · exact h.elim
    case dup =>
      dsimp only [mv_do] at h
      split at h
      · exact lv_dup hx hb hd rfl (ih _ _ _ _ h _ _ _ hW hl)
      · exact lv_dup hx hb hd rfl (ih _ _ _ _ h _ _ _ hW hl)
      · exact h.elim
    case pop =>
      dsimp only [mv_do] at h
      split at h
      · exact lv_pop hx hb hd rfl (ih _ _ _ _ h _ _ _ hW hl)
      · exact lv_pop hx hb hd rfl (ih _ _ _ _ h _ _ _ hW hl)
      · exact h.elim
    case ldc k =>
      dsimp only [mv_do] at h
      split at h
      · next x hm2 => exact lv_ldc hx hb hown (hts _ (hT.2.1 _ _ (mv_at_mem hm2))) hd (ih _ _ _ _ h _ _ _ hW hl)
      · exact h.elim
    case ldc_w k =>
      dsimp only [mv_do] at h
      split at h
      · next x hm2 => exact lv_ldcw hx hb hown (hts _ (hT.2.1 _ _ (mv_at_mem hm2))) hd (ih _ _ _ _ h _ _ _ hW hl)
      · exact h.elim
    case ldc2_w k =>
      dsimp only [mv_do] at h
      split at h
      · next x hm2 => exact lv_ldc2 hx hb hown (hts _ (hT.2.2 _ _ (mv_at_mem hm2))) hd (ih _ _ _ _ h _ _ _ hW hl)
      · exact h.elim
    case goto off =>
      obtain ⟨t, e1, h⟩ := mv_to_spec h
      exact lv_goto hx hb hd e1 (ih _ _ _ _ h _ _ _ hW hl)
    case ifCond cd off =>
      dsimp only [mv_do] at h
      split at h
      · obtain ⟨t, e1, h1, h2⟩ := mv_to_spec h
        cases cd
        case eq => exact lv_if_eq hx hb hd e1 (fun h => ih _ _ _ _ (h1 h) _ _ _ hW hl) (fun h => ih _ _ _ _ (h2 h) _ _ _ hW hl)
        case ne => exact lv_if_ne hx hb hd e1 (fun h => ih _ _ _ _ (h1 h) _ _ _ hW hl) (fun h => ih _ _ _ _ (h2 h) _ _ _ hW hl)
        case lt => exact lv_if_lt hx hb hd e1 (fun h => ih _ _ _ _ (h1 h) _ _ _ hW hl) (fun h => ih _ _ _ _ (h2 h) _ _ _ hW hl)
        case ge => exact lv_if_ge hx hb hd e1 (fun h => ih _ _ _ _ (h1 h) _ _ _ hW hl) (fun h => ih _ _ _ _ (h2 h) _ _ _ hW hl)
        case gt => exact lv_if_gt hx hb hd e1 (fun h => ih _ _ _ _ (h1 h) _ _ _ hW hl) (fun h => ih _ _ _ _ (h2 h) _ _ _ hW hl)
        case le => exact lv_if_le hx hb hd e1 (fun h => ih _ _ _ _ (h1 h) _ _ _ hW hl) (fun h => ih _ _ _ _ (h2 h) _ _ _ hW hl)
      · exact h.elim
    case if_icmp cd off =>
      dsimp only [mv_do] at h
      split at h
      · obtain ⟨t, e1, h1, h2⟩ := mv_to_spec h
        cases cd
        case eq => exact lv_icmp_eq hx hb hd e1 (fun h => ih _ _ _ _ (h1 h) _ _ _ hW hl) (fun h => ih _ _ _ _ (h2 h) _ _ _ hW hl)
        case ne => exact lv_icmp_ne hx hb hd e1 (fun h => ih _ _ _ _ (h1 h) _ _ _ hW hl) (fun h => ih _ _ _ _ (h2 h) _ _ _ hW hl)
        case lt => exact lv_icmp_lt hx hb hd e1 (fun h => ih _ _ _ _ (h1 h) _ _ _ hW hl) (fun h => ih _ _ _ _ (h2 h) _ _ _ hW hl)
        case ge => exact lv_icmp_ge hx hb hd e1 (fun h => ih _ _ _ _ (h1 h) _ _ _ hW hl) (fun h => ih _ _ _ _ (h2 h) _ _ _ hW hl)
        case gt => exact lv_icmp_gt hx hb hd e1 (fun h => ih _ _ _ _ (h1 h) _ _ _ hW hl) (fun h => ih _ _ _ _ (h2 h) _ _ _ hW hl)
        case le => exact lv_icmp_le hx hb hd e1 (fun h => ih _ _ _ _ (h1 h) _ _ _ hW hl) (fun h => ih _ _ _ _ (h2 h) _ _ _ hW hl)
      · exact h.elim
    case tableswitch d lo hi offs =>
      dsimp only [mv_do] at h
      split at h
      · obtain ⟨hk, h⟩ := mv_bif h
        simp only [Bool.and_eq_true, decide_eq_true_eq] at hk
        exact mv_swt hx hb hd hk.1.1 hk.1.2 hk.2 (fun t h => ih _ _ _ _ h _ _ _ hW hl) h
      · exact h.elim
    case lookupswitch d ps =>
      dsimp only [mv_do] at h
      split at h
      · obtain ⟨hk, h⟩ := mv_bif h
        simp only [Bool.and_eq_true] at hk
        exact mv_sws hx hb hd hk.1 hk.2 (fun t h => ih _ _ _ _ h _ _ _ hW hl) h
      · exact h.elim
    case getfield k =>
      dsimp only [mv_do] at h
      split at h
      · split at h
        · next hf => exact mv_get1 hx hb hown hts hK hlay hT hd hf rfl hW (ih _ _ _ _ h _ _ _ hW hl)
        · next hf => exact mv_get1 hx hb hown hts hK hlay hT hd hf rfl hW (ih _ _ _ _ h _ _ _ hW hl)
        · next hf => exact mv_get1 hx hb hown hts hK hlay hT hd hf rfl hW (ih _ _ _ _ h _ _ _ hW hl)
        · exact h.elim
      · exact h.elim
    case putfield k =>
      dsimp only [mv_do] at h
      split at h
      · split at h
        · next hf => exact mv_put1 hx hb hown hts hK hlay hT hd hf (Or.inl rfl) hW (fun H1 locs1 hW1 => ih _ _ _ _ h _ _ _ hW1 hl)
        · next hf => exact mv_put1 hx hb hown hts hK hlay hT hd hf (Or.inr ⟨rfl, h.1⟩) hW (fun H1 locs1 hW1 => ih _ _ _ _ h.2 _ _ _ hW1 hl)
        · exact h.elim
      · exact h.elim
    case iaload =>
      dsimp only [mv_do] at h
      split at h
      · split at h
        · next hq => exact va_iald (tys := mv_tys cy) hx hb hK hW.1 _ 0 (mv_w_get hq) rfl h.1 hd (ih _ _ _ _ h.2 _ _ _ hW hl)
        · exact h.elim
      · exact h.elim
    case baload =>
      dsimp only [mv_do] at h
      split at h
      · split at h
        · next hq => exact va_zald (tys := mv_tys cy) hx hb hK hW.1 _ 1 (mv_w_get hq) rfl h.1 hd (ih _ _ _ _ h.2 _ _ _ hW hl)
        · exact h.elim
      · exact h.elim
    case laload =>
      dsimp only [mv_do] at h
      split at h
      · split at h
        · next hq => exact va_lald (tys := mv_tys cy) hx hb hK hW.1 _ 2 (mv_w_get hq) rfl h.1 hd (ih _ _ _ _ h.2 _ _ _ hW hl)
        · exact h.elim
      · exact h.elim
    case iastore =>
      dsimp only [mv_do] at h
      split at h
      · split at h
        · next hq =>
          refine va_iast (tys := mv_tys cy) hx hb hK hW.1 hW.2.1 hW.2.2 _ 0 (mv_w_get hq) rfl h.1 hd (fun H1 locs1 hP1 hD1 hS1 => ih _ _ _ _ h.2 H1 locs1 _ ?_ hl)
          rw [mv_w_pr (by decide) hq] at hP1 hD1
          exact ⟨hP1, hD1, hS1⟩
        · exact h.elim
      · exact h.elim
    case bastore =>
      dsimp only [mv_do] at h
      split at h
      · split at h
        · next hq =>
          refine va_zast (tys := mv_tys cy) hx hb hK hW.1 hW.2.1 hW.2.2 _ 1 (mv_w_get hq) rfl h.2.1 hd (fun H1 locs1 hP1 hD1 hS1 => ih _ _ _ _ h.2.2 H1 locs1 _ ?_ hl)
          rw [(mv_nar h.1).1, mv_w_pr (by decide) hq] at hP1 hD1
          exact ⟨hP1, hD1, hS1⟩
        · exact h.elim
      · exact h.elim
    case lastore =>
      dsimp only [mv_do] at h
      split at h
      · split at h
        · next hq =>
          refine va_last (tys := mv_tys cy) hx hb hK hW.1 hW.2.1 hW.2.2 _ 2 (mv_w_get hq) rfl h.1 hd (fun H1 locs1 hP1 hD1 hS1 => ih _ _ _ _ h.2 H1 locs1 _ ?_ hl)
          rw [mv_w_pl hq] at hP1 hD1
          exact ⟨hP1, hD1, hS1⟩
        · exact h.elim
      · exact h.elim
    case arraylength =>
      dsimp only [mv_do] at h
      split at h
      · split at h
        · next hq => exact va_alen (tys := mv_tys cy) hx hb hK hW.1 _ 0 (mv_w_get hq) rfl rfl hd (ih _ _ _ _ h _ _ _ hW hl)
        · next hq => exact va_alen (tys := mv_tys cy) hx hb hK hW.1 _ 1 (mv_w_get hq) rfl rfl hd (ih _ _ _ _ h _ _ _ hW hl)
        · next hq => exact va_alen (tys := mv_tys cy) hx hb hK hW.1 _ 2 (mv_w_get hq) rfl rfl hd (ih _ _ _ _ h _ _ _ hW hl)
        · exact h.elim
      · exact h.elim
    case invokevirtual k =>
      dsimp only [mv_do] at h
      split at h
      · next hi => exact hV _ _ _ _ _ _ hd hi _ _ _ _ _ h hW hl.1 (fun r S' H' locs' h' hW' => ih _ _ _ _ h' _ _ _ hW' hl)
      · exact h.elim
    case invokestatic k =>
      dsimp only [mv_do] at h
      split at h
      · next hi => exact hI _ _ _ _ _ _ hd hi _ _ _ _ _ h hW hl.1 (fun r S' H' locs' h' hW' => ih _ _ _ _ h' _ _ _ hW' hl)
      · exact h.elim
    case ireturn =>
      dsimp only [mv_do] at h
      split at h
      · next x =>
        split at h
        · exact W.iret (Qc := Qc) hx hb hr (fun t ht hw => hQ (some (.int x)) S H locs t h hW ht hw) hW.2.2.2.2 hd
        · exact W.zret (Qc := Qc) hx hb hr (mv_nar h.1).2.1 (fun t ht hw => hQ (some (.int x)) S H locs t h.2 hW ht hw) hW.2.2.2.2 hd
        · exact h.elim
      · exact h.elim
    case lreturn =>
      dsimp only [mv_do] at h
      split at h
      · next x =>
        split at h
        · exact W.lret (Qc := Qc) hx hb hr (fun t ht hw => hQ (some (.long x)) S H locs t h hW ht hw) hW.2.2.2.2 hd
        · exact h.elim
      · exact h.elim
    case return_ =>
      dsimp only [mv_do] at h
      split at h
      · split at h
        · exact W.vret (Qc := Qc) hx hb hr (fun t ht hw => hQ none S H locs t h hW ht hw) hW.2.2.2.2 hd
        · exact h.elim
      · exact h.elim
    all_goals exact False.elim h
end MVW
end
section
/-! THE SMALL MACHINE IS SOUND: methods, calls, levels -/
def mv_rm (d : Nat) : Room := { frames := d, cells := 0, slots := 0, locals := 40 * d }
/-- a contract's start and end, over the store -/
def mv_Pc (D : va_G) (cy : Nat → ClassId) (ad : Nat → Nat) (A : Nat → Prop) (lay : List mv_D) (a : List Value) (S : mv_S) : Array Value → State → Prop := va_Pc (a.map (mv_k ad)) (fun U => va_P D vwCl (mv_w cy ad S 0 lay) U.heap ∧ va_K D vwCl (mv_tys cy) U ∧ va_D A (mv_w cy ad S 0 lay))
def mv_Qc (D : va_G) (cy : Nat → ClassId) (ad : Nat → Nat) (A : Nat → Prop) (lay : List mv_D) (P : Option Value → mv_S → Prop) : Array Value → State → Outcome → State → Prop := fun _ st oc t => (∃ (r : Option Value) (S' : mv_S), oc = .returned (r.map (mv_k ad)) ∧ P r S' ∧ va_P D vwCl (mv_w cy ad S' 0 lay) t.heap ∧ va_K D vwCl (mv_tys cy) t ∧ va_D A (mv_w cy ad S' 0 lay)) ∧ va_F A st t
/-- what a method of the system must be -/
def mv_mok (sys : List mv_M) (M : mv_M) : Prop :=
  plainName M.1.cls = true ∧ Cond.code M.1 M.2.1 M.2.2.1 M.2.2.2.1 ∈ mv_Ts ∧ (∀ q ∈ M.2.2.2.2.2.2.2, decode M.2.1 q.1 = .ok (q.2, mv_len q.1 q.2)) ∧ mv_Tok M.1.cls M.2.2.2.2.2.2.1 ∧
  (∀ (i j : Nat), (i, j) ∈ M.2.2.2.2.2.2.1.2.2.2 → ∀ M', sys[j]? = some M' → Cond.methodLink M.1.cls i M'.1 ∈ mv_Ts) ∧
  (M.1.cls ≠ "java/lang/invoke/MethodHandle" ∧ M.1.cls ≠ "java/lang/invoke/VarHandle" ∧ (parseMethodDescriptor M.1.desc).map (fun d => d.parameters.length) = some M.2.2.2.2.1) ∧ M.2.2.1 ≤ 21 ∧
  (Cond.initialized M.1.cls ∈ mv_Ts) ∧ (∀ ci, M.2.2.2.2.2.1 = some ci → (∃ (T : u_T) (N : Nat), vwCl[ci]? = some (M.1.cls, T, N)) ∧ Cond.instanceMethod M.1 ∈ mv_Ts ∧ Cond.selects M.1.cls M.1 M.1 ∈ mv_Ts) ∧ (M.2.2.2.2.2.1 = none → Cond.static M.1 ∈ mv_Ts)
theorem mv_goodIn {w : Cond} (h : w ∈ mv_Ts) : GoodIn mv_Ts (w :: mv_Ts) := fun v hv => by
  have : v ∈ mv_Ts := by
    rcases List.mem_cons.mp hv with rfl | h1
    · exact h
    · exact h1
  exact ⟨this, good_of_word (mv_good v this)⟩
theorem mv_blind {D : va_G} {cy : Nat → ClassId} {ad : Nat → Nat} {A : Nat → Prop} {lay : List mv_D} {a : List Value} {S : mv_S} : FrameBlind (mv_Pc D cy ad A lay a S) := fun a U g mk q => by
  obtain ⟨q0, qP, qK, qD⟩ := q
  exact ⟨q0, qP, va_K.moved (u := U) (U := U.calling g mk a) (Vm.Alike.refl U.vm) qK, qD⟩
section MVB
variable {p : Program} {l : Launch} {e : Env} {R : Room} {s : State} {m : MethodId} {args : Array Value} {below : List Frame} {meth : Method} {c : Code} {Q : State → Prop}
variable {cc : ByteArray} {D : va_G} {cy : Nat → ClassId} {ad : Nat → Nat} {A : Nat → Prop} {lay : List mv_D} {sys : List mv_M} {own : String} {T : mv_T} {nL : Nat} {Call : mv_Call} {P : Option Value → mv_S → Prop}
theorem mv_run {pc : Nat} {ls : Array Slot} {st0 rest : List Value} {a : Array Value} {H : Heap} {locs : List Loc} {S : mv_S} (hr : va_Run p l e R s m args below meth c H locs 0 0 0 0 (F0 m pc ls st0) (rest.map (mv_k ad)) (mv_Qc D cy ad A lay P a) A) (hW : mv_W D cy ad A lay s S H locs)
    (kk : ∀ (r : Option Value) (S' : mv_S) (H' : Heap) (locs' : List Loc), P r S' → mv_W D cy ad A lay s S' H' locs' → W p l e R s m args below meth c H' locs' 0 0 Q (F0 m (pc + 3) ls ((r.toList ++ rest).map (mv_k ad)))) : W p l e R s m args below meth c H locs 0 0 Q (F0 m pc ls st0) := by
  intro U hU X
  obtain ⟨v, st₀, t, T', L, h0, X', hL, e1, e2, ⟨⟨r, S', hv, hp, hP1, hK1, hD1⟩, hz, hk⟩, st⟩ := hr U hU X
  rw [h0] at hz hk
  obtain ⟨hP, hD, hS⟩ := hW
  have ev : v = r.map (mv_k ad) := by cases hv; rfl
  subst ev
  obtain ⟨t2, a1, b1⟩ := kk r S' T'.heap (locs ++ L) hp ⟨by rw [e1]; exact hP1, hD1, Nat.le_trans hS.1 (by rw [e1]; exact hz), fun q h1 h2 => by rw [e1, hk q (Nat.lt_of_lt_of_le h1 hS.1) h2]; exact hS.2.1 q h1 h2, fun q hq => by
      rcases List.mem_append.mp hq with h | h
      · exact hS.2.2 q h
      · exact hL q h⟩ T' rfl X'
  refine ⟨t2, st t2 ?_, b1⟩
  have : (r.map (mv_k ad)).toList ++ rest.map (mv_k ad) = (r.toList ++ rest).map (mv_k ad) := by cases r <;> simp
  rw [this]
  exact a1
end MVB
theorem mv_met {l : Launch} {D : va_G} {cy : Nat → ClassId} {ad : Nat → Nat} {A : Nat → Prop} {lay : List mv_D} {sys : List mv_M} (hlay : mv_lok lay) (hsys : ∀ (j : Nat) (M : mv_M), sys[j]? = some M → mv_mok sys M) :
    ∀ (d j : Nat) (a : List Value) (S : mv_S) (P : Option Value → mv_S → Prop) (M : mv_M), sys[j]? = some M → mv_big lay sys d j a S P → Met l M.1 (Cond.code M.1 M.2.1 M.2.2.1 M.2.2.2.1 :: mv_Ts) (mv_rm d) (mv_Pc D cy ad A lay a S) (mv_Qc D cy ad A lay P) 0 0 A := by
  intro d
  induction d with
  | zero => intro j a S P M _ h; exact h.elim
  | succ d ih =>
    intro j a S P M hM h
    unfold mv_big at h
    rw [hM] at h
    obtain ⟨hlen, n, h⟩ := mv_bif h
    obtain ⟨h1, h2, h3, h4, h5, h6, h7, h8, h9, h10⟩ := hsys j M hM
    refine Met.ofW (cc := M.2.1) (maxL := M.2.2.1) (ret := M.2.2.2.1) h1 rfl ?_
    intro p e s m args below meth c s₁ B hml hv
    obtain ⟨rfl, hP, hK, hD⟩ := hv
    have hx := B.exec
    have hb := B.bytes
    have hr := B.returns
    have hts0 := atoms_spec (ws := Cond.code M.1 M.2.1 M.2.2.1 M.2.2.2.1 :: mv_Ts) B.pre
    have hts : ∀ w ∈ mv_Ts, w.before (a.map (mv_k ad)).toArray s = true := fun w hw => hts0 w (List.mem_cons_of_mem _ hw)
    have hown : s.vm.findClass M.1.cls = some m.cls := findClass_of_methodNamed B.named
    have hlocks := B.notSynchronized
    have hl := lv_entry (a.map (mv_k ad)) (n := M.2.2.1) (by rw [mv_sl_len]; exact Nat.le_of_ble_eq_true hlen)
    rw [mv_ks_args] at hl
    rw [lg_entry_eq]
    generalize (lg_sl (a.map (mv_k ad)) ++ List.replicate (M.2.2.1 - (lg_sl (a.map (mv_k ad))).length) Slot.unset).toArray = ls at hl ⊢
    refine mv_snd (own := M.1.cls) (Call := mv_big lay sys d) (Qc := mv_Qc D cy ad A lay P) hx hb hown hr hlocks hts hK hlay h4 h3 ?_ ?_ ?_ n 0 (lv_args 0 a) [] S h s.heap [] ls ⟨hP, hD, va_S.rf⟩ hl
    · intro r S' H locs t hp hW ht hwm
      exact ⟨⟨r, S', rfl, hp, by rw [ht]; exact hW.1, va_K.moved hwm.alike hK, hW.2.1⟩, hW.2.2.F ht⟩
    · intro pc i st j' a' rest hd hiv
      obtain ⟨hm, y, cc', mL, rt, np, ci, T', il', q, fs, As, hs', hq, hAs, rfl, rfl, hcat⟩ := mv_iv_spec hiv
      obtain ⟨g1, g2, g3, g4, g5, g6, g7, g8, g9, g10⟩ := hsys j' _ hs'
      obtain ⟨⟨Tt, N, hcl⟩, gi, gs⟩ := g9 ci rfl
      intro S' P' H locs ls' hc hW hsz kk
      have hM' := ih j' _ S' P' _ hs' hc
      have cb : CallB (headSpec (Cond.code M.1 M.2.1 M.2.2.1 M.2.2.2.1 :: mv_Ts) (mv_rm (d + 1))).room s (a.map (mv_k ad)).toArray M.1.cls i y cc' mL rt (Cond.code y cc' mL rt :: mv_Ts) (mv_rm d) 0 0 np :=
        callB_of np hts (mv_goodIn g2) rfl rfl rfl (hts _ g8) (hts _ (h5 _ _ hm _ hs')) g6 ⟨Nat.le_refl _, by show 8 + (mL + 11) + 40 * d ≤ 40 * (d + 1); have : mL ≤ 21 := g7; omega⟩
      refine mv_run (S := S') (a := (Value.ref (ad q) :: As.map (mv_k ad)).toArray) (va_runV (C := y.cls) (b := ad q) (As := As.map (mv_k ad)) (rest := rest.map (mv_k ad)) ⟨hx, hb, hml, hown, hts⟩ hM' ⟨cb, hts _ gi, hts _ gs⟩ ⟨mv_blind, va_recv hK hW.1 hcl (mv_w_get hq), fun U hU hWm => ⟨rfl, by rw [hU]; exact hW.1, va_K.moved hWm.alike hK, hW.2.1⟩⟩ rfl (by rw [List.length_map]; exact hAs) hsz ?_ (lv_room (by rw [mv_cat_k]; exact hcat)) hd ⟨Nat.zero_le _, Nat.zero_le _⟩) hW kk
      simp [mv_k]
    · intro pc i st j' a' rest hd his
      obtain ⟨hm, y, cc', mL, rt, np, T', il', hs', hAs, rfl, hcat⟩ := mv_is_spec his
      obtain ⟨g1, g2, g3, g4, g5, g6, g7, g8, g9, g10⟩ := hsys j' _ hs'
      intro S' P' H locs ls' hc hW hsz kk
      have hM' := ih j' _ S' P' _ hs' hc
      have cb : CallB (headSpec (Cond.code M.1 M.2.1 M.2.2.1 M.2.2.2.1 :: mv_Ts) (mv_rm (d + 1))).room s (a.map (mv_k ad)).toArray M.1.cls i y cc' mL rt (Cond.code y cc' mL rt :: mv_Ts) (mv_rm d) 0 0 np :=
        callB_of np hts (mv_goodIn g2) rfl rfl rfl (hts _ g8) (hts _ (h5 _ _ hm _ hs')) g6 ⟨Nat.le_refl _, by show 8 + (mL + 11) + 40 * d ≤ 40 * (d + 1); have : mL ≤ 21 := g7; omega⟩
      refine mv_run (S := S') (a := (a'.map (mv_k ad)).toArray) (va_runS (As := a'.map (mv_k ad)) (rest := rest.map (mv_k ad)) ⟨hx, hb, hml, hown, hts⟩ hM' ⟨cb, hts _ (g10 rfl)⟩ ⟨mv_blind, fun U hU hWm => ⟨rfl, by rw [hU]; exact hW.1, va_K.moved hWm.alike hK, hW.2.1⟩⟩ rfl (by rw [List.length_map]; exact hAs) hsz ?_ (lv_room (by rw [mv_cat_k]; exact hcat)) hd ⟨Nat.zero_le _, Nat.zero_le _⟩) hW kk
      simp
end
section
/-! the tables' checks, by program -/
def mv_mem (h : Nat) (w : Cond) : Bool := decide (lw_tbl[h]? = some w) && goodWord w
theorem mv_mem_of {h : Nat} {w : Cond} (q : mv_mem h w = true) : w ∈ mv_Ts := by
  simp only [mv_mem, Bool.and_eq_true, decide_eq_true_eq] at q
  exact mv_in (List.mem_of_getElem? q.1) q.2
def mv_fchk (own : String) : List (Nat × Nat × Nat) → List Nat → Bool
  | [], _ => true
  | _ :: _, [] => false
  | (i, ci, k) :: r, h :: hs => (match vwCl[ci]? with
    | some (C, T, N) => decide (k < N) && mv_mem h (.fieldLink own i C (T k).2.1 (T k).2.2.1) && decide ((T k).1 = C)
    | none => false) && mv_fchk own r hs
theorem mv_fchk_of {own : String} : ∀ {l : List (Nat × Nat × Nat)} {hs : List Nat}, mv_fchk own l hs = true → ∀ i ci k, (i, ci, k) ∈ l → mv_fok own i ci k
  | [], _, _, _, _, _, h => by cases h
  | _ :: _, [], h, _, _, _, _ => by simp [mv_fchk] at h
  | (i, ci, k) :: r, h :: hs, q, i', ci', k', hm => by
    simp only [mv_fchk, Bool.and_eq_true] at q
    rcases List.mem_cons.mp hm with e | hm
    · cases e
      split at q
      · next C T N hc =>
        have q1 := q.1
        simp only [Bool.and_eq_true, decide_eq_true_eq] at q1
        exact ⟨C, T, N, hc, q1.1.1, mv_mem_of q1.1.2, q1.2⟩
      · simp at q
    · exact mv_fchk_of q.2 i' ci' k' hm
def mv_kchk (own : String) : List (Nat × Int32) → List Nat → Bool
  | [], _ => true
  | _ :: _, [] => false
  | (i, v) :: r, h :: hs => mv_mem h (.constant own i v) && mv_kchk own r hs
theorem mv_kchk_of {own : String} : ∀ {l : List (Nat × Int32)} {hs : List Nat}, mv_kchk own l hs = true → ∀ i v, (i, v) ∈ l → Cond.constant own i v ∈ mv_Ts
  | [], _, _, _, _, h => by cases h
  | _ :: _, [], h, _, _, _ => by simp [mv_kchk] at h
  | (i, v) :: r, h :: hs, q, i', v', hm => by
    simp only [mv_kchk, Bool.and_eq_true] at q
    rcases List.mem_cons.mp hm with e | hm
    · cases e; exact mv_mem_of q.1
    · exact mv_kchk_of q.2 i' v' hm
def mv_jchk (own : String) : List (Nat × Int64) → List Nat → Bool
  | [], _ => true
  | _ :: _, [] => false
  | (i, v) :: r, h :: hs => mv_mem h (.constantLong own i v) && mv_jchk own r hs
theorem mv_jchk_of {own : String} : ∀ {l : List (Nat × Int64)} {hs : List Nat}, mv_jchk own l hs = true → ∀ i v, (i, v) ∈ l → Cond.constantLong own i v ∈ mv_Ts
  | [], _, _, _, _, h => by cases h
  | _ :: _, [], h, _, _, _ => by simp [mv_jchk] at h
  | (i, v) :: r, h :: hs, q, i', v', hm => by
    simp only [mv_jchk, Bool.and_eq_true] at q
    rcases List.mem_cons.mp hm with e | hm
    · cases e; exact mv_mem_of q.1
    · exact mv_jchk_of q.2 i' v' hm
def mv_mchk (own : String) (sys : List mv_M) : List (Nat × Nat) → List Nat → Bool
  | [], _ => true
  | _ :: _, [] => false
  | (i, j) :: r, h :: hs => (match sys[j]? with
    | some M => mv_mem h (.methodLink own i M.1)
    | none => false) && mv_mchk own sys r hs
theorem mv_mchk_of {own : String} {sys : List mv_M} : ∀ {l : List (Nat × Nat)} {hs : List Nat}, mv_mchk own sys l hs = true → ∀ (i j : Nat), (i, j) ∈ l → ∀ M', sys[j]? = some M' → Cond.methodLink own i M'.1 ∈ mv_Ts
  | [], _, _, _, _, h => by cases h
  | _ :: _, [], h, _, _, _ => by simp [mv_mchk] at h
  | (i, j) :: r, h :: hs, q, i', j', hm => by
    simp only [mv_mchk, Bool.and_eq_true] at q
    rcases List.mem_cons.mp hm with e | hm
    · cases e
      intro M' hM
      have q1 := q.1
      rw [hM] at q1
      exact mv_mem_of q1
    · exact mv_mchk_of q.2 i' j' hm
def mv_Tchk (own : String) (T : mv_T) (sys : List mv_M) (h1 h2 h3 h4 : List Nat) : Bool := mv_fchk own T.1 h1 && mv_kchk own T.2.1 h2 && mv_jchk own T.2.2.1 h3 && mv_mchk own sys T.2.2.2 h4
theorem mv_Tok_of {own : String} {T : mv_T} {sys : List mv_M} {h1 h2 h3 h4 : List Nat} (h : mv_Tchk own T sys h1 h2 h3 h4 = true) : mv_Tok own T ∧ ∀ (i j : Nat), (i, j) ∈ T.2.2.2 → ∀ M', sys[j]? = some M' → Cond.methodLink own i M'.1 ∈ mv_Ts := by
  simp only [mv_Tchk, Bool.and_eq_true] at h
  exact ⟨⟨mv_fchk_of h.1.1.1, mv_kchk_of h.1.1.2, mv_jchk_of h.1.2⟩, mv_mchk_of h.2⟩
def mv_dchk (M : mv_M) : Bool := M.2.2.2.2.2.2.2.all (fun q => decide (decode M.2.1 q.1 = .ok (q.2, mv_len q.1 q.2)))
def mv_c2 (hc h2 h3 hi : Nat) (M : mv_M) : Bool := plainName M.1.cls && mv_mem hc (.code M.1 M.2.1 M.2.2.1 M.2.2.2.1) && decide (M.1.cls ≠ "java/lang/invoke/MethodHandle") && decide (M.1.cls ≠ "java/lang/invoke/VarHandle") && decide ((parseMethodDescriptor M.1.desc).map (fun d => d.parameters.length) = some M.2.2.2.2.1) && decide (M.2.2.1 ≤ 21) && mv_mem hi (.initialized M.1.cls) && (match M.2.2.2.2.2.1 with
  | some ci => (match vwCl[ci]? with
    | some (C, _, _) => decide (C = M.1.cls)
    | none => false) && mv_mem h2 (.instanceMethod M.1) && mv_mem h3 (.selects M.1.cls M.1 M.1)
  | none => mv_mem h2 (.static M.1))
theorem mv_mok_of {sys : List mv_M} {M : mv_M} {hc h2 h3 hi : Nat} (hd : mv_dchk M = true) (hT : mv_Tok M.1.cls M.2.2.2.2.2.2.1 ∧ ∀ (i j : Nat), (i, j) ∈ M.2.2.2.2.2.2.1.2.2.2 → ∀ M', sys[j]? = some M' → Cond.methodLink M.1.cls i M'.1 ∈ mv_Ts) (h : mv_c2 hc h2 h3 hi M = true) : mv_mok sys M := by
  simp only [mv_c2, Bool.and_eq_true, decide_eq_true_eq] at h
  obtain ⟨⟨⟨⟨⟨⟨⟨a1, a2⟩, a3⟩, a4⟩, a5⟩, a6⟩, a7⟩, a8⟩ := h
  refine ⟨a1, mv_mem_of a2, ?_, hT.1, hT.2, ⟨a3, a4, a5⟩, a6, mv_mem_of a7, ?_, ?_⟩
  · intro q hq
    exact of_decide_eq_true (List.all_eq_true.mp hd q hq)
  · intro ci hci
    rw [hci] at a8
    simp only [Bool.and_eq_true] at a8
    obtain ⟨⟨b1, b2⟩, b3⟩ := a8
    refine ⟨?_, mv_mem_of b2, mv_mem_of b3⟩
    split at b1
    · next C T N hc =>
      rw [← of_decide_eq_true b1]
      exact ⟨T, N, hc⟩
    · cases b1
  · intro hn
    rw [hn] at a8
    exact mv_mem_of a8
def mv_wchk (C : String) (T : u_T) : List Nat → List Nat → Bool
  | [], _ => true
  | _ :: _, [] => false
  | k :: r, h :: hs => mv_mem h (u_lay C T k) && mv_wchk C T r hs
theorem mv_wchk_of {C : String} {T : u_T} : ∀ {l hs : List Nat}, mv_wchk C T l hs = true → ∀ k ∈ l, u_lay C T k ∈ mv_Ts
  | [], _, _, _, h => by cases h
  | _ :: _, [], h, _, _ => by simp [mv_wchk] at h
  | k :: r, h :: hs, q, k', hm => by
    simp only [mv_wchk, Bool.and_eq_true] at q
    rcases List.mem_cons.mp hm with e | hm
    · cases e; exact mv_mem_of q.1
    · exact mv_wchk_of q.2 k' hm
theorem mv_cok_of {ci : Nat} {C : String} {T : u_T} {N : Nat} {ty : Nat → FieldType} {hs : List Nat} (hc : vwCl[ci]? = some (C, T, N)) (h : mv_wchk C T (List.range N) hs = true) (hty : ∀ k, k < N → parseFieldDescriptor (T k).2.2.1 = some (ty k)) (hnm : ∀ a, a < N → ∀ b, b < N → a ≠ b → (T a).2.1 ≠ (T b).2.1) : mv_cok ci := by
  refine ⟨C, T, N, ty, hc, ?_, hty, hnm⟩
  intro w hw
  obtain ⟨k, hk, rfl⟩ := List.mem_map.mp hw
  exact mv_wchk_of h k hk
def mv_sok (ci : Nat) (fs : List Nat) : Bool := match vwCl[ci]? with
  | some (_, T, N) => decide (fs.length = N) && (List.range N).all (fun k => match fs[k]? with
    | some 0 => decide ((T k).2.2.2 = false) && decide (parseFieldDescriptor (T k).2.2.1 = some .int)
    | some 1 => decide ((T k).2.2.2 = false) && decide (parseFieldDescriptor (T k).2.2.1 = some .boolean)
    | _ => true)
  | none => false
theorem mv_lok_of {lay : List mv_D} (hc : ∀ ci < 9, mv_cok ci) (h : lay.all (fun d => match d with
    | .inl (ci, fs) => decide (ci < 9) && mv_sok ci fs
    | _ => true) = true) : mv_lok lay := by
  intro q ci fs hq
  have h1 := List.all_eq_true.mp h _ (List.mem_of_getElem? hq)
  simp only [Bool.and_eq_true, decide_eq_true_eq] at h1
  refine ⟨hc ci h1.1, ?_⟩
  intro C T N hcl
  have h2 := h1.2
  unfold mv_sok at h2
  rw [hcl] at h2
  simp only [Bool.and_eq_true, decide_eq_true_eq] at h2
  refine ⟨h2.1, ?_⟩
  intro k f hk
  have hkN : k < N := by rw [← h2.1]; exact mv_lt hk
  have h3 := List.all_eq_true.mp h2.2 k (List.mem_range.mpr hkN)
  rw [hk] at h3
  constructor
  · intro e; subst e
    simp only [Bool.and_eq_true, decide_eq_true_eq] at h3
    exact h3
  · intro e; subst e
    simp only [Bool.and_eq_true, decide_eq_true_eq] at h3
    exact h3
end
section
def tT0 : mv_T := ([(11, 0, 0), (15, 0, 1), (18, 0, 2), (21, 0, 3), (24, 0, 4), (27, 0, 5), (30, 0, 6), (33, 0, 7), (59, 0, 8), (62, 0, 9), (75, 0, 10), (72, 0, 11), (36, 0, 12), (40, 0, 13), (52, 0, 14), (55, 0, 15)], [(49, 2146121005), (50, -2073254261), (51, -2147483648)], [(91, -2147483648)], [(43, 17), (46, 20), (82, 2), (85, 5), (88, 6), (65, 9), (69, 7), (78, 19), (93, 23)])
def tT1 : mv_T := ([(9, 1, 0), (20, 1, 1), (39, 1, 2), (24, 1, 3)], [], [], [(15, 50), (28, 28), (52, 57), (58, 33), (89, 62), (61, 31), (86, 56), (80, 27), (65, 63), (69, 35), (92, 124), (95, 36), (98, 38), (107, 42), (133, 125), (136, 44), (77, 71), (120, 72), (126, 73), (110, 45), (142, 46), (155, 34), (158, 32), (145, 47), (161, 128), (164, 43), (139, 126), (167, 70), (149, 130), (152, 127), (116, 59), (123, 61), (72, 30), (101, 39), (42, 74), (129, 41), (104, 40), (113, 37), (32, 29), (83, 64), (35, 52), (46, 51), (49, 75)])
def tT2 : mv_T := ([(9, 2, 0), (15, 2, 1), (18, 2, 2), (21, 2, 3), (24, 2, 4), (27, 2, 5), (30, 2, 6), (60, 2, 7), (63, 2, 8), (37, 2, 9), (53, 2, 10), (49, 2, 11), (33, 2, 12)], [], [], [(40, 50), (43, 79), (81, 71), (70, 57), (76, 65), (66, 62), (56, 77), (78, 129), (85, 75)])
def tT3 : mv_T := ([], [], [], [])
def tT4 : mv_T := ([(15, 3, 0), (19, 3, 1), (23, 3, 2), (33, 3, 3), (9, 3, 4)], [], [], [(27, 68), (36, 96), (41, 88), (44, 76), (48, 157), (53, 107), (56, 89), (60, 90), (74, 65), (77, 112), (81, 66), (64, 113), (67, 91), (84, 110), (87, 109), (90, 111), (70, 114)])
def tT5 : mv_T := ([(40, 4, 0), (49, 4, 1), (11, 4, 2), (15, 4, 3), (18, 4, 4), (21, 4, 5), (24, 4, 6), (28, 4, 7), (31, 4, 8), (34, 4, 9), (37, 4, 10), (87, 4, 11), (90, 4, 12), (84, 4, 13), (62, 4, 14), (66, 4, 15), (69, 4, 16)], [], [(104, -2147483648)], [(53, 81), (59, 94), (72, 92), (75, 1), (80, 79), (93, 77), (119, 104), (97, 101), (101, 102), (126, 107), (130, 106), (109, 78), (112, 23), (116, 2), (106, 80), (123, 3), (136, 116), (139, 119), (173, 8), (176, 131), (180, 132), (183, 133), (186, 121), (193, 14), (197, 123), (218, 17), (206, 19), (200, 15), (203, 16), (209, 20), (212, 13), (190, 120), (154, 109), (151, 108), (142, 103), (145, 115), (148, 105), (157, 117), (160, 22), (164, 21), (167, 118), (170, 24), (215, 18)])
def tT6 : mv_T := ([], [], [], [])
def tT7 : mv_T := ([(21, 5, 0), (11, 5, 1), (15, 5, 2), (18, 5, 3), (68, 5, 4), (31, 5, 5)], [], [], [(25, 7), (35, 2), (38, 4), (41, 135), (85, 9), (59, 11), (49, 5), (52, 6), (45, 136), (55, 10), (62, 22), (65, 137), (71, 134), (88, 79), (75, 12), (79, 77)])
def tT8 : mv_T := ([(18, 6, 0), (22, 6, 1), (11, 6, 2), (15, 6, 3), (37, 6, 4), (50, 6, 5), (26, 6, 6), (30, 6, 7), (34, 6, 8)], [(53, 1000000)], [], [(40, 69), (46, 139), (89, 79), (54, 77), (60, 57), (64, 145), (116, 146), (122, 97), (125, 113), (93, 58), (119, 144), (107, 143), (99, 95), (104, 96), (111, 127), (67, 148), (131, 147), (128, 142), (134, 107), (137, 60), (140, 124), (144, 141), (96, 140), (71, 149), (74, 150), (147, 105), (150, 108), (153, 151), (156, 110), (159, 109), (162, 111), (77, 152), (80, 153), (166, 70), (169, 154), (172, 112), (175, 67), (83, 155), (178, 106), (86, 156), (181, 128), (184, 129), (185, 130), (188, 114)])
def tT9 : mv_T := ([], [], [], [])
def tT10 : mv_T := ([(12, 7, 0), (21, 7, 1), (28, 7, 2), (37, 7, 3), (46, 7, 4), (53, 7, 5)], [], [], [(57, 0), (61, 48), (64, 83), (67, 92), (68, 49), (72, 172), (156, 94), (75, 53), (79, 26), (82, 55), (85, 76), (89, 54), (93, 93), (97, 82), (99, 171), (102, 84), (105, 87), (108, 138), (111, 99), (114, 100), (117, 103), (120, 105), (123, 21), (125, 25), (129, 2), (132, 3), (135, 75), (138, 95), (141, 122), (144, 98), (147, 97), (150, 85), (153, 86)])
def mX0_furnish : mv_M := (yX0_furnish, cX0_furnish, 3, none, 2, some 0, tT0, [(0, .aload_n 0), (1, .iload_n 1), (2, .putfield 36), (5, .aload_n 0), (6, .iload_n 2), (7, .putfield 40), (10, .return_)])
def mX0_giveBackAll : mv_M := (yX0_giveBackAll, cX0_giveBackAll, 1, none, 0, some 0, tT0, [(0, .aload_n 0), (1, .invokevirtual 43), (4, .aload_n 0), (5, .invokevirtual 46), (8, .return_)])
def mX0_key : mv_M := (yX0_key, cX0_key, 2, (some .int), 1, some 0, tT0, [(0, .iload_n 1), (1, .ifCond .le 19), (4, .iload_n 1), (5, .sipush 803), (8, .if_icmp .ge 12), (11, .aload_n 0), (12, .getfield 11), (15, .iload_n 1), (16, .iaload), (17, .goto 4), (20, .iconst 0), (21, .ireturn)])
def mX0_value : mv_M := (yX0_value, cX0_value, 2, (some .int), 1, some 0, tT0, [(0, .iload_n 1), (1, .ifCond .le 19), (4, .iload_n 1), (5, .sipush 803), (8, .if_icmp .ge 12), (11, .aload_n 0), (12, .getfield 15), (15, .iload_n 1), (16, .iaload), (17, .goto 4), (20, .iconst 0), (21, .ireturn)])
def mX0_rank : mv_M := (yX0_rank, cX0_rank, 2, (some .int), 1, some 0, tT0, [(0, .iload_n 1), (1, .ifCond .le 19), (4, .iload_n 1), (5, .sipush 803), (8, .if_icmp .ge 12), (11, .aload_n 0), (12, .getfield 18), (15, .iload_n 1), (16, .iaload), (17, .goto 4), (20, .iconst 0), (21, .ireturn)])
def mX0_lesser : mv_M := (yX0_lesser, cX0_lesser, 2, (some .int), 1, some 0, tT0, [(0, .iload_n 1), (1, .ifCond .le 19), (4, .iload_n 1), (5, .sipush 803), (8, .if_icmp .ge 12), (11, .aload_n 0), (12, .getfield 21), (15, .iload_n 1), (16, .iaload), (17, .goto 4), (20, .iconst 0), (21, .ireturn)])
def mX0_greater : mv_M := (yX0_greater, cX0_greater, 2, (some .int), 1, some 0, tT0, [(0, .iload_n 1), (1, .ifCond .le 19), (4, .iload_n 1), (5, .sipush 803), (8, .if_icmp .ge 12), (11, .aload_n 0), (12, .getfield 24), (15, .iload_n 1), (16, .iaload), (17, .goto 4), (20, .iconst 0), (21, .ireturn)])
def mX0_rankOf : mv_M := (yX0_rankOf, cX0_rankOf, 3, (some .int), 1, some 0, tT0, [(0, .iload_n 1), (1, .aload_n 0), (2, .getfield 36), (5, .ixor), (6, .istore_n 2), (7, .iload_n 2), (8, .iload_n 2), (9, .bipush 16), (11, .iushr), (12, .ixor), (13, .ldc 49), (15, .imul), (16, .istore_n 2), (17, .iload_n 2), (18, .iload_n 2), (19, .bipush 15), (21, .iushr), (22, .ixor), (23, .ldc 50), (25, .imul), (26, .istore_n 2), (27, .iload_n 2), (28, .iload_n 2), (29, .bipush 16), (31, .iushr), (32, .ixor), (33, .ldc 51), (35, .ixor), (36, .ireturn)])
def mX0_beginMaking : mv_M := (yX0_beginMaking, cX0_beginMaking, 1, none, 0, some 0, tT0, [(0, .aload_n 0), (1, .iconst 0), (2, .putfield 52), (5, .aload_n 0), (6, .iconst 0), (7, .putfield 55), (10, .aload_n 0), (11, .aload_n 0), (12, .getfield 59), (15, .putfield 62), (18, .return_)])
def mX0_copy : mv_M := (yX0_copy, cX0_copy, 3, (some .int), 1, some 0, tT0, [(0, .aload_n 0), (1, .getfield 52), (4, .aload_n 0), (5, .getfield 40), (8, .if_icmp .ge 34), (11, .aload_n 0), (12, .getfield 59), (15, .ifCond .le 27), (18, .aload_n 0), (19, .getfield 59), (22, .sipush 803), (25, .if_icmp .gt 17), (28, .aload_n 0), (29, .getfield 27), (32, .aload_n 0), (33, .getfield 59), (36, .iconst 1), (37, .isub), (38, .iaload), (39, .goto 4), (42, .iconst 0), (43, .istore_n 2), (44, .iload_n 2), (45, .iconst 1), (46, .if_icmp .lt 21), (49, .iload_n 2), (50, .sipush 803), (53, .if_icmp .ge 14), (56, .iload_n 1), (57, .ifCond .lt 10), (60, .iload_n 1), (61, .sipush 803), (64, .if_icmp .lt 10), (67, .aload_n 0), (68, .iconst 1), (69, .putfield 55), (72, .iconst 0), (73, .ireturn), (74, .aload_n 0), (75, .dup), (76, .getfield 59), (79, .iconst 1), (80, .isub), (81, .putfield 59), (84, .aload_n 0), (85, .dup), (86, .getfield 52), (89, .iconst 1), (90, .iadd), (91, .putfield 52), (94, .aload_n 0), (95, .getfield 11), (98, .iload_n 2), (99, .aload_n 0), (100, .getfield 11), (103, .iload_n 1), (104, .iaload), (105, .iastore), (106, .aload_n 0), (107, .getfield 15), (110, .iload_n 2), (111, .aload_n 0), (112, .getfield 15), (115, .iload_n 1), (116, .iaload), (117, .iastore), (118, .aload_n 0), (119, .getfield 18), (122, .iload_n 2), (123, .aload_n 0), (124, .getfield 18), (127, .iload_n 1), (128, .iaload), (129, .iastore), (130, .aload_n 0), (131, .getfield 21), (134, .iload_n 2), (135, .aload_n 0), (136, .getfield 21), (139, .iload_n 1), (140, .iaload), (141, .iastore), (142, .aload_n 0), (143, .getfield 24), (146, .iload_n 2), (147, .aload_n 0), (148, .getfield 24), (151, .iload_n 1), (152, .iaload), (153, .iastore), (154, .iload_n 2), (155, .ireturn)])
def mX0_make : mv_M := (yX0_make, cX0_make, 6, (some .int), 4, some 0, tT0, [(0, .aload_n 0), (1, .iconst 0), (2, .invokevirtual 65), (5, .istore 5), (7, .iload 5), (9, .ifCond .le 56), (12, .iload 5), (14, .sipush 803), (17, .if_icmp .ge 48), (20, .aload_n 0), (21, .getfield 11), (24, .iload 5), (26, .iload_n 1), (27, .iastore), (28, .aload_n 0), (29, .getfield 15), (32, .iload 5), (34, .iload_n 2), (35, .iastore), (36, .aload_n 0), (37, .getfield 18), (40, .iload 5), (42, .aload_n 0), (43, .iload_n 1), (44, .invokevirtual 69), (47, .iastore), (48, .aload_n 0), (49, .getfield 21), (52, .iload 5), (54, .iload_n 3), (55, .iastore), (56, .aload_n 0), (57, .getfield 24), (60, .iload 5), (62, .iload 4), (64, .iastore), (65, .iload 5), (67, .ireturn)])
def mX0_hang : mv_M := (yX0_hang, cX0_hang, 3, none, 2, some 0, tT0, [(0, .iload_n 1), (1, .ifCond .le 20), (4, .iload_n 1), (5, .sipush 803), (8, .if_icmp .ge 13), (11, .aload_n 0), (12, .getfield 21), (15, .iload_n 1), (16, .iload_n 2), (17, .iastore), (18, .goto 22), (21, .iload_n 1), (22, .ifCond .ge 18), (25, .iload_n 1), (26, .sipush (-803)), (29, .if_icmp .le 11), (32, .aload_n 0), (33, .getfield 24), (36, .iload_n 1), (37, .ineg), (38, .iload_n 2), (39, .iastore), (40, .return_)])
def mX0_over : mv_M := (yX0_over, cX0_over, 1, (some .boolean), 0, some 0, tT0, [(0, .aload_n 0), (1, .getfield 55), (4, .ireturn)])
def mX0_made : mv_M := (yX0_made, cX0_made, 1, (some .int), 0, some 0, tT0, [(0, .aload_n 0), (1, .getfield 52), (4, .ireturn)])
def mX0_surelyFits : mv_M := (yX0_surelyFits, cX0_surelyFits, 1, (some .boolean), 0, some 0, tT0, [(0, .aload_n 0), (1, .getfield 55), (4, .ifCond .ne 22), (7, .sipush 800), (10, .aload_n 0), (11, .getfield 59), (14, .isub), (15, .aload_n 0), (16, .getfield 40), (19, .if_icmp .gt 7), (22, .iconst 1), (23, .goto 4), (26, .iconst 0), (27, .ireturn)])
def mX0_fits : mv_M := (yX0_fits, cX0_fits, 1, (some .boolean), 0, some 0, tT0, [(0, .aload_n 0), (1, .getfield 55), (4, .ifCond .ne 23), (7, .aload_n 0), (8, .getfield 72), (11, .aload_n 0), (12, .getfield 52), (15, .iadd), (16, .aload_n 0), (17, .getfield 40), (20, .if_icmp .gt 7), (23, .iconst 1), (24, .goto 4), (27, .iconst 0), (28, .ireturn)])
def mX0_undo : mv_M := (yX0_undo, cX0_undo, 1, none, 0, some 0, tT0, [(0, .aload_n 0), (1, .aload_n 0), (2, .getfield 62), (5, .putfield 59), (8, .return_)])
def mX0_beginReaching : mv_M := (yX0_beginReaching, cX0_beginReaching, 1, none, 0, some 0, tT0, [(0, .aload_n 0), (1, .dup), (2, .getfield 75), (5, .iconst 1), (6, .iadd), (7, .putfield 75), (10, .aload_n 0), (11, .iconst 0), (12, .putfield 72), (15, .return_)])
def mX0_reached : mv_M := (yX0_reached, cX0_reached, 1, (some .int), 0, some 0, tT0, [(0, .aload_n 0), (1, .getfield 72), (4, .ireturn)])
def mX0_reach : mv_M := (yX0_reach, cX0_reach, 5, none, 1, some 0, tT0, [(0, .iconst 0), (1, .istore_n 2), (2, .iload_n 1), (3, .istore_n 3), (4, .iconst 0), (5, .istore 4), (7, .iload 4), (9, .sipush 2409), (12, .if_icmp .ge 112), (15, .iload_n 3), (16, .ifCond .ne 7), (19, .iload_n 2), (20, .ifCond .le 104), (23, .iload_n 3), (24, .ifCond .le 75), (27, .iload_n 3), (28, .sipush 803), (31, .if_icmp .ge 68), (34, .iload_n 2), (35, .sipush 803), (38, .if_icmp .ge 61), (41, .aload_n 0), (42, .getfield 30), (45, .iload_n 3), (46, .iaload), (47, .aload_n 0), (48, .getfield 75), (51, .if_icmp .eq 48), (54, .aload_n 0), (55, .getfield 30), (58, .iload_n 3), (59, .aload_n 0), (60, .getfield 75), (63, .iastore), (64, .aload_n 0), (65, .dup), (66, .getfield 72), (69, .iconst 1), (70, .iadd), (71, .putfield 72), (74, .aload_n 0), (75, .getfield 33), (78, .iload_n 2), (79, .aload_n 0), (80, .getfield 24), (83, .iload_n 3), (84, .iaload), (85, .iastore), (86, .iinc 2 1), (89, .aload_n 0), (90, .getfield 21), (93, .iload_n 3), (94, .iaload), (95, .istore_n 3), (96, .goto 22), (99, .iload_n 2), (100, .ifCond .le 16), (103, .iinc 2 (-1)), (106, .aload_n 0), (107, .getfield 33), (110, .iload_n 2), (111, .iaload), (112, .istore_n 3), (113, .goto 5), (116, .iconst 0), (117, .istore_n 3), (118, .iinc 4 1), (121, .goto (-114)), (124, .return_)])
def mX0_giveBackUnreached : mv_M := (yX0_giveBackUnreached, cX0_giveBackUnreached, 2, none, 0, some 0, tT0, [(0, .aload_n 0), (1, .iconst 0), (2, .putfield 59), (5, .sipush 800), (8, .istore_n 1), (9, .iload_n 1), (10, .ifCond .le 52), (13, .aload_n 0), (14, .getfield 30), (17, .iload_n 1), (18, .iaload), (19, .aload_n 0), (20, .getfield 75), (23, .if_icmp .eq 33), (26, .aload_n 0), (27, .getfield 59), (30, .sipush 803), (33, .if_icmp .ge 23), (36, .aload_n 0), (37, .getfield 27), (40, .aload_n 0), (41, .getfield 59), (44, .iload_n 1), (45, .iastore), (46, .aload_n 0), (47, .dup), (48, .getfield 59), (51, .iconst 1), (52, .iadd), (53, .putfield 59), (56, .iinc 1 (-1)), (59, .goto (-50)), (62, .return_)])
def mX0_size : mv_M := (yX0_size, cX0_size, 2, (some .int), 1, some 0, tT0, [(0, .aload_n 0), (1, .invokevirtual 43), (4, .aload_n 0), (5, .iload_n 1), (6, .invokevirtual 78), (9, .aload_n 0), (10, .getfield 72), (13, .ireturn)])
def mX0_find : mv_M := (yX0_find, cX0_find, 5, (some .int), 2, some 0, tT0, [(0, .iload_n 1), (1, .istore_n 3), (2, .iconst 0), (3, .istore 4), (5, .iload 4), (7, .sipush 803), (10, .if_icmp .ge 45), (13, .iload_n 3), (14, .ifCond .eq 41), (17, .aload_n 0), (18, .iload_n 3), (19, .invokevirtual 82), (22, .iload_n 2), (23, .if_icmp .eq 32), (26, .iload_n 2), (27, .aload_n 0), (28, .iload_n 3), (29, .invokevirtual 82), (32, .if_icmp .ge 11), (35, .aload_n 0), (36, .iload_n 3), (37, .invokevirtual 85), (40, .goto 8), (43, .aload_n 0), (44, .iload_n 3), (45, .invokevirtual 88), (48, .istore_n 3), (49, .iinc 4 1), (52, .goto (-47)), (55, .iload_n 3), (56, .ireturn)])
def mX0_least : mv_M := (yX0_least, cX0_least, 7, (some .int), 2, some 0, tT0, [(0, .iconst 0), (1, .istore 4), (3, .iload_n 1), (4, .istore 5), (6, .iconst 0), (7, .istore 6), (9, .iload 6), (11, .sipush 803), (14, .if_icmp .ge 49), (17, .iload 5), (19, .ifCond .eq 44), (22, .aload_n 0), (23, .iload 5), (25, .invokevirtual 82), (28, .i2l), (29, .lload_n 2), (30, .lcmp), (31, .ifCond .lt 18), (34, .iload 5), (36, .istore 4), (38, .aload_n 0), (39, .iload 5), (41, .invokevirtual 85), (44, .istore 5), (46, .goto 11), (49, .aload_n 0), (50, .iload 5), (52, .invokevirtual 88), (55, .istore 5), (57, .iinc 6 1), (60, .goto (-51)), (63, .iload 4), (65, .ireturn)])
def mX0_floor : mv_M := (yX0_floor, cX0_floor, 6, (some .int), 2, some 0, tT0, [(0, .iconst 0), (1, .istore_n 3), (2, .iload_n 1), (3, .istore 4), (5, .iconst 0), (6, .istore 5), (8, .iload 5), (10, .sipush 803), (13, .if_icmp .ge 46), (16, .iload 4), (18, .ifCond .eq 41), (21, .aload_n 0), (22, .iload 4), (24, .invokevirtual 82), (27, .iload_n 2), (28, .if_icmp .gt 17), (31, .iload 4), (33, .istore_n 3), (34, .aload_n 0), (35, .iload 4), (37, .invokevirtual 88), (40, .istore 4), (42, .goto 11), (45, .aload_n 0), (46, .iload 4), (48, .invokevirtual 85), (51, .istore 4), (53, .iinc 5 1), (56, .goto (-48)), (59, .iload_n 3), (60, .ireturn)])
def mX0_nth : mv_M := (yX0_nth, cX0_nth, 5, (some .int), 2, some 0, tT0, [(0, .iload_n 2), (1, .ifCond .ge 5), (4, .iconst 0), (5, .ireturn), (6, .aload_n 0), (7, .iload_n 1), (8, .ldc2_w 91), (11, .invokevirtual 93), (14, .istore_n 3), (15, .iconst 0), (16, .istore 4), (18, .iload 4), (20, .iload_n 2), (21, .if_icmp .ge 27), (24, .iload_n 3), (25, .ifCond .eq 23), (28, .aload_n 0), (29, .iload_n 1), (30, .aload_n 0), (31, .iload_n 3), (32, .invokevirtual 82), (35, .i2l), (36, .lconst 1), (37, .ladd), (38, .invokevirtual 93), (41, .istore_n 3), (42, .iinc 4 1), (45, .goto (-27)), (48, .iload_n 3), (49, .ireturn)])
def mX1_translate : mv_M := (yX1_translate, cX1_translate, 1, (some .int), 0, some 1, tT1, [(0, .aload_n 0), (1, .getfield 9), (4, .invokevirtual 15), (7, .aload_n 0), (8, .iconst 0), (9, .putfield 20), (12, .aload_n 0), (13, .iconst 0), (14, .putfield 24), (17, .aload_n 0), (18, .invokevirtual 28), (21, .ifCond .eq 10), (24, .aload_n 0), (25, .invokevirtual 32), (28, .ifCond .ne 19), (31, .aload_n 0), (32, .getfield 9), (35, .aload_n 0), (36, .getfield 20), (39, .invokevirtual 35), (42, .aload_n 0), (43, .getfield 39), (46, .ireturn), (47, .aload_n 0), (48, .getfield 9), (51, .invokevirtual 42), (54, .sipush 1500), (57, .if_icmp .le 6), (60, .bipush (-16)), (62, .ireturn), (63, .aload_n 0), (64, .getfield 9), (67, .invokevirtual 46), (70, .aload_n 0), (71, .getfield 9), (74, .invokevirtual 49), (77, .ireturn)])
def mX1_fail : mv_M := (yX1_fail, cX1_fail, 2, (some .boolean), 1, some 1, tT1, [(0, .aload_n 0), (1, .iload_n 1), (2, .putfield 39), (5, .iconst 0), (6, .ireturn)])
def mX1_functions : mv_M := (yX1_functions, cX1_functions, 3, (some .boolean), 0, some 1, tT1, [(0, .iconst 0), (1, .istore_n 1), (2, .iload_n 1), (3, .bipush 8), (5, .if_icmp .gt 127), (8, .aload_n 0), (9, .getfield 9), (12, .aload_n 0), (13, .getfield 20), (16, .invokevirtual 52), (19, .bipush 10), (21, .if_icmp .ne 111), (24, .aload_n 0), (25, .getfield 20), (28, .istore_n 2), (29, .aload_n 0), (30, .dup), (31, .getfield 20), (34, .iconst 1), (35, .iadd), (36, .putfield 20), (39, .aload_n 0), (40, .invokevirtual 58), (43, .ifCond .eq 11), (46, .aload_n 0), (47, .iconst 4), (48, .invokevirtual 61), (51, .ifCond .ne 5), (54, .iconst 0), (55, .ireturn), (56, .aload_n 0), (57, .getfield 9), (60, .aload_n 0), (61, .getfield 9), (64, .iload_n 2), (65, .iconst 1), (66, .iadd), (67, .invokevirtual 52), (70, .aload_n 0), (71, .getfield 9), (74, .iload_n 2), (75, .iconst 2), (76, .iadd), (77, .invokevirtual 52), (80, .iload_n 2), (81, .invokevirtual 65), (84, .aload_n 0), (85, .iconst 0), (86, .invokevirtual 69), (89, .ifCond .eq 10), (92, .aload_n 0), (93, .invokevirtual 72), (96, .ifCond .ne 5), (99, .iconst 0), (100, .ireturn), (101, .aload_n 0), (102, .getfield 9), (105, .iconst 1), (106, .invokevirtual 77), (109, .aload_n 0), (110, .getfield 9), (113, .iconst 0), (114, .invokevirtual 77), (117, .aload_n 0), (118, .getfield 9), (121, .bipush 17), (123, .invokevirtual 77), (126, .iinc 1 1), (129, .goto (-127)), (132, .iconst 1), (133, .ireturn)])
def mX1_mainPart : mv_M := (yX1_mainPart, cX1_mainPart, 1, (some .boolean), 0, some 1, tT1, [(0, .aload_n 0), (1, .getfield 9), (4, .aload_n 0), (5, .getfield 20), (8, .invokevirtual 52), (11, .bipush 11), (13, .if_icmp .eq 10), (16, .aload_n 0), (17, .bipush (-11)), (19, .invokevirtual 80), (22, .ireturn), (23, .aload_n 0), (24, .iconst 1), (25, .putfield 24), (28, .aload_n 0), (29, .getfield 9), (32, .aload_n 0), (33, .getfield 20), (36, .invokevirtual 83), (39, .aload_n 0), (40, .dup), (41, .getfield 20), (44, .iconst 1), (45, .iadd), (46, .putfield 20), (49, .aload_n 0), (50, .iconst 0), (51, .invokevirtual 69), (54, .ifCond .eq 10), (57, .aload_n 0), (58, .invokevirtual 72), (61, .ifCond .ne 5), (64, .iconst 0), (65, .ireturn), (66, .aload_n 0), (67, .getfield 9), (70, .iconst 0), (71, .invokevirtual 77), (74, .aload_n 0), (75, .getfield 9), (78, .aload_n 0), (79, .getfield 20), (82, .invokevirtual 86), (85, .ifCond .eq 12), (88, .aload_n 0), (89, .bipush (-11)), (91, .invokevirtual 80), (94, .ifCond .eq 7), (97, .iconst 1), (98, .goto 4), (101, .iconst 0), (102, .ireturn)])
def mX1_passEnd : mv_M := (yX1_passEnd, cX1_passEnd, 1, (some .boolean), 0, some 1, tT1, [(0, .aload_n 0), (1, .getfield 9), (4, .aload_n 0), (5, .getfield 20), (8, .invokevirtual 52), (11, .ifCond .eq 10), (14, .aload_n 0), (15, .bipush (-11)), (17, .invokevirtual 80), (20, .ireturn), (21, .aload_n 0), (22, .dup), (23, .getfield 20), (26, .iconst 1), (27, .iadd), (28, .putfield 20), (31, .iconst 1), (32, .ireturn)])
def mX1_bare : mv_M := (yX1_bare, cX1_bare, 3, (some .boolean), 1, some 1, tT1, [(0, .aload_n 0), (1, .getfield 9), (4, .aload_n 0), (5, .getfield 20), (8, .invokevirtual 86), (11, .ifCond .ne 10), (14, .aload_n 0), (15, .bipush (-11)), (17, .invokevirtual 80), (20, .ireturn), (21, .aload_n 0), (22, .getfield 9), (25, .aload_n 0), (26, .getfield 20), (29, .invokevirtual 52), (32, .istore_n 2), (33, .iload_n 2), (34, .ifCond .lt 8), (37, .iload_n 2), (38, .iload_n 1), (39, .if_icmp .lt 10), (42, .aload_n 0), (43, .bipush (-12)), (45, .invokevirtual 80), (48, .ireturn), (49, .aload_n 0), (50, .dup), (51, .getfield 20), (54, .iconst 1), (55, .iadd), (56, .putfield 20), (59, .iconst 1), (60, .ireturn)])
def mX1_anyNumber : mv_M := (yX1_anyNumber, cX1_anyNumber, 1, (some .boolean), 0, some 1, tT1, [(0, .aload_n 0), (1, .getfield 9), (4, .aload_n 0), (5, .getfield 20), (8, .invokevirtual 86), (11, .ifCond .ne 10), (14, .aload_n 0), (15, .bipush (-11)), (17, .invokevirtual 80), (20, .ireturn), (21, .aload_n 0), (22, .dup), (23, .getfield 20), (26, .iconst 1), (27, .iadd), (28, .putfield 20), (31, .iconst 1), (32, .ireturn)])
def mX1_newFunction : mv_M := (yX1_newFunction, cX1_newFunction, 1, (some .boolean), 0, some 1, tT1, [(0, .aload_n 0), (1, .getfield 9), (4, .aload_n 0), (5, .getfield 9), (8, .aload_n 0), (9, .getfield 20), (12, .invokevirtual 52), (15, .invokevirtual 89), (18, .ifCond .ne 12), (21, .aload_n 0), (22, .bipush 8), (24, .invokevirtual 61), (27, .goto 9), (30, .aload_n 0), (31, .bipush (-13)), (33, .invokevirtual 80), (36, .ireturn)])
def mX1_knownFunction : mv_M := (yX1_knownFunction, cX1_knownFunction, 2, (some .boolean), 0, some 1, tT1, [(0, .aload_n 0), (1, .getfield 9), (4, .aload_n 0), (5, .getfield 20), (8, .invokevirtual 52), (11, .istore_n 1), (12, .aload_n 0), (13, .getfield 9), (16, .iload_n 1), (17, .invokevirtual 89), (20, .ifCond .eq 15), (23, .aload_n 0), (24, .dup), (25, .getfield 20), (28, .iconst 1), (29, .iadd), (30, .putfield 20), (33, .iconst 1), (34, .ireturn), (35, .aload_n 0), (36, .getfield 9), (39, .aload_n 0), (40, .getfield 20), (43, .invokevirtual 86), (46, .ifCond .ne 10), (49, .aload_n 0), (50, .bipush (-11)), (52, .invokevirtual 80), (55, .ireturn), (56, .aload_n 0), (57, .iload_n 1), (58, .ifCond .lt 9), (61, .iload_n 1), (62, .bipush 8), (64, .if_icmp .lt 8), (67, .bipush (-12)), (69, .goto 5), (72, .bipush (-14)), (74, .invokevirtual 80), (77, .ireturn)])
def mX1_block : mv_M := (yX1_block, cX1_block, 3, (some .boolean), 1, some 1, tT1, [(0, .iconst 0), (1, .istore_n 2), (2, .iload_n 2), (3, .sipush 700), (6, .if_icmp .ge 36), (9, .aload_n 0), (10, .getfield 9), (13, .aload_n 0), (14, .getfield 20), (17, .invokevirtual 52), (20, .invokestatic 92), (23, .ifCond .eq 19), (26, .aload_n 0), (27, .iload_n 1), (28, .invokevirtual 95), (31, .ifCond .ne 5), (34, .iconst 0), (35, .ireturn), (36, .iinc 2 1), (39, .goto (-37)), (42, .iconst 1), (43, .ireturn)])
def mX1_statement : mv_M := (yX1_statement, cX1_statement, 4, (some .boolean), 1, some 1, tT1, [(0, .iload_n 1), (1, .bipush 16), (3, .if_icmp .lt 10), (6, .aload_n 0), (7, .bipush (-15)), (9, .invokevirtual 80), (12, .ireturn), (13, .aload_n 0), (14, .getfield 20), (17, .istore_n 2), (18, .aload_n 0), (19, .getfield 9), (22, .iload_n 2), (23, .invokevirtual 52), (26, .tableswitch 90 3 9 #[42, 90, 51, 60, 90, 90, 69]), (68, .aload_n 0), (69, .iload_n 1), (70, .invokevirtual 98), (73, .istore_n 3), (74, .goto 48), (77, .aload_n 0), (78, .iload_n 1), (79, .invokevirtual 101), (82, .istore_n 3), (83, .goto 39), (86, .aload_n 0), (87, .iload_n 1), (88, .invokevirtual 104), (91, .istore_n 3), (92, .goto 30), (95, .aload_n 0), (96, .dup), (97, .getfield 20), (100, .iconst 1), (101, .iadd), (102, .putfield 20), (105, .aload_n 0), (106, .iload_n 1), (107, .iconst 1), (108, .iadd), (109, .invokevirtual 107), (112, .istore_n 3), (113, .goto 9), (116, .aload_n 0), (117, .iload_n 1), (118, .invokevirtual 110), (121, .istore_n 3), (122, .iload_n 3), (123, .ifCond .eq 8), (126, .aload_n 0), (127, .iload_n 2), (128, .invokevirtual 113), (131, .iload_n 3), (132, .ireturn)])
def mX1_finishStatement : mv_M := (yX1_finishStatement, cX1_finishStatement, 3, none, 1, some 1, tT1, [(0, .aload_n 0), (1, .getfield 9), (4, .iload_n 1), (5, .aload_n 0), (6, .getfield 20), (9, .invokevirtual 116), (12, .aload_n 0), (13, .getfield 9), (16, .iload_n 1), (17, .invokevirtual 52), (20, .istore_n 2), (21, .iload_n 2), (22, .bipush 8), (24, .if_icmp .ne 15), (27, .aload_n 0), (28, .getfield 9), (31, .bipush 18), (33, .invokevirtual 77), (36, .goto 51), (39, .iload_n 2), (40, .bipush 9), (42, .if_icmp .ne 30), (45, .aload_n 0), (46, .getfield 24), (49, .ifCond .eq 23), (52, .aload_n 0), (53, .getfield 9), (56, .bipush 18), (58, .invokevirtual 77), (61, .aload_n 0), (62, .getfield 9), (65, .iconst 0), (66, .invokevirtual 77), (69, .goto 18), (72, .iload_n 2), (73, .bipush 9), (75, .if_icmp .ne 12), (78, .aload_n 0), (79, .getfield 9), (82, .bipush 17), (84, .invokevirtual 77), (87, .return_)])
def mX1_choice : mv_M := (yX1_choice, cX1_choice, 5, (some .boolean), 1, some 1, tT1, [(0, .aload_n 0), (1, .getfield 20), (4, .istore_n 2), (5, .aload_n 0), (6, .dup), (7, .getfield 20), (10, .iconst 1), (11, .iadd), (12, .putfield 20), (15, .aload_n 0), (16, .iload_n 1), (17, .iconst 1), (18, .iadd), (19, .invokevirtual 107), (22, .ifCond .ne 5), (25, .iconst 0), (26, .ireturn), (27, .aload_n 0), (28, .getfield 9), (31, .bipush 13), (33, .invokevirtual 77), (36, .aload_n 0), (37, .getfield 9), (40, .invokevirtual 120), (43, .istore_n 3), (44, .aload_n 0), (45, .iload_n 1), (46, .iconst 1), (47, .iadd), (48, .invokevirtual 69), (51, .ifCond .ne 5), (54, .iconst 0), (55, .ireturn), (56, .aload_n 0), (57, .getfield 9), (60, .iload_n 2), (61, .aload_n 0), (62, .getfield 20), (65, .invokevirtual 123), (68, .aload_n 0), (69, .getfield 9), (72, .aload_n 0), (73, .getfield 20), (76, .invokevirtual 52), (79, .iconst 4), (80, .if_icmp .ne 54), (83, .aload_n 0), (84, .dup), (85, .getfield 20), (88, .iconst 1), (89, .iadd), (90, .putfield 20), (93, .aload_n 0), (94, .getfield 9), (97, .bipush 12), (99, .invokevirtual 77), (102, .aload_n 0), (103, .getfield 9), (106, .invokevirtual 120), (109, .istore 4), (111, .aload_n 0), (112, .getfield 9), (115, .iload_n 3), (116, .invokevirtual 126), (119, .iload 4), (121, .istore_n 3), (122, .aload_n 0), (123, .iload_n 1), (124, .iconst 1), (125, .iadd), (126, .invokevirtual 69), (129, .ifCond .ne 5), (132, .iconst 0), (133, .ireturn), (134, .aload_n 0), (135, .getfield 9), (138, .iload_n 3), (139, .invokevirtual 126), (142, .aload_n 0), (143, .invokevirtual 72), (146, .ireturn)])
def mX1_repetition : mv_M := (yX1_repetition, cX1_repetition, 4, (some .boolean), 1, some 1, tT1, [(0, .aload_n 0), (1, .dup), (2, .getfield 20), (5, .iconst 1), (6, .iadd), (7, .putfield 20), (10, .aload_n 0), (11, .getfield 9), (14, .invokevirtual 42), (17, .istore_n 2), (18, .aload_n 0), (19, .iload_n 1), (20, .iconst 1), (21, .iadd), (22, .invokevirtual 107), (25, .ifCond .ne 5), (28, .iconst 0), (29, .ireturn), (30, .aload_n 0), (31, .getfield 9), (34, .bipush 13), (36, .invokevirtual 77), (39, .aload_n 0), (40, .getfield 9), (43, .invokevirtual 120), (46, .istore_n 3), (47, .aload_n 0), (48, .iload_n 1), (49, .iload_n 2), (50, .iload_n 3), (51, .invokevirtual 129), (54, .ireturn)])
def mX1_eachKey : mv_M := (yX1_eachKey, cX1_eachKey, 5, (some .boolean), 1, some 1, tT1, [(0, .aload_n 0), (1, .getfield 20), (4, .istore_n 2), (5, .aload_n 0), (6, .dup), (7, .getfield 20), (10, .iconst 1), (11, .iadd), (12, .putfield 20), (15, .aload_n 0), (16, .bipush 6), (18, .invokevirtual 61), (21, .ifCond .eq 21), (24, .aload_n 0), (25, .bipush 14), (27, .invokevirtual 61), (30, .ifCond .eq 12), (33, .aload_n 0), (34, .bipush 14), (36, .invokevirtual 61), (39, .ifCond .ne 5), (42, .iconst 0), (43, .ireturn), (44, .aload_n 0), (45, .getfield 9), (48, .bipush 19), (50, .invokevirtual 77), (53, .aload_n 0), (54, .getfield 9), (57, .aload_n 0), (58, .getfield 9), (61, .iload_n 2), (62, .iconst 1), (63, .iadd), (64, .invokevirtual 52), (67, .invokevirtual 77), (70, .aload_n 0), (71, .getfield 9), (74, .invokevirtual 42), (77, .istore_n 3), (78, .aload_n 0), (79, .getfield 9), (82, .bipush 29), (84, .invokevirtual 77), (87, .aload_n 0), (88, .getfield 9), (91, .aload_n 0), (92, .getfield 9), (95, .iload_n 2), (96, .iconst 2), (97, .iadd), (98, .invokevirtual 52), (101, .invokevirtual 77), (104, .aload_n 0), (105, .getfield 9), (108, .aload_n 0), (109, .getfield 9), (112, .iload_n 2), (113, .iconst 3), (114, .iadd), (115, .invokevirtual 52), (118, .invokevirtual 77), (121, .aload_n 0), (122, .getfield 9), (125, .invokevirtual 120), (128, .istore 4), (130, .aload_n 0), (131, .iload_n 1), (132, .iload_n 3), (133, .iload 4), (135, .invokevirtual 129), (138, .ireturn)])
def mX1_loopRest : mv_M := (yX1_loopRest, cX1_loopRest, 4, (some .boolean), 3, some 1, tT1, [(0, .aload_n 0), (1, .iload_n 1), (2, .iconst 1), (3, .iadd), (4, .invokevirtual 69), (7, .ifCond .eq 10), (10, .aload_n 0), (11, .invokevirtual 72), (14, .ifCond .ne 5), (17, .iconst 0), (18, .ireturn), (19, .aload_n 0), (20, .getfield 9), (23, .bipush 12), (25, .invokevirtual 77), (28, .aload_n 0), (29, .getfield 9), (32, .iload_n 2), (33, .invokevirtual 77), (36, .aload_n 0), (37, .getfield 9), (40, .iload_n 3), (41, .invokevirtual 126), (44, .iconst 1), (45, .ireturn)])
def mX1_numberPart : mv_M := (yX1_numberPart, cX1_numberPart, 5, (some .boolean), 1, some 1, tT1, [(0, .aload_n 0), (1, .getfield 20), (4, .istore_n 2), (5, .aload_n 0), (6, .getfield 9), (9, .iload_n 2), (10, .invokevirtual 52), (13, .istore_n 3), (14, .iload_n 3), (15, .invokestatic 133), (18, .ifCond .ne 10), (21, .aload_n 0), (22, .bipush (-11)), (24, .invokevirtual 80), (27, .ireturn), (28, .iload_n 1), (29, .bipush 16), (31, .if_icmp .lt 10), (34, .aload_n 0), (35, .bipush (-15)), (37, .invokevirtual 80), (40, .ireturn), (41, .iload_n 3), (42, .bipush 30), (44, .if_icmp .eq 9), (47, .iload_n 3), (48, .bipush 31), (50, .if_icmp .ne 11), (53, .aload_n 0), (54, .iload_n 1), (55, .invokevirtual 136), (58, .goto 8), (61, .aload_n 0), (62, .iload_n 1), (63, .invokevirtual 110), (66, .istore 4), (68, .aload_n 0), (69, .getfield 9), (72, .iload_n 2), (73, .aload_n 0), (74, .getfield 20), (77, .invokevirtual 116), (80, .iload 4), (82, .ireturn)])
def mX1_mapPart : mv_M := (yX1_mapPart, cX1_mapPart, 2, (some .boolean), 1, some 1, tT1, [(0, .aload_n 0), (1, .getfield 9), (4, .aload_n 0), (5, .getfield 20), (8, .invokevirtual 52), (11, .invokestatic 139), (14, .ifCond .ne 10), (17, .aload_n 0), (18, .bipush (-11)), (20, .invokevirtual 80), (23, .ireturn), (24, .iload_n 1), (25, .bipush 16), (27, .if_icmp .lt 10), (30, .aload_n 0), (31, .bipush (-15)), (33, .invokevirtual 80), (36, .ireturn), (37, .aload_n 0), (38, .iload_n 1), (39, .invokevirtual 110), (42, .ireturn)])
def mX1_shortcut : mv_M := (yX1_shortcut, cX1_shortcut, 5, (some .boolean), 1, some 1, tT1, [(0, .aload_n 0), (1, .getfield 9), (4, .aload_n 0), (5, .getfield 20), (8, .invokevirtual 52), (11, .bipush 30), (13, .if_icmp .ne 7), (16, .iconst 1), (17, .goto 4), (20, .iconst 0), (21, .istore_n 2), (22, .aload_n 0), (23, .dup), (24, .getfield 20), (27, .iconst 1), (28, .iadd), (29, .putfield 20), (32, .aload_n 0), (33, .iload_n 1), (34, .iconst 1), (35, .iadd), (36, .invokevirtual 107), (39, .ifCond .ne 5), (42, .iconst 0), (43, .ireturn), (44, .aload_n 0), (45, .getfield 9), (48, .iload_n 2), (49, .ifCond .eq 8), (52, .bipush 13), (54, .goto 5), (57, .bipush 14), (59, .invokevirtual 77), (62, .aload_n 0), (63, .getfield 9), (66, .invokevirtual 120), (69, .istore_n 3), (70, .aload_n 0), (71, .iload_n 1), (72, .iconst 1), (73, .iadd), (74, .invokevirtual 107), (77, .ifCond .ne 5), (80, .iconst 0), (81, .ireturn), (82, .aload_n 0), (83, .getfield 9), (86, .bipush 11), (88, .invokevirtual 77), (91, .aload_n 0), (92, .getfield 9), (95, .bipush 11), (97, .invokevirtual 77), (100, .aload_n 0), (101, .getfield 9), (104, .bipush 12), (106, .invokevirtual 77), (109, .aload_n 0), (110, .getfield 9), (113, .invokevirtual 120), (116, .istore 4), (118, .aload_n 0), (119, .getfield 9), (122, .iload_n 3), (123, .invokevirtual 126), (126, .aload_n 0), (127, .getfield 9), (130, .iconst 1), (131, .invokevirtual 77), (134, .aload_n 0), (135, .getfield 9), (138, .iload_n 2), (139, .ifCond .eq 7), (142, .iconst 0), (143, .goto 4), (146, .iconst 1), (147, .invokevirtual 77), (150, .aload_n 0), (151, .getfield 9), (154, .iload 4), (156, .invokevirtual 126), (159, .iconst 1), (160, .ireturn)])
def mX1_plain : mv_M := (yX1_plain, cX1_plain, 4, (some .boolean), 1, some 1, tT1, [(0, .aload_n 0), (1, .getfield 20), (4, .istore_n 2), (5, .aload_n 0), (6, .getfield 9), (9, .iload_n 2), (10, .invokevirtual 52), (13, .istore_n 3), (14, .aload_n 0), (15, .dup), (16, .getfield 20), (19, .iconst 1), (20, .iadd), (21, .putfield 20), (24, .aload_n 0), (25, .iload_n 3), (26, .invokevirtual 142), (29, .ifCond .eq 14), (32, .aload_n 0), (33, .iload_n 2), (34, .iload_n 1), (35, .iconst 1), (36, .iadd), (37, .invokevirtual 145), (40, .ifCond .ne 5), (43, .iconst 0), (44, .ireturn), (45, .aload_n 0), (46, .getfield 9), (49, .iload_n 3), (50, .invokestatic 149), (53, .invokevirtual 77), (56, .iload_n 3), (57, .invokestatic 152), (60, .ifCond .le 20), (63, .aload_n 0), (64, .getfield 9), (67, .aload_n 0), (68, .getfield 9), (71, .iload_n 2), (72, .iconst 1), (73, .iadd), (74, .invokevirtual 52), (77, .invokevirtual 77), (80, .iconst 1), (81, .ireturn)])
def mX1_argument : mv_M := (yX1_argument, cX1_argument, 2, (some .boolean), 1, some 1, tT1, [(0, .iload_n 1), (1, .lookupswitch 91 #[(1, 67), (2, 74), (8, 81), (20, 86), (21, 67), (36, 81), (40, 74)]), (68, .aload_n 0), (69, .bipush 14), (71, .invokevirtual 61), (74, .ireturn), (75, .aload_n 0), (76, .bipush 6), (78, .invokevirtual 61), (81, .ireturn), (82, .aload_n 0), (83, .invokevirtual 155), (86, .ireturn), (87, .aload_n 0), (88, .invokevirtual 158), (91, .ireturn), (92, .iconst 1), (93, .ireturn)])
def mX1_parts : mv_M := (yX1_parts, cX1_parts, 6, (some .boolean), 2, some 1, tT1, [(0, .aload_n 0), (1, .getfield 9), (4, .iload_n 1), (5, .invokevirtual 52), (8, .invokestatic 161), (11, .istore_n 3), (12, .iconst 0), (13, .istore 4), (15, .iload 4), (17, .iload_n 3), (18, .if_icmp .ge 19), (21, .aload_n 0), (22, .iload_n 2), (23, .invokevirtual 164), (26, .ifCond .ne 5), (29, .iconst 0), (30, .ireturn), (31, .iinc 4 1), (34, .goto (-19)), (37, .aload_n 0), (38, .getfield 9), (41, .iload_n 1), (42, .invokevirtual 167), (45, .istore 4), (47, .iconst 0), (48, .istore 5), (50, .iload 5), (52, .iload 4), (54, .if_icmp .ge 19), (57, .aload_n 0), (58, .iload_n 2), (59, .invokevirtual 107), (62, .ifCond .ne 5), (65, .iconst 0), (66, .ireturn), (67, .iinc 5 1), (70, .goto (-20)), (73, .iconst 1), (74, .ireturn)])
def mX2_clear : mv_M := (yX2_clear, cX2_clear, 1, none, 0, some 2, tT2, [(0, .aload_n 0), (1, .iconst 0), (2, .putfield 37), (5, .aload_n 0), (6, .invokevirtual 40), (9, .return_)])
def mX2_add : mv_M := (yX2_add, cX2_add, 2, (some .boolean), 1, some 2, tT2, [(0, .aload_n 0), (1, .getfield 37), (4, .sipush 700), (7, .if_icmp .lt 5), (10, .iconst 0), (11, .ireturn), (12, .aload_n 0), (13, .getfield 9), (16, .aload_n 0), (17, .getfield 37), (20, .iload_n 1), (21, .invokestatic 43), (24, .aload_n 0), (25, .dup), (26, .getfield 37), (29, .iconst 1), (30, .iadd), (31, .putfield 37), (34, .aload_n 0), (35, .invokevirtual 40), (38, .iconst 1), (39, .ireturn)])
def mX2_forgetCode : mv_M := (yX2_forgetCode, cX2_forgetCode, 2, none, 0, some 2, tT2, [(0, .aload_n 0), (1, .iconst 0), (2, .putfield 49), (5, .aload_n 0), (6, .iconst 0), (7, .putfield 53), (10, .aload_n 0), (11, .iconst (-1)), (12, .putfield 33), (15, .iconst 0), (16, .istore_n 1), (17, .iload_n 1), (18, .bipush 8), (20, .if_icmp .ge 16), (23, .aload_n 0), (24, .getfield 24), (27, .iload_n 1), (28, .iconst (-1)), (29, .iastore), (30, .iinc 1 1), (33, .goto (-16)), (36, .return_)])
def mX2_accept : mv_M := (yX2_accept, cX2_accept, 1, none, 0, some 2, tT2, [(0, .aload_n 0), (1, .iconst 1), (2, .putfield 49), (5, .return_)])
def mX2_refuse : mv_M := (yX2_refuse, cX2_refuse, 2, none, 1, some 2, tT2, [(0, .aload_n 0), (1, .iload_n 1), (2, .putfield 33), (5, .return_)])
def mX2_size : mv_M := (yX2_size, cX2_size, 1, (some .int), 0, some 2, tT2, [(0, .aload_n 0), (1, .getfield 37), (4, .ireturn)])
def mX2_ready : mv_M := (yX2_ready, cX2_ready, 1, (some .boolean), 0, some 2, tT2, [(0, .aload_n 0), (1, .getfield 49), (4, .ireturn)])
def mX2_faultPlace : mv_M := (yX2_faultPlace, cX2_faultPlace, 1, (some .int), 0, some 2, tT2, [(0, .aload_n 0), (1, .getfield 33), (4, .ireturn)])
def mX2_hasToken : mv_M := (yX2_hasToken, cX2_hasToken, 2, (some .boolean), 1, some 2, tT2, [(0, .iload_n 1), (1, .ifCond .lt 15), (4, .iload_n 1), (5, .aload_n 0), (6, .getfield 37), (9, .if_icmp .ge 7), (12, .iconst 1), (13, .goto 4), (16, .iconst 0), (17, .ireturn)])
def mX2_token : mv_M := (yX2_token, cX2_token, 2, (some .int), 1, some 2, tT2, [(0, .iload_n 1), (1, .ifCond .lt 27), (4, .iload_n 1), (5, .aload_n 0), (6, .getfield 37), (9, .if_icmp .ge 19), (12, .iload_n 1), (13, .sipush 700), (16, .if_icmp .ge 12), (19, .aload_n 0), (20, .getfield 9), (23, .iload_n 1), (24, .iaload), (25, .goto 4), (28, .iconst (-1)), (29, .ireturn)])
def mX2_behind : mv_M := (yX2_behind, cX2_behind, 2, (some .int), 1, some 2, tT2, [(0, .aload_n 0), (1, .getfield 15), (4, .iload_n 1), (5, .invokestatic 56), (8, .ireturn)])
def mX2_setBehind : mv_M := (yX2_setBehind, cX2_setBehind, 3, none, 2, some 2, tT2, [(0, .aload_n 0), (1, .getfield 15), (4, .iload_n 1), (5, .iload_n 2), (6, .invokestatic 43), (9, .return_)])
def mX2_turn : mv_M := (yX2_turn, cX2_turn, 2, (some .int), 1, some 2, tT2, [(0, .aload_n 0), (1, .getfield 18), (4, .iload_n 1), (5, .invokestatic 56), (8, .ireturn)])
def mX2_setTurn : mv_M := (yX2_setTurn, cX2_setTurn, 3, none, 2, some 2, tT2, [(0, .aload_n 0), (1, .getfield 18), (4, .iload_n 1), (5, .iload_n 2), (6, .invokestatic 43), (9, .return_)])
def mX2_hasFunction : mv_M := (yX2_hasFunction, cX2_hasFunction, 2, (some .boolean), 1, some 2, tT2, [(0, .iload_n 1), (1, .ifCond .lt 23), (4, .iload_n 1), (5, .bipush 8), (7, .if_icmp .ge 17), (10, .aload_n 0), (11, .getfield 24), (14, .iload_n 1), (15, .iaload), (16, .iconst (-1)), (17, .if_icmp .eq 7), (20, .iconst 1), (21, .goto 4), (24, .iconst 0), (25, .ireturn)])
def mX2_addFunction : mv_M := (yX2_addFunction, cX2_addFunction, 4, none, 3, some 2, tT2, [(0, .aload_n 0), (1, .getfield 24), (4, .iload_n 1), (5, .iload_n 2), (6, .invokestatic 43), (9, .aload_n 0), (10, .getfield 27), (13, .iload_n 1), (14, .aload_n 0), (15, .getfield 53), (18, .invokestatic 43), (21, .aload_n 0), (22, .getfield 30), (25, .iload_n 1), (26, .iload_n 3), (27, .invokestatic 43), (30, .return_)])
def mX2_addMain : mv_M := (yX2_addMain, cX2_addMain, 2, none, 1, some 2, tT2, [(0, .aload_n 0), (1, .aload_n 0), (2, .getfield 53), (5, .putfield 60), (8, .aload_n 0), (9, .iload_n 1), (10, .putfield 63), (13, .return_)])
def mX2_parameters : mv_M := (yX2_parameters, cX2_parameters, 2, (some .int), 1, some 2, tT2, [(0, .aload_n 0), (1, .iload_n 1), (2, .invokevirtual 66), (5, .ifCond .eq 14), (8, .aload_n 0), (9, .getfield 24), (12, .iload_n 1), (13, .invokestatic 56), (16, .goto 4), (19, .iconst 0), (20, .ireturn)])
def mX2_firstWord : mv_M := (yX2_firstWord, cX2_firstWord, 2, (some .int), 1, some 2, tT2, [(0, .aload_n 0), (1, .getfield 27), (4, .iload_n 1), (5, .invokestatic 56), (8, .ireturn)])
def mX2_firstToken : mv_M := (yX2_firstToken, cX2_firstToken, 2, (some .int), 1, some 2, tT2, [(0, .aload_n 0), (1, .getfield 30), (4, .iload_n 1), (5, .invokestatic 56), (8, .ireturn)])
def mX2_mainWord : mv_M := (yX2_mainWord, cX2_mainWord, 1, (some .int), 0, some 2, tT2, [(0, .aload_n 0), (1, .getfield 60), (4, .ireturn)])
def mX2_mainToken : mv_M := (yX2_mainToken, cX2_mainToken, 1, (some .int), 0, some 2, tT2, [(0, .aload_n 0), (1, .getfield 63), (4, .ireturn)])
def mX2_numbers : mv_M := (yX2_numbers, cX2_numbers, 4, (some .int), 1, some 2, tT2, [(0, .aload_n 0), (1, .iload_n 1), (2, .invokevirtual 70), (5, .istore_n 2), (6, .iload_n 2), (7, .bipush 8), (9, .if_icmp .eq 9), (12, .iload_n 2), (13, .bipush 36), (15, .if_icmp .ne 7), (18, .iconst 1), (19, .goto 4), (22, .iconst 0), (23, .istore_n 3), (24, .iload_n 3), (25, .ifCond .eq 17), (28, .aload_n 0), (29, .aload_n 0), (30, .iload_n 1), (31, .iconst 1), (32, .iadd), (33, .invokevirtual 70), (36, .invokevirtual 76), (39, .goto 7), (42, .iload_n 2), (43, .invokestatic 78), (46, .ireturn)])
def mX2_emit : mv_M := (yX2_emit, cX2_emit, 2, none, 1, some 2, tT2, [(0, .aload_n 0), (1, .getfield 21), (4, .aload_n 0), (5, .getfield 53), (8, .iload_n 1), (9, .invokestatic 43), (12, .aload_n 0), (13, .dup), (14, .getfield 53), (17, .iconst 1), (18, .iadd), (19, .putfield 53), (22, .return_)])
def mX2_emitHole : mv_M := (yX2_emitHole, cX2_emitHole, 1, (some .int), 0, some 2, tT2, [(0, .aload_n 0), (1, .iconst 0), (2, .invokevirtual 81), (5, .aload_n 0), (6, .getfield 53), (9, .iconst 1), (10, .isub), (11, .ireturn)])
def mX2_fillHole : mv_M := (yX2_fillHole, cX2_fillHole, 2, none, 1, some 2, tT2, [(0, .aload_n 0), (1, .getfield 21), (4, .iload_n 1), (5, .aload_n 0), (6, .getfield 53), (9, .invokestatic 43), (12, .return_)])
def mX2_emitted : mv_M := (yX2_emitted, cX2_emitted, 1, (some .int), 0, some 2, tT2, [(0, .aload_n 0), (1, .getfield 53), (4, .ireturn)])
def mX2_wordCount : mv_M := (yX2_wordCount, cX2_wordCount, 1, (some .int), 0, some 2, tT2, [(0, .aload_n 0), (1, .getfield 49), (4, .ifCond .eq 10), (7, .aload_n 0), (8, .getfield 53), (11, .goto 4), (14, .iconst 0), (15, .ireturn)])
def mX2_word : mv_M := (yX2_word, cX2_word, 2, (some .int), 1, some 2, tT2, [(0, .iload_n 1), (1, .ifCond .lt 22), (4, .iload_n 1), (5, .aload_n 0), (6, .invokevirtual 85), (9, .if_icmp .ge 14), (12, .aload_n 0), (13, .getfield 21), (16, .iload_n 1), (17, .invokestatic 56), (20, .goto 4), (23, .iconst (-1)), (24, .ireturn)])
def mX3_at : mv_M := (yX3_at, cX3_at, 2, (some .int), 2, none, tT3, [(0, .iload_n 1), (1, .ifCond .lt 15), (4, .iload_n 1), (5, .aload_n 0), (6, .arraylength), (7, .if_icmp .ge 9), (10, .aload_n 0), (11, .iload_n 1), (12, .iaload), (13, .goto 4), (16, .iconst 0), (17, .ireturn)])
def mX3_at_ : mv_M := (yX3_at_, cX3_at_, 2, (some .long), 2, none, tT3, [(0, .iload_n 1), (1, .ifCond .lt 15), (4, .iload_n 1), (5, .aload_n 0), (6, .arraylength), (7, .if_icmp .ge 9), (10, .aload_n 0), (11, .iload_n 1), (12, .laload), (13, .goto 4), (16, .lconst 0), (17, .lreturn)])
def mX3_set : mv_M := (yX3_set, cX3_set, 3, none, 3, none, tT3, [(0, .iload_n 1), (1, .ifCond .lt 13), (4, .iload_n 1), (5, .aload_n 0), (6, .arraylength), (7, .if_icmp .ge 7), (10, .aload_n 0), (11, .iload_n 1), (12, .iload_n 2), (13, .iastore), (14, .return_)])
def mX3_set_ : mv_M := (yX3_set_, cX3_set_, 4, none, 3, none, tT3, [(0, .iload_n 1), (1, .ifCond .lt 13), (4, .iload_n 1), (5, .aload_n 0), (6, .arraylength), (7, .if_icmp .ge 7), (10, .aload_n 0), (11, .iload_n 1), (12, .lload_n 2), (13, .lastore), (14, .return_)])
def mX3_zero : mv_M := (yX3_zero, cX3_zero, 2, none, 1, none, tT3, [(0, .iconst 0), (1, .istore_n 1), (2, .iload_n 1), (3, .aload_n 0), (4, .arraylength), (5, .if_icmp .ge 13), (8, .aload_n 0), (9, .iload_n 1), (10, .iconst 0), (11, .iastore), (12, .iinc 1 1), (15, .goto (-13)), (18, .return_)])
def mX4_begin : mv_M := (yX4_begin, cX4_begin, 1, none, 0, some 3, tT4, [(0, .aload_n 0), (1, .iconst 1), (2, .putfield 23), (5, .aload_n 0), (6, .aload_n 0), (7, .getfield 15), (10, .invokevirtual 27), (13, .putfield 33), (16, .aload_n 0), (17, .iconst 1), (18, .putfield 9), (21, .return_)])
def mX4_drop : mv_M := (yX4_drop, cX4_drop, 1, none, 0, some 3, tT4, [(0, .aload_n 0), (1, .iconst 0), (2, .putfield 23), (5, .return_)])
def mX4_there : mv_M := (yX4_there, cX4_there, 1, (some .boolean), 0, some 3, tT4, [(0, .aload_n 0), (1, .getfield 23), (4, .ireturn)])
def mX4_nextWord : mv_M := (yX4_nextWord, cX4_nextWord, 1, (some .int), 0, some 3, tT4, [(0, .aload_n 0), (1, .getfield 33), (4, .ireturn)])
def mX4_end : mv_M := (yX4_end, cX4_end, 1, (some .int), 0, some 3, tT4, [(0, .aload_n 0), (1, .getfield 9), (4, .ireturn)])
def mX4_goOn : mv_M := (yX4_goOn, cX4_goOn, 3, (some .int), 1, some 3, tT4, [(0, .iconst 0), (1, .istore_n 2), (2, .iload_n 2), (3, .iload_n 1), (4, .if_icmp .ge 28), (7, .aload_n 0), (8, .getfield 9), (11, .iconst 1), (12, .if_icmp .ne 20), (15, .aload_n 0), (16, .getfield 19), (19, .invokevirtual 36), (22, .aload_n 0), (23, .invokevirtual 41), (26, .iinc 2 1), (29, .goto (-27)), (32, .aload_n 0), (33, .getfield 9), (36, .ireturn)])
def mX4_step : mv_M := (yX4_step, cX4_step, 4, none, 0, some 3, tT4, [(0, .aload_n 0), (1, .getfield 33), (4, .istore_n 1), (5, .aload_n 0), (6, .getfield 15), (9, .iload_n 1), (10, .invokevirtual 44), (13, .istore_n 2), (14, .aload_n 0), (15, .getfield 15), (18, .iload_n 1), (19, .iconst 1), (20, .iadd), (21, .invokevirtual 44), (24, .istore_n 3), (25, .aload_n 0), (26, .iload_n 1), (27, .iload_n 2), (28, .invokestatic 48), (31, .iadd), (32, .putfield 33), (35, .iload_n 2), (36, .lookupswitch 167 #[(0, 68), (12, 76), (13, 84), (14, 107), (16, 130), (17, 138), (29, 159)]), (104, .aload_n 0), (105, .iconst 0), (106, .putfield 9), (109, .goto 107), (112, .aload_n 0), (113, .iload_n 3), (114, .putfield 33), (117, .goto 99), (120, .aload_n 0), (121, .aload_n 0), (122, .getfield 19), (125, .invokevirtual 53), (128, .ifCond .ne 7), (131, .iconst 1), (132, .goto 4), (135, .iconst 0), (136, .iload_n 3), (137, .invokevirtual 56), (140, .goto 76), (143, .aload_n 0), (144, .aload_n 0), (145, .getfield 19), (148, .invokevirtual 53), (151, .ifCond .eq 7), (154, .iconst 1), (155, .goto 4), (158, .iconst 0), (159, .iload_n 3), (160, .invokevirtual 56), (163, .goto 53), (166, .aload_n 0), (167, .iload_n 3), (168, .invokevirtual 60), (171, .goto 45), (174, .aload_n 0), (175, .aload_n 0), (176, .getfield 19), (179, .aload_n 0), (180, .getfield 19), (183, .invokevirtual 53), (186, .invokevirtual 64), (189, .putfield 33), (192, .goto 24), (195, .aload_n 0), (196, .iload_n 1), (197, .invokevirtual 67), (200, .goto 16), (203, .aload_n 0), (204, .aload_n 0), (205, .getfield 19), (208, .iload_n 2), (209, .iload_n 3), (210, .invokevirtual 70), (213, .putfield 9), (216, .return_)])
def mX4_goIf : mv_M := (yX4_goIf, cX4_goIf, 3, none, 2, some 3, tT4, [(0, .iload_n 1), (1, .ifCond .eq 8), (4, .aload_n 0), (5, .iload_n 2), (6, .putfield 33), (9, .return_)])
def mX4_call : mv_M := (yX4_call, cX4_call, 2, none, 1, some 3, tT4, [(0, .aload_n 0), (1, .getfield 19), (4, .aload_n 0), (5, .getfield 15), (8, .iload_n 1), (9, .invokevirtual 74), (12, .aload_n 0), (13, .getfield 33), (16, .invokevirtual 77), (19, .ifCond .eq 18), (22, .aload_n 0), (23, .aload_n 0), (24, .getfield 15), (27, .iload_n 1), (28, .invokevirtual 81), (31, .putfield 33), (34, .goto 8), (37, .aload_n 0), (38, .iconst 3), (39, .putfield 9), (42, .return_)])
def mX4_nextKey : mv_M := (yX4_nextKey, cX4_nextKey, 3, none, 1, some 3, tT4, [(0, .aload_n 0), (1, .getfield 19), (4, .invokevirtual 84), (7, .istore_n 2), (8, .iload_n 2), (9, .ifCond .ne 28), (12, .aload_n 0), (13, .getfield 19), (16, .invokevirtual 87), (19, .pop), (20, .aload_n 0), (21, .aload_n 0), (22, .getfield 15), (25, .iload_n 1), (26, .iconst 3), (27, .iadd), (28, .invokevirtual 44), (31, .putfield 33), (34, .goto 31), (37, .aload_n 0), (38, .getfield 19), (41, .iload_n 2), (42, .aload_n 0), (43, .getfield 15), (46, .iload_n 1), (47, .iconst 1), (48, .iadd), (49, .invokevirtual 44), (52, .aload_n 0), (53, .getfield 15), (56, .iload_n 1), (57, .iconst 2), (58, .iadd), (59, .invokevirtual 44), (62, .invokevirtual 90), (65, .return_)])
def mX5_clear : mv_M := (yX5_clear, cX5_clear, 1, none, 0, some 4, tT5, [(0, .aload_n 0), (1, .getfield 11), (4, .invokestatic 53), (7, .aload_n 0), (8, .getfield 15), (11, .invokestatic 53), (14, .aload_n 0), (15, .invokevirtual 59), (18, .aload_n 0), (19, .iconst 0), (20, .putfield 62), (23, .aload_n 0), (24, .iconst 0), (25, .putfield 66), (28, .aload_n 0), (29, .iconst 0), (30, .putfield 69), (33, .return_)])
def mX5_begin : mv_M := (yX5_begin, cX5_begin, 2, none, 1, some 4, tT5, [(0, .aload_n 0), (1, .invokevirtual 72), (4, .aload_n 0), (5, .getfield 40), (8, .invokevirtual 75), (11, .aload_n 0), (12, .getfield 11), (15, .iconst 0), (16, .iload_n 1), (17, .invokestatic 80), (20, .return_)])
def mX5_forgetCalls : mv_M := (yX5_forgetCalls, cX5_forgetCalls, 2, none, 0, some 4, tT5, [(0, .aload_n 0), (1, .iconst 0), (2, .putfield 84), (5, .aload_n 0), (6, .iconst 0), (7, .putfield 87), (10, .aload_n 0), (11, .iconst 0), (12, .putfield 90), (15, .iconst 4), (16, .istore_n 1), (17, .iload_n 1), (18, .aload_n 0), (19, .getfield 15), (22, .arraylength), (23, .if_icmp .ge 16), (26, .aload_n 0), (27, .getfield 15), (30, .iload_n 1), (31, .iconst 0), (32, .iastore), (33, .iinc 1 1), (36, .goto (-19)), (39, .return_)])
def mX5_steps : mv_M := (yX5_steps, cX5_steps, 1, (some .int), 0, some 4, tT5, [(0, .aload_n 0), (1, .getfield 66), (4, .ireturn)])
def mX5_addStep : mv_M := (yX5_addStep, cX5_addStep, 1, none, 0, some 4, tT5, [(0, .aload_n 0), (1, .dup), (2, .getfield 66), (5, .iconst 1), (6, .iadd), (7, .putfield 66), (10, .return_)])
def mX5_calls : mv_M := (yX5_calls, cX5_calls, 1, (some .int), 0, some 4, tT5, [(0, .aload_n 0), (1, .getfield 84), (4, .ireturn)])
def mX5_mostMade : mv_M := (yX5_mostMade, cX5_mostMade, 1, (some .int), 0, some 4, tT5, [(0, .aload_n 0), (1, .getfield 69), (4, .ireturn)])
def mX5_toldCount : mv_M := (yX5_toldCount, cX5_toldCount, 1, (some .int), 0, some 4, tT5, [(0, .aload_n 0), (1, .getfield 62), (4, .ireturn)])
def mX5_told : mv_M := (yX5_told, cX5_told, 2, (some .int), 1, some 4, tT5, [(0, .iload_n 1), (1, .ifCond .lt 22), (4, .iload_n 1), (5, .aload_n 0), (6, .getfield 62), (9, .if_icmp .ge 14), (12, .aload_n 0), (13, .getfield 37), (16, .iload_n 1), (17, .invokestatic 93), (20, .goto 4), (23, .iconst 0), (24, .ireturn)])
def mX5_variablePlace : mv_M := (yX5_variablePlace, cX5_variablePlace, 2, (some .int), 1, some 4, tT5, [(0, .iload_n 1), (1, .bipush 8), (3, .if_icmp .ge 7), (6, .iload_n 1), (7, .goto 12), (10, .iload_n 1), (11, .aload_n 0), (12, .getfield 84), (15, .bipush 6), (17, .imul), (18, .iadd), (19, .ireturn)])
def mX5_mapPlace : mv_M := (yX5_mapPlace, cX5_mapPlace, 2, (some .int), 1, some 4, tT5, [(0, .iload_n 1), (1, .iconst 4), (2, .if_icmp .ge 7), (5, .iload_n 1), (6, .goto 11), (9, .iload_n 1), (10, .aload_n 0), (11, .getfield 84), (14, .iconst 2), (15, .imul), (16, .iadd), (17, .ireturn)])
def mX5_number : mv_M := (yX5_number, cX5_number, 2, (some .int), 1, some 4, tT5, [(0, .aload_n 0), (1, .getfield 11), (4, .aload_n 0), (5, .iload_n 1), (6, .invokevirtual 97), (9, .invokestatic 93), (12, .ireturn)])
def mX5_setNumber : mv_M := (yX5_setNumber, cX5_setNumber, 3, none, 2, some 4, tT5, [(0, .aload_n 0), (1, .getfield 11), (4, .aload_n 0), (5, .iload_n 1), (6, .invokevirtual 97), (9, .iload_n 2), (10, .invokestatic 80), (13, .return_)])
def mX5_tree : mv_M := (yX5_tree, cX5_tree, 2, (some .int), 1, some 4, tT5, [(0, .aload_n 0), (1, .getfield 15), (4, .aload_n 0), (5, .iload_n 1), (6, .invokevirtual 101), (9, .invokestatic 93), (12, .ireturn)])
def mX5_push : mv_M := (yX5_push, cX5_push, 2, none, 1, some 4, tT5, [(0, .aload_n 0), (1, .getfield 87), (4, .sipush 850), (7, .if_icmp .ge 25), (10, .aload_n 0), (11, .getfield 18), (14, .aload_n 0), (15, .getfield 87), (18, .iload_n 1), (19, .invokestatic 80), (22, .aload_n 0), (23, .dup), (24, .getfield 87), (27, .iconst 1), (28, .iadd), (29, .putfield 87), (32, .return_)])
def mX5_pop : mv_M := (yX5_pop, cX5_pop, 1, (some .int), 0, some 4, tT5, [(0, .aload_n 0), (1, .getfield 87), (4, .ifCond .le 13), (7, .aload_n 0), (8, .dup), (9, .getfield 87), (12, .iconst 1), (13, .isub), (14, .putfield 87), (17, .aload_n 0), (18, .getfield 18), (21, .aload_n 0), (22, .getfield 87), (25, .invokestatic 93), (28, .ireturn)])
def mX5_pushMap : mv_M := (yX5_pushMap, cX5_pushMap, 2, none, 1, some 4, tT5, [(0, .aload_n 0), (1, .getfield 90), (4, .sipush 425), (7, .if_icmp .ge 39), (10, .aload_n 0), (11, .getfield 21), (14, .aload_n 0), (15, .getfield 90), (18, .iload_n 1), (19, .invokestatic 80), (22, .aload_n 0), (23, .getfield 24), (26, .aload_n 0), (27, .getfield 90), (30, .ldc2_w 104), (33, .invokestatic 106), (36, .aload_n 0), (37, .dup), (38, .getfield 90), (41, .iconst 1), (42, .iadd), (43, .putfield 90), (46, .return_)])
def mX5_popMap : mv_M := (yX5_popMap, cX5_popMap, 1, (some .int), 0, some 4, tT5, [(0, .aload_n 0), (1, .getfield 90), (4, .ifCond .le 13), (7, .aload_n 0), (8, .dup), (9, .getfield 90), (12, .iconst 1), (13, .isub), (14, .putfield 90), (17, .aload_n 0), (18, .getfield 21), (21, .aload_n 0), (22, .getfield 90), (25, .invokestatic 93), (28, .ireturn)])
def mX5_comingCell : mv_M := (yX5_comingCell, cX5_comingCell, 1, (some .int), 0, some 4, tT5, [(0, .aload_n 0), (1, .getfield 40), (4, .aload_n 0), (5, .getfield 21), (8, .aload_n 0), (9, .getfield 90), (12, .iconst 1), (13, .isub), (14, .invokestatic 93), (17, .aload_n 0), (18, .getfield 24), (21, .aload_n 0), (22, .getfield 90), (25, .iconst 1), (26, .isub), (27, .invokestatic 109), (30, .invokevirtual 112), (33, .ireturn)])
def mX5_comeTo : mv_M := (yX5_comeTo, cX5_comeTo, 5, none, 3, some 4, tT5, [(0, .aload_n 0), (1, .getfield 40), (4, .iload_n 1), (5, .invokevirtual 116), (8, .istore 4), (10, .aload_n 0), (11, .getfield 24), (14, .aload_n 0), (15, .getfield 90), (18, .iconst 1), (19, .isub), (20, .iload 4), (22, .i2l), (23, .lconst 1), (24, .ladd), (25, .invokestatic 106), (28, .aload_n 0), (29, .iload_n 2), (30, .iload 4), (32, .invokevirtual 119), (35, .aload_n 0), (36, .iload_n 3), (37, .aload_n 0), (38, .getfield 40), (41, .iload_n 1), (42, .invokevirtual 123), (45, .invokevirtual 119), (48, .return_)])
def mX5_enter : mv_M := (yX5_enter, cX5_enter, 4, (some .boolean), 2, some 4, tT5, [(0, .aload_n 0), (1, .getfield 84), (4, .bipush 24), (6, .if_icmp .lt 5), (9, .iconst 0), (10, .ireturn), (11, .aload_n 0), (12, .dup), (13, .getfield 84), (16, .iconst 1), (17, .iadd), (18, .putfield 84), (21, .iconst 0), (22, .istore_n 3), (23, .iload_n 3), (24, .bipush 6), (26, .if_icmp .ge 18), (29, .aload_n 0), (30, .bipush 8), (32, .iload_n 3), (33, .iadd), (34, .iconst 0), (35, .invokevirtual 119), (38, .iinc 3 1), (41, .goto (-18)), (44, .iconst 0), (45, .istore_n 3), (46, .iload_n 3), (47, .iconst 2), (48, .if_icmp .ge 24), (51, .aload_n 0), (52, .getfield 15), (55, .aload_n 0), (56, .iconst 4), (57, .iload_n 3), (58, .iadd), (59, .invokevirtual 101), (62, .iconst 0), (63, .invokestatic 80), (66, .iinc 3 1), (69, .goto (-23)), (72, .iload_n 1), (73, .iconst 1), (74, .isub), (75, .istore_n 3), (76, .iload_n 3), (77, .ifCond .lt 21), (80, .aload_n 0), (81, .bipush 8), (83, .iload_n 3), (84, .iadd), (85, .aload_n 0), (86, .invokevirtual 126), (89, .invokevirtual 119), (92, .iinc 3 (-1)), (95, .goto (-19)), (98, .aload_n 0), (99, .getfield 28), (102, .aload_n 0), (103, .getfield 84), (106, .aload_n 0), (107, .getfield 87), (110, .invokestatic 80), (113, .aload_n 0), (114, .getfield 31), (117, .aload_n 0), (118, .getfield 84), (121, .aload_n 0), (122, .getfield 90), (125, .invokestatic 80), (128, .aload_n 0), (129, .getfield 34), (132, .aload_n 0), (133, .getfield 84), (136, .iload_n 2), (137, .invokestatic 80), (140, .iconst 1), (141, .ireturn)])
def mX5_leave : mv_M := (yX5_leave, cX5_leave, 3, (some .int), 1, some 4, tT5, [(0, .aload_n 0), (1, .aload_n 0), (2, .getfield 28), (5, .aload_n 0), (6, .getfield 84), (9, .invokestatic 93), (12, .putfield 87), (15, .aload_n 0), (16, .aload_n 0), (17, .getfield 31), (20, .aload_n 0), (21, .getfield 84), (24, .invokestatic 93), (27, .putfield 90), (30, .aload_n 0), (31, .getfield 34), (34, .aload_n 0), (35, .getfield 84), (38, .invokestatic 93), (41, .istore_n 2), (42, .aload_n 0), (43, .getfield 84), (46, .ifCond .le 13), (49, .aload_n 0), (50, .dup), (51, .getfield 84), (54, .iconst 1), (55, .isub), (56, .putfield 84), (59, .aload_n 0), (60, .iload_n 1), (61, .invokevirtual 130), (64, .iload_n 2), (65, .ireturn)])
def mX5_apply : mv_M := (yX5_apply, cX5_apply, 3, (some .int), 2, some 4, tT5, [(0, .iload_n 1), (1, .iconst 4), (2, .if_icmp .lt 15), (5, .iload_n 1), (6, .bipush 10), (8, .if_icmp .gt 9), (11, .aload_n 0), (12, .iload_n 1), (13, .invokevirtual 136), (16, .ireturn), (17, .iload_n 1), (18, .bipush 22), (20, .if_icmp .lt 15), (23, .iload_n 1), (24, .bipush 24), (26, .if_icmp .gt 9), (29, .aload_n 0), (30, .iload_n 1), (31, .invokevirtual 139), (34, .ireturn), (35, .iload_n 1), (36, .tableswitch 207 1 21 #[100, 108, 120, 207, 207, 207, 207, 207, 207, 207, 132, 207, 207, 207, 151, 207, 207, 160, 168, 180, 199]), (136, .aload_n 0), (137, .iload_n 2), (138, .invokevirtual 130), (141, .goto 107), (144, .aload_n 0), (145, .aload_n 0), (146, .iload_n 2), (147, .invokevirtual 142), (150, .invokevirtual 130), (153, .goto 95), (156, .aload_n 0), (157, .iload_n 2), (158, .aload_n 0), (159, .invokevirtual 126), (162, .invokevirtual 119), (165, .goto 83), (168, .aload_n 0), (169, .aload_n 0), (170, .invokevirtual 126), (173, .ifCond .ne 7), (176, .iconst 1), (177, .goto 4), (180, .iconst 0), (181, .invokevirtual 130), (184, .goto 64), (187, .aload_n 0), (188, .aload_n 0), (189, .invokevirtual 126), (192, .invokevirtual 145), (195, .ireturn), (196, .aload_n 0), (197, .invokevirtual 126), (200, .pop), (201, .goto 47), (204, .aload_n 0), (205, .aload_n 0), (206, .iload_n 2), (207, .invokevirtual 148), (210, .invokevirtual 151), (213, .goto 35), (216, .aload_n 0), (217, .getfield 15), (220, .aload_n 0), (221, .iload_n 2), (222, .invokevirtual 101), (225, .aload_n 0), (226, .invokevirtual 154), (229, .invokestatic 80), (232, .goto 16), (235, .aload_n 0), (236, .iconst 0), (237, .invokevirtual 151), (240, .goto 8), (243, .aload_n 0), (244, .iload_n 1), (245, .invokevirtual 157), (248, .iconst 1), (249, .ireturn)])
def mX5_tell : mv_M := (yX5_tell, cX5_tell, 2, (some .int), 1, some 4, tT5, [(0, .aload_n 0), (1, .getfield 62), (4, .sipush 300), (7, .if_icmp .lt 5), (10, .iconst 4), (11, .ireturn), (12, .aload_n 0), (13, .getfield 37), (16, .aload_n 0), (17, .getfield 62), (20, .iload_n 1), (21, .invokestatic 80), (24, .aload_n 0), (25, .dup), (26, .getfield 62), (29, .iconst 1), (30, .iadd), (31, .putfield 62), (34, .iconst 1), (35, .ireturn)])
def mX5_applyToNumbers : mv_M := (yX5_applyToNumbers, cX5_applyToNumbers, 4, (some .int), 1, some 4, tT5, [(0, .aload_n 0), (1, .invokevirtual 126), (4, .istore_n 2), (5, .aload_n 0), (6, .invokevirtual 126), (9, .istore_n 3), (10, .iload_n 1), (11, .tableswitch 105 4 10 #[41, 51, 61, 105, 105, 71, 88]), (52, .aload_n 0), (53, .iload_n 3), (54, .iload_n 2), (55, .iadd), (56, .invokevirtual 130), (59, .goto 82), (62, .aload_n 0), (63, .iload_n 3), (64, .iload_n 2), (65, .isub), (66, .invokevirtual 130), (69, .goto 72), (72, .aload_n 0), (73, .iload_n 3), (74, .iload_n 2), (75, .imul), (76, .invokevirtual 130), (79, .goto 62), (82, .aload_n 0), (83, .iload_n 3), (84, .iload_n 2), (85, .if_icmp .ge 7), (88, .iconst 1), (89, .goto 4), (92, .iconst 0), (93, .invokevirtual 130), (96, .goto 45), (99, .aload_n 0), (100, .iload_n 3), (101, .iload_n 2), (102, .if_icmp .ne 7), (105, .iconst 1), (106, .goto 4), (109, .iconst 0), (110, .invokevirtual 130), (113, .goto 28), (116, .iload_n 2), (117, .ifCond .ne 5), (120, .iconst 2), (121, .ireturn), (122, .aload_n 0), (123, .iload_n 1), (124, .bipush 7), (126, .if_icmp .ne 9), (129, .iload_n 3), (130, .iload_n 2), (131, .idiv), (132, .goto 6), (135, .iload_n 3), (136, .iload_n 2), (137, .irem), (138, .invokevirtual 130), (141, .iconst 1), (142, .ireturn)])
def mX5_askMap : mv_M := (yX5_askMap, cX5_askMap, 2, none, 1, some 4, tT5, [(0, .iload_n 1), (1, .tableswitch 115 25 28 #[31, 60, 90, 108]), (32, .aload_n 0), (33, .aload_n 0), (34, .getfield 40), (37, .aload_n 0), (38, .getfield 40), (41, .aload_n 0), (42, .invokevirtual 154), (45, .aload_n 0), (46, .invokevirtual 126), (49, .invokevirtual 160), (52, .invokevirtual 123), (55, .invokevirtual 130), (58, .goto 58), (61, .aload_n 0), (62, .aload_n 0), (63, .getfield 40), (66, .aload_n 0), (67, .invokevirtual 154), (70, .aload_n 0), (71, .invokevirtual 126), (74, .invokevirtual 160), (77, .ifCond .ne 7), (80, .iconst 0), (81, .goto 4), (84, .iconst 1), (85, .invokevirtual 130), (88, .goto 28), (91, .aload_n 0), (92, .aload_n 0), (93, .getfield 40), (96, .aload_n 0), (97, .invokevirtual 154), (100, .invokevirtual 164), (103, .invokevirtual 130), (106, .goto 10), (109, .aload_n 0), (110, .invokevirtual 167), (113, .goto 3), (116, .return_)])
def mX5_pushFloor : mv_M := (yX5_pushFloor, cX5_pushFloor, 3, none, 0, some 4, tT5, [(0, .aload_n 0), (1, .invokevirtual 126), (4, .istore_n 1), (5, .aload_n 0), (6, .getfield 40), (9, .aload_n 0), (10, .invokevirtual 154), (13, .aload_n 0), (14, .invokevirtual 126), (17, .invokevirtual 170), (20, .istore_n 2), (21, .aload_n 0), (22, .iload_n 2), (23, .ifCond .ne 7), (26, .iload_n 1), (27, .goto 11), (30, .aload_n 0), (31, .getfield 40), (34, .iload_n 2), (35, .invokevirtual 116), (38, .invokevirtual 130), (41, .return_)])
def mX5_changeMap : mv_M := (yX5_changeMap, cX5_changeMap, 7, (some .int), 1, some 4, tT5, [(0, .aload_n 0), (1, .getfield 18), (4, .aload_n 0), (5, .getfield 87), (8, .iconst 2), (9, .isub), (10, .invokestatic 93), (13, .istore_n 2), (14, .aload_n 0), (15, .getfield 18), (18, .aload_n 0), (19, .getfield 87), (22, .iconst 1), (23, .isub), (24, .invokestatic 93), (27, .istore_n 3), (28, .aload_n 0), (29, .getfield 21), (32, .aload_n 0), (33, .getfield 90), (36, .iconst 2), (37, .isub), (38, .invokestatic 93), (41, .istore 4), (43, .aload_n 0), (44, .getfield 21), (47, .aload_n 0), (48, .getfield 90), (51, .iconst 1), (52, .isub), (53, .invokestatic 93), (56, .istore 5), (58, .aload_n 0), (59, .getfield 40), (62, .invokevirtual 173), (65, .iload_n 1), (66, .lookupswitch 57 #[(22, 26), (23, 42)]), (92, .aload_n 0), (93, .getfield 49), (96, .iload 5), (98, .iload_n 2), (99, .iload_n 3), (100, .invokevirtual 176), (103, .istore 6), (105, .goto 31), (108, .aload_n 0), (109, .getfield 49), (112, .iload 5), (114, .iload_n 3), (115, .invokevirtual 180), (118, .istore 6), (120, .goto 16), (123, .aload_n 0), (124, .getfield 49), (127, .iload 4), (129, .iload 5), (131, .invokevirtual 183), (134, .istore 6), (136, .aload_n 0), (137, .iload 6), (139, .invokevirtual 186), (142, .ifCond .ne 5), (145, .iconst 5), (146, .ireturn), (147, .aload_n 0), (148, .iload_n 1), (149, .invokevirtual 190), (152, .aload_n 0), (153, .iload 6), (155, .invokevirtual 151), (158, .iconst 1), (159, .ireturn)])
def mX5_takeParts : mv_M := (yX5_takeParts, cX5_takeParts, 2, none, 1, some 4, tT5, [(0, .aload_n 0), (1, .invokevirtual 154), (4, .pop), (5, .iload_n 1), (6, .lookupswitch 47 #[(22, 26), (23, 39)]), (32, .aload_n 0), (33, .invokevirtual 126), (36, .pop), (37, .aload_n 0), (38, .invokevirtual 126), (41, .pop), (42, .goto 16), (45, .aload_n 0), (46, .invokevirtual 126), (49, .pop), (50, .goto 8), (53, .aload_n 0), (54, .invokevirtual 154), (57, .pop), (58, .return_)])
def mX5_keep : mv_M := (yX5_keep, cX5_keep, 2, (some .boolean), 1, some 4, tT5, [(0, .aload_n 0), (1, .getfield 40), (4, .invokevirtual 193), (7, .ifCond .ne 41), (10, .aload_n 0), (11, .invokevirtual 197), (14, .aload_n 0), (15, .getfield 40), (18, .invokevirtual 200), (21, .ifCond .ne 12), (24, .aload_n 0), (25, .getfield 40), (28, .invokevirtual 203), (31, .iconst 0), (32, .ireturn), (33, .aload_n 0), (34, .getfield 40), (37, .iload_n 1), (38, .invokevirtual 206), (41, .aload_n 0), (42, .getfield 40), (45, .invokevirtual 209), (48, .aload_n 0), (49, .aload_n 0), (50, .getfield 40), (53, .invokevirtual 212), (56, .aload_n 0), (57, .getfield 69), (60, .if_icmp .le 13), (63, .aload_n 0), (64, .getfield 40), (67, .invokevirtual 212), (70, .goto 7), (73, .aload_n 0), (74, .getfield 69), (77, .putfield 69), (80, .iconst 1), (81, .ireturn)])
def mX5_live : mv_M := (yX5_live, cX5_live, 1, (some .int), 0, some 4, tT5, [(0, .aload_n 0), (1, .invokevirtual 197), (4, .aload_n 0), (5, .getfield 40), (8, .invokevirtual 215), (11, .ireturn)])
def mX5_reachAll : mv_M := (yX5_reachAll, cX5_reachAll, 3, none, 0, some 4, tT5, [(0, .aload_n 0), (1, .getfield 40), (4, .invokevirtual 218), (7, .iconst 4), (8, .aload_n 0), (9, .getfield 84), (12, .iconst 1), (13, .iadd), (14, .iconst 2), (15, .imul), (16, .iadd), (17, .istore_n 1), (18, .iconst 0), (19, .istore_n 2), (20, .iload_n 2), (21, .iload_n 1), (22, .if_icmp .ge 24), (25, .aload_n 0), (26, .getfield 40), (29, .aload_n 0), (30, .getfield 15), (33, .iload_n 2), (34, .invokestatic 93), (37, .invokevirtual 206), (40, .iinc 2 1), (43, .goto (-23)), (46, .iconst 0), (47, .istore_n 2), (48, .iload_n 2), (49, .aload_n 0), (50, .getfield 90), (53, .if_icmp .ge 24), (56, .aload_n 0), (57, .getfield 40), (60, .aload_n 0), (61, .getfield 21), (64, .iload_n 2), (65, .invokestatic 93), (68, .invokevirtual 206), (71, .iinc 2 1), (74, .goto (-26)), (77, .return_)])
def mX6_isStatement : mv_M := (yX6_isStatement, cX6_isStatement, 1, (some .boolean), 1, none, tT6, [(0, .iload_n 0), (1, .iconst 1), (2, .if_icmp .lt 18), (5, .iload_n 0), (6, .bipush 9), (8, .if_icmp .gt 12), (11, .iload_n 0), (12, .iconst 4), (13, .if_icmp .eq 7), (16, .iconst 1), (17, .goto 4), (20, .iconst 0), (21, .ireturn)])
def mX6_isNumber : mv_M := (yX6_isNumber, cX6_isNumber, 1, (some .boolean), 1, none, tT6, [(0, .iload_n 0), (1, .bipush 20), (3, .if_icmp .lt 13), (6, .iload_n 0), (7, .bipush 36), (9, .if_icmp .gt 7), (12, .iconst 1), (13, .goto 4), (16, .iconst 0), (17, .ireturn)])
def mX6_isMap : mv_M := (yX6_isMap, cX6_isMap, 1, (some .boolean), 1, none, tT6, [(0, .iload_n 0), (1, .bipush 40), (3, .if_icmp .lt 13), (6, .iload_n 0), (7, .bipush 44), (9, .if_icmp .gt 7), (12, .iconst 1), (13, .goto 4), (16, .iconst 0), (17, .ireturn)])
def mX6_arguments : mv_M := (yX6_arguments, cX6_arguments, 1, (some .int), 1, none, tT6, [(0, .iload_n 0), (1, .lookupswitch 79 #[(1, 75), (2, 75), (6, 77), (8, 75), (20, 75), (21, 75), (36, 75), (40, 75)]), (76, .iconst 1), (77, .ireturn), (78, .iconst 3), (79, .ireturn), (80, .iconst 0), (81, .ireturn)])
def mX6_maps : mv_M := (yX6_maps, cX6_maps, 1, (some .int), 1, none, tT6, [(0, .iload_n 0), (1, .lookupswitch 79 #[(2, 75), (32, 75), (33, 75), (34, 75), (35, 75), (42, 75), (43, 75), (44, 77)]), (76, .iconst 1), (77, .ireturn), (78, .iconst 2), (79, .ireturn), (80, .iconst 0), (81, .ireturn)])
def mX6_numbers : mv_M := (yX6_numbers, cX6_numbers, 1, (some .int), 1, none, tT6, [(0, .iload_n 0), (1, .bipush 22), (3, .if_icmp .lt 11), (6, .iload_n 0), (7, .bipush 28), (9, .if_icmp .gt 5), (12, .iconst 2), (13, .ireturn), (14, .iload_n 0), (15, .lookupswitch 85 #[(1, 81), (7, 81), (9, 81), (29, 81), (32, 81), (33, 81), (35, 83), (42, 83), (43, 81)]), (96, .iconst 1), (97, .ireturn), (98, .iconst 2), (99, .ireturn), (100, .iconst 0), (101, .ireturn)])
def mX6_word : mv_M := (yX6_word, cX6_word, 1, (some .int), 1, none, tT6, [(0, .iload_n 0), (1, .bipush 22), (3, .if_icmp .lt 16), (6, .iload_n 0), (7, .bipush 29), (9, .if_icmp .gt 10), (12, .iconst 4), (13, .iload_n 0), (14, .iadd), (15, .bipush 22), (17, .isub), (18, .ireturn), (19, .iload_n 0), (20, .bipush 32), (22, .if_icmp .lt 17), (25, .iload_n 0), (26, .bipush 35), (28, .if_icmp .gt 11), (31, .bipush 25), (33, .iload_n 0), (34, .iadd), (35, .bipush 32), (37, .isub), (38, .ireturn), (39, .iload_n 0), (40, .bipush 42), (42, .if_icmp .lt 17), (45, .iload_n 0), (46, .bipush 44), (48, .if_icmp .gt 11), (51, .bipush 22), (53, .iload_n 0), (54, .iadd), (55, .bipush 42), (57, .isub), (58, .ireturn), (59, .iload_n 0), (60, .lookupswitch 105 #[(1, 84), (2, 86), (7, 89), (8, 92), (20, 95), (21, 97), (36, 92), (40, 99), (41, 102)]), (144, .iconst 3), (145, .ireturn), (146, .bipush 20), (148, .ireturn), (149, .bipush 15), (151, .ireturn), (152, .bipush 16), (154, .ireturn), (155, .iconst 1), (156, .ireturn), (157, .iconst 2), (158, .ireturn), (159, .bipush 19), (161, .ireturn), (162, .bipush 21), (164, .ireturn), (165, .iconst (-1)), (166, .ireturn)])
def mX7_put : mv_M := (yX7_put, cX7_put, 7, (some .int), 3, some 5, tT7, [(0, .aload_n 0), (1, .getfield 21), (4, .iload_n 2), (5, .invokevirtual 25), (8, .istore 4), (10, .iload_n 1), (11, .istore 5), (13, .aload_n 0), (14, .sipush 801), (17, .putfield 31), (20, .iconst 0), (21, .istore 6), (23, .iload 6), (25, .sipush 401), (28, .if_icmp .ge 50), (31, .iload 5), (33, .ifCond .eq 45), (36, .aload_n 0), (37, .getfield 21), (40, .iload 5), (42, .invokevirtual 35), (45, .iload_n 2), (46, .if_icmp .eq 32), (49, .aload_n 0), (50, .getfield 21), (53, .iload 5), (55, .invokevirtual 38), (58, .iload 4), (60, .if_icmp .le 18), (63, .aload_n 0), (64, .iload 5), (66, .iload_n 2), (67, .invokevirtual 41), (70, .istore 5), (72, .iinc 6 1), (75, .goto (-52)), (78, .aload_n 0), (79, .iload 5), (81, .iload_n 2), (82, .invokevirtual 45), (85, .aload_n 0), (86, .getfield 21), (89, .aload_n 0), (90, .getfield 31), (93, .aload_n 0), (94, .getfield 21), (97, .iload_n 2), (98, .iload_n 3), (99, .aload_n 0), (100, .getfield 21), (103, .sipush 802), (106, .invokevirtual 49), (109, .aload_n 0), (110, .getfield 21), (113, .sipush 802), (116, .invokevirtual 52), (119, .invokevirtual 55), (122, .invokevirtual 59), (125, .aload_n 0), (126, .getfield 21), (129, .sipush 801), (132, .invokevirtual 49), (135, .ireturn)])
def mX7_without : mv_M := (yX7_without, cX7_without, 5, (some .int), 2, some 5, tT7, [(0, .aload_n 0), (1, .getfield 21), (4, .iload_n 1), (5, .iload_n 2), (6, .invokevirtual 62), (9, .ifCond .ne 5), (12, .iload_n 1), (13, .ireturn), (14, .iload_n 1), (15, .istore_n 3), (16, .aload_n 0), (17, .sipush 801), (20, .putfield 31), (23, .iconst 0), (24, .istore 4), (26, .iload 4), (28, .sipush 401), (31, .if_icmp .ge 32), (34, .iload_n 3), (35, .ifCond .eq 28), (38, .aload_n 0), (39, .getfield 21), (42, .iload_n 3), (43, .invokevirtual 35), (46, .iload_n 2), (47, .if_icmp .eq 16), (50, .aload_n 0), (51, .iload_n 3), (52, .iload_n 2), (53, .invokevirtual 41), (56, .istore_n 3), (57, .iinc 4 1), (60, .goto (-34)), (63, .aload_n 0), (64, .aload_n 0), (65, .getfield 21), (68, .iload_n 3), (69, .invokevirtual 49), (72, .aload_n 0), (73, .getfield 21), (76, .iload_n 3), (77, .invokevirtual 52), (80, .invokevirtual 65), (83, .aload_n 0), (84, .getfield 21), (87, .sipush 801), (90, .invokevirtual 49), (93, .ireturn)])
def mX7_union : mv_M := (yX7_union, cX7_union, 11, (some .int), 2, some 5, tT7, [(0, .aload_n 0), (1, .iconst 0), (2, .putfield 68), (5, .aload_n 0), (6, .iload_n 1), (7, .iload_n 2), (8, .sipush 801), (11, .invokevirtual 71), (14, .iconst 0), (15, .istore_n 3), (16, .iload_n 3), (17, .sipush 402), (20, .if_icmp .ge 262), (23, .aload_n 0), (24, .getfield 68), (27, .ifCond .le 255), (30, .aload_n 0), (31, .getfield 21), (34, .invokevirtual 75), (37, .ifCond .ne 245), (40, .aload_n 0), (41, .dup), (42, .getfield 68), (45, .iconst 1), (46, .isub), (47, .putfield 68), (50, .aload_n 0), (51, .getfield 11), (54, .aload_n 0), (55, .getfield 68), (58, .invokestatic 79), (61, .istore 4), (63, .aload_n 0), (64, .getfield 15), (67, .aload_n 0), (68, .getfield 68), (71, .invokestatic 79), (74, .istore 5), (76, .aload_n 0), (77, .getfield 21), (80, .iload 5), (82, .invokevirtual 38), (85, .aload_n 0), (86, .getfield 21), (89, .iload 4), (91, .invokevirtual 38), (94, .if_icmp .lt 7), (97, .iconst 1), (98, .goto 4), (101, .iconst 0), (102, .istore 6), (104, .iload 6), (106, .ifCond .eq 8), (109, .iload 5), (111, .goto 5), (114, .iload 4), (116, .istore 7), (118, .aload_n 0), (119, .getfield 21), (122, .iload 7), (124, .invokevirtual 85), (127, .istore 8), (129, .aload_n 0), (130, .getfield 21), (133, .aload_n 0), (134, .getfield 18), (137, .aload_n 0), (138, .getfield 68), (141, .invokestatic 79), (144, .iload 8), (146, .invokevirtual 59), (149, .aload_n 0), (150, .iload 6), (152, .ifCond .eq 8), (155, .iload 4), (157, .goto 5), (160, .iload 5), (162, .aload_n 0), (163, .getfield 21), (166, .iload 7), (168, .invokevirtual 35), (171, .invokevirtual 45), (174, .aload_n 0), (175, .getfield 21), (178, .sipush 802), (181, .invokevirtual 49), (184, .istore 9), (186, .aload_n 0), (187, .getfield 21), (190, .sipush 802), (193, .invokevirtual 52), (196, .istore 10), (198, .iload 6), (200, .ifCond .eq 41), (203, .aload_n 0), (204, .iload 9), (206, .aload_n 0), (207, .getfield 21), (210, .iload 5), (212, .invokevirtual 49), (215, .iload 8), (217, .invokevirtual 71), (220, .aload_n 0), (221, .iload 10), (223, .aload_n 0), (224, .getfield 21), (227, .iload 5), (229, .invokevirtual 52), (232, .iload 8), (234, .ineg), (235, .invokevirtual 71), (238, .goto 38), (241, .aload_n 0), (242, .aload_n 0), (243, .getfield 21), (246, .iload 4), (248, .invokevirtual 49), (251, .iload 9), (253, .iload 8), (255, .invokevirtual 71), (258, .aload_n 0), (259, .aload_n 0), (260, .getfield 21), (263, .iload 4), (265, .invokevirtual 52), (268, .iload 10), (270, .iload 8), (272, .ineg), (273, .invokevirtual 71), (276, .iinc 3 1), (279, .goto (-263)), (282, .aload_n 0), (283, .getfield 21), (286, .sipush 801), (289, .invokevirtual 49), (292, .ireturn)])
def mX7_unite : mv_M := (yX7_unite, cX7_unite, 4, none, 3, some 5, tT7, [(0, .iload_n 1), (1, .ifCond .eq 7), (4, .iload_n 2), (5, .ifCond .ne 23), (8, .aload_n 0), (9, .getfield 21), (12, .iload_n 3), (13, .iload_n 1), (14, .ifCond .ne 7), (17, .iload_n 2), (18, .goto 4), (21, .iload_n 1), (22, .invokevirtual 59), (25, .goto 59), (28, .aload_n 0), (29, .getfield 68), (32, .sipush 402), (35, .if_icmp .ge 49), (38, .aload_n 0), (39, .getfield 11), (42, .aload_n 0), (43, .getfield 68), (46, .iload_n 1), (47, .invokestatic 88), (50, .aload_n 0), (51, .getfield 15), (54, .aload_n 0), (55, .getfield 68), (58, .iload_n 2), (59, .invokestatic 88), (62, .aload_n 0), (63, .getfield 18), (66, .aload_n 0), (67, .getfield 68), (70, .iload_n 3), (71, .invokestatic 88), (74, .aload_n 0), (75, .dup), (76, .getfield 68), (79, .iconst 1), (80, .iadd), (81, .putfield 68), (84, .return_)])
def mX7_copyTowards : mv_M := (yX7_copyTowards, cX7_copyTowards, 5, (some .int), 2, some 5, tT7, [(0, .iload_n 2), (1, .aload_n 0), (2, .getfield 21), (5, .iload_n 1), (6, .invokevirtual 35), (9, .if_icmp .ge 7), (12, .iconst 1), (13, .goto 4), (16, .iconst 0), (17, .istore_n 3), (18, .aload_n 0), (19, .getfield 21), (22, .iload_n 1), (23, .invokevirtual 85), (26, .istore 4), (28, .aload_n 0), (29, .getfield 21), (32, .aload_n 0), (33, .getfield 31), (36, .iload 4), (38, .invokevirtual 59), (41, .aload_n 0), (42, .iload_n 3), (43, .ifCond .eq 8), (46, .iload 4), (48, .goto 6), (51, .iload 4), (53, .ineg), (54, .putfield 31), (57, .iload_n 3), (58, .ifCond .eq 14), (61, .aload_n 0), (62, .getfield 21), (65, .iload_n 1), (66, .invokevirtual 49), (69, .goto 11), (72, .aload_n 0), (73, .getfield 21), (76, .iload_n 1), (77, .invokevirtual 52), (80, .ireturn)])
def mX7_split : mv_M := (yX7_split, cX7_split, 8, none, 2, some 5, tT7, [(0, .sipush 802), (3, .istore_n 3), (4, .sipush (-802)), (7, .istore 4), (9, .iload_n 1), (10, .istore 5), (12, .iconst 0), (13, .istore 6), (15, .iload 6), (17, .sipush 401), (20, .if_icmp .ge 105), (23, .iload 5), (25, .ifCond .eq 100), (28, .aload_n 0), (29, .getfield 21), (32, .iload 5), (34, .invokevirtual 35), (37, .iload_n 2), (38, .if_icmp .eq 87), (41, .aload_n 0), (42, .getfield 21), (45, .iload 5), (47, .invokevirtual 85), (50, .istore 7), (52, .iload_n 2), (53, .aload_n 0), (54, .getfield 21), (57, .iload 5), (59, .invokevirtual 35), (62, .if_icmp .ge 32), (65, .aload_n 0), (66, .getfield 21), (69, .iload 4), (71, .iload 7), (73, .invokevirtual 59), (76, .iload 7), (78, .istore 4), (80, .aload_n 0), (81, .getfield 21), (84, .iload 5), (86, .invokevirtual 49), (89, .istore 5), (91, .goto 28), (94, .aload_n 0), (95, .getfield 21), (98, .iload_n 3), (99, .iload 7), (101, .invokevirtual 59), (104, .iload 7), (106, .ineg), (107, .istore_n 3), (108, .aload_n 0), (109, .getfield 21), (112, .iload 5), (114, .invokevirtual 52), (117, .istore 5), (119, .iinc 6 1), (122, .goto (-107)), (125, .aload_n 0), (126, .getfield 21), (129, .iload_n 3), (130, .aload_n 0), (131, .getfield 21), (134, .iload 5), (136, .invokevirtual 49), (139, .invokevirtual 59), (142, .aload_n 0), (143, .getfield 21), (146, .iload 4), (148, .aload_n 0), (149, .getfield 21), (152, .iload 5), (154, .invokevirtual 52), (157, .invokevirtual 59), (160, .return_)])
def mX7_join : mv_M := (yX7_join, cX7_join, 7, none, 2, some 5, tT7, [(0, .iload_n 1), (1, .istore_n 3), (2, .iload_n 2), (3, .istore 4), (5, .iconst 0), (6, .istore 5), (8, .iload 5), (10, .sipush 802), (13, .if_icmp .ge 121), (16, .iload_n 3), (17, .ifCond .eq 117), (20, .iload 4), (22, .ifCond .eq 112), (25, .aload_n 0), (26, .getfield 21), (29, .iload_n 3), (30, .invokevirtual 38), (33, .aload_n 0), (34, .getfield 21), (37, .iload 4), (39, .invokevirtual 38), (42, .if_icmp .le 45), (45, .aload_n 0), (46, .getfield 21), (49, .iload_n 3), (50, .invokevirtual 85), (53, .istore 6), (55, .aload_n 0), (56, .getfield 21), (59, .aload_n 0), (60, .getfield 31), (63, .iload 6), (65, .invokevirtual 59), (68, .aload_n 0), (69, .iload 6), (71, .ineg), (72, .putfield 31), (75, .aload_n 0), (76, .getfield 21), (79, .iload_n 3), (80, .invokevirtual 52), (83, .istore_n 3), (84, .goto 44), (87, .aload_n 0), (88, .getfield 21), (91, .iload 4), (93, .invokevirtual 85), (96, .istore 6), (98, .aload_n 0), (99, .getfield 21), (102, .aload_n 0), (103, .getfield 31), (106, .iload 6), (108, .invokevirtual 59), (111, .aload_n 0), (112, .iload 6), (114, .putfield 31), (117, .aload_n 0), (118, .getfield 21), (121, .iload 4), (123, .invokevirtual 49), (126, .istore 4), (128, .iinc 5 1), (131, .goto (-123)), (134, .aload_n 0), (135, .getfield 21), (138, .aload_n 0), (139, .getfield 31), (142, .iload_n 3), (143, .ifCond .ne 8), (146, .iload 4), (148, .goto 4), (151, .iload_n 3), (152, .invokevirtual 59), (155, .return_)])
def mX8_walk : mv_M := (yX8_walk, cX8_walk, 5, (some .int), 1, some 6, tT8, [(0, .aload_n 0), (1, .iload_n 1), (2, .putfield 26), (5, .aload_n 0), (6, .iconst 0), (7, .putfield 30), (10, .aload_n 0), (11, .iconst 1), (12, .putfield 34), (15, .aload_n 0), (16, .iconst 0), (17, .putfield 37), (20, .aload_n 0), (21, .aload_n 0), (22, .getfield 18), (25, .invokevirtual 40), (28, .invokevirtual 46), (31, .aload_n 0), (32, .aload_n 0), (33, .getfield 18), (36, .invokevirtual 40), (39, .iconst 1), (40, .iadd), (41, .putfield 50), (44, .iconst 0), (45, .istore_n 2), (46, .iload_n 2), (47, .ldc 53), (49, .if_icmp .ge 286), (52, .aload_n 0), (53, .getfield 34), (56, .iconst 1), (57, .if_icmp .ne 278), (60, .aload_n 0), (61, .getfield 30), (64, .ifCond .ne 271), (67, .aload_n 0), (68, .getfield 11), (71, .aload_n 0), (72, .getfield 37), (75, .iconst 1), (76, .isub), (77, .invokestatic 54), (80, .istore_n 3), (81, .aload_n 0), (82, .getfield 15), (85, .aload_n 0), (86, .getfield 37), (89, .iconst 1), (90, .isub), (91, .invokestatic 54), (94, .istore 4), (96, .aload_n 0), (97, .getfield 18), (100, .iload_n 3), (101, .invokevirtual 60), (104, .tableswitch 218 3 36 #[159, 218, 169, 179, 218, 198, 189, 152, 152, 218, 218, 218, 218, 218, 218, 218, 218, 218, 218, 218, 218, 218, 218, 218, 218, 218, 218, 208, 208, 218, 218, 218, 218, 198]), (256, .aload_n 0), (257, .invokevirtual 64), (260, .goto 69), (263, .aload_n 0), (264, .iload_n 3), (265, .iload 4), (267, .invokevirtual 67), (270, .goto 59), (273, .aload_n 0), (274, .iload_n 3), (275, .iload 4), (277, .invokevirtual 71), (280, .goto 49), (283, .aload_n 0), (284, .iload_n 3), (285, .iload 4), (287, .invokevirtual 74), (290, .goto 39), (293, .aload_n 0), (294, .iload 4), (296, .invokevirtual 77), (299, .goto 30), (302, .aload_n 0), (303, .iload_n 3), (304, .iload 4), (306, .invokevirtual 80), (309, .goto 20), (312, .aload_n 0), (313, .iload_n 3), (314, .iload 4), (316, .invokevirtual 83), (319, .goto 10), (322, .aload_n 0), (323, .iload_n 3), (324, .iload 4), (326, .invokevirtual 86), (329, .iinc 2 1), (332, .goto (-286)), (335, .aload_n 0), (336, .getfield 34), (339, .ireturn)])
def mX8_openAt : mv_M := (yX8_openAt, cX8_openAt, 2, none, 1, some 6, tT8, [(0, .aload_n 0), (1, .getfield 37), (4, .sipush 425), (7, .if_icmp .ge 37), (10, .aload_n 0), (11, .getfield 11), (14, .aload_n 0), (15, .getfield 37), (18, .iload_n 1), (19, .invokestatic 89), (22, .aload_n 0), (23, .getfield 15), (26, .aload_n 0), (27, .getfield 37), (30, .iconst 0), (31, .invokestatic 89), (34, .aload_n 0), (35, .dup), (36, .getfield 37), (39, .iconst 1), (40, .iadd), (41, .putfield 37), (44, .return_)])
def mX8_close : mv_M := (yX8_close, cX8_close, 1, none, 0, some 6, tT8, [(0, .aload_n 0), (1, .dup), (2, .getfield 37), (5, .iconst 1), (6, .isub), (7, .putfield 37), (10, .return_)])
def mX8_closeBehind : mv_M := (yX8_closeBehind, cX8_closeBehind, 2, none, 1, some 6, tT8, [(0, .aload_n 0), (1, .aload_n 0), (2, .getfield 18), (5, .iload_n 1), (6, .invokevirtual 93), (9, .putfield 50), (12, .aload_n 0), (13, .invokevirtual 96), (16, .return_)])
def mX8_setStage : mv_M := (yX8_setStage, cX8_setStage, 2, none, 1, some 6, tT8, [(0, .aload_n 0), (1, .getfield 15), (4, .aload_n 0), (5, .getfield 37), (8, .iconst 1), (9, .isub), (10, .iload_n 1), (11, .invokestatic 89), (14, .return_)])
def mX8_mayStep : mv_M := (yX8_mayStep, cX8_mayStep, 1, (some .boolean), 0, some 6, tT8, [(0, .aload_n 0), (1, .getfield 22), (4, .invokevirtual 99), (7, .aload_n 0), (8, .getfield 26), (11, .if_icmp .lt 10), (14, .aload_n 0), (15, .iconst 1), (16, .putfield 30), (19, .iconst 0), (20, .ireturn), (21, .aload_n 0), (22, .getfield 22), (25, .invokevirtual 104), (28, .iconst 1), (29, .ireturn)])
def mX8_beginNext : mv_M := (yX8_beginNext, cX8_beginNext, 1, none, 0, some 6, tT8, [(0, .aload_n 0), (1, .invokevirtual 107), (4, .ifCond .eq 36), (7, .aload_n 0), (8, .aload_n 0), (9, .getfield 50), (12, .invokevirtual 46), (15, .aload_n 0), (16, .dup), (17, .getfield 50), (20, .iconst 1), (21, .aload_n 0), (22, .getfield 18), (25, .aload_n 0), (26, .getfield 50), (29, .invokevirtual 60), (32, .invokestatic 111), (35, .iadd), (36, .iadd), (37, .putfield 50), (40, .return_)])
def mX8_body : mv_M := (yX8_body, cX8_body, 1, none, 0, some 6, tT8, [(0, .aload_n 0), (1, .getfield 18), (4, .aload_n 0), (5, .getfield 50), (8, .invokevirtual 60), (11, .ifCond .ne 11), (14, .aload_n 0), (15, .iconst 0), (16, .invokevirtual 116), (19, .goto 7), (22, .aload_n 0), (23, .invokevirtual 119), (26, .return_)])
def mX8_comeBack : mv_M := (yX8_comeBack, cX8_comeBack, 2, none, 1, some 6, tT8, [(0, .aload_n 0), (1, .getfield 22), (4, .invokevirtual 122), (7, .ifCond .ne 9), (10, .aload_n 0), (11, .iconst 0), (12, .putfield 34), (15, .return_), (16, .aload_n 0), (17, .aload_n 0), (18, .getfield 22), (21, .iload_n 1), (22, .invokevirtual 125), (25, .putfield 37), (28, .aload_n 0), (29, .aload_n 0), (30, .getfield 18), (33, .aload_n 0), (34, .getfield 11), (37, .aload_n 0), (38, .getfield 37), (41, .iconst 1), (42, .isub), (43, .invokestatic 54), (46, .invokevirtual 93), (49, .putfield 50), (52, .return_)])
def mX8_beginPart : mv_M := (yX8_beginPart, cX8_beginPart, 2, none, 1, some 6, tT8, [(0, .aload_n 0), (1, .iload_n 1), (2, .invokevirtual 128), (5, .aload_n 0), (6, .invokevirtual 119), (9, .return_)])
def mX8_choice : mv_M := (yX8_choice, cX8_choice, 4, none, 2, some 6, tT8, [(0, .iload_n 2), (1, .ifCond .ne 11), (4, .aload_n 0), (5, .iconst 1), (6, .invokevirtual 131), (9, .goto 87), (12, .iload_n 2), (13, .iconst 1), (14, .if_icmp .ne 53), (17, .aload_n 0), (18, .iconst 2), (19, .invokevirtual 128), (22, .aload_n 0), (23, .getfield 22), (26, .invokevirtual 134), (29, .ifCond .ne 67), (32, .aload_n 0), (33, .getfield 18), (36, .iload_n 1), (37, .invokevirtual 137), (40, .istore_n 3), (41, .aload_n 0), (42, .aload_n 0), (43, .getfield 18), (46, .iload_n 3), (47, .invokevirtual 60), (50, .iconst 4), (51, .if_icmp .ne 9), (54, .iload_n 3), (55, .iconst 1), (56, .iadd), (57, .goto 4), (60, .iload_n 3), (61, .putfield 50), (64, .goto 32), (67, .aload_n 0), (68, .getfield 18), (71, .aload_n 0), (72, .getfield 50), (75, .invokevirtual 60), (78, .invokestatic 140), (81, .ifCond .eq 10), (84, .aload_n 0), (85, .invokevirtual 119), (88, .goto 8), (91, .aload_n 0), (92, .iload_n 1), (93, .invokevirtual 144), (96, .return_)])
def mX8_repetition : mv_M := (yX8_repetition, cX8_repetition, 3, none, 2, some 6, tT8, [(0, .iload_n 2), (1, .ifCond .ne 11), (4, .aload_n 0), (5, .iconst 1), (6, .invokevirtual 131), (9, .goto 67), (12, .iload_n 2), (13, .iconst 1), (14, .if_icmp .ne 29), (17, .aload_n 0), (18, .getfield 22), (21, .invokevirtual 134), (24, .ifCond .ne 11), (27, .aload_n 0), (28, .iload_n 1), (29, .invokevirtual 144), (32, .goto 44), (35, .aload_n 0), (36, .iconst 2), (37, .invokevirtual 128), (40, .goto 36), (43, .aload_n 0), (44, .getfield 18), (47, .aload_n 0), (48, .getfield 50), (51, .invokevirtual 60), (54, .ifCond .ne 18), (57, .aload_n 0), (58, .iload_n 1), (59, .iconst 1), (60, .iadd), (61, .putfield 50), (64, .aload_n 0), (65, .iconst 0), (66, .invokevirtual 128), (69, .goto 7), (72, .aload_n 0), (73, .invokevirtual 119), (76, .return_)])
def mX8_eachKey : mv_M := (yX8_eachKey, cX8_eachKey, 3, none, 2, some 6, tT8, [(0, .iload_n 2), (1, .ifCond .ne 35), (4, .aload_n 0), (5, .getfield 22), (8, .aload_n 0), (9, .getfield 22), (12, .aload_n 0), (13, .getfield 18), (16, .iload_n 1), (17, .iconst 1), (18, .iadd), (19, .invokevirtual 60), (22, .invokevirtual 147), (25, .invokevirtual 150), (28, .aload_n 0), (29, .iconst 1), (30, .invokevirtual 128), (33, .goto 42), (36, .iload_n 2), (37, .iconst 1), (38, .if_icmp .ne 11), (41, .aload_n 0), (42, .iload_n 1), (43, .invokevirtual 153), (46, .goto 29), (49, .aload_n 0), (50, .getfield 18), (53, .aload_n 0), (54, .getfield 50), (57, .invokevirtual 60), (60, .ifCond .ne 11), (63, .aload_n 0), (64, .iconst 1), (65, .invokevirtual 128), (68, .goto 7), (71, .aload_n 0), (72, .invokevirtual 119), (75, .return_)])
def mX8_comeToKey : mv_M := (yX8_comeToKey, cX8_comeToKey, 3, none, 1, some 6, tT8, [(0, .aload_n 0), (1, .getfield 22), (4, .invokevirtual 156), (7, .istore_n 2), (8, .iload_n 2), (9, .ifCond .ne 19), (12, .aload_n 0), (13, .getfield 22), (16, .invokevirtual 159), (19, .pop), (20, .aload_n 0), (21, .iload_n 1), (22, .invokevirtual 144), (25, .goto 56), (28, .aload_n 0), (29, .invokevirtual 107), (32, .ifCond .eq 49), (35, .aload_n 0), (36, .getfield 22), (39, .iload_n 2), (40, .aload_n 0), (41, .getfield 18), (44, .iload_n 1), (45, .iconst 2), (46, .iadd), (47, .invokevirtual 60), (50, .aload_n 0), (51, .getfield 18), (54, .iload_n 1), (55, .iconst 3), (56, .iadd), (57, .invokevirtual 60), (60, .invokevirtual 162), (63, .aload_n 0), (64, .iload_n 1), (65, .iconst 1), (66, .iadd), (67, .bipush 6), (69, .invokestatic 111), (72, .iadd), (73, .putfield 50), (76, .aload_n 0), (77, .iconst 2), (78, .invokevirtual 128), (81, .return_)])
def mX8_answer : mv_M := (yX8_answer, cX8_answer, 2, none, 1, some 6, tT8, [(0, .iload_n 1), (1, .ifCond .ne 11), (4, .aload_n 0), (5, .iconst 1), (6, .invokevirtual 131), (9, .goto 14), (12, .aload_n 0), (13, .aload_n 0), (14, .getfield 22), (17, .invokevirtual 134), (20, .invokevirtual 116), (23, .return_)])
def mX8_call : mv_M := (yX8_call, cX8_call, 4, none, 2, some 6, tT8, [(0, .aload_n 0), (1, .getfield 18), (4, .iload_n 1), (5, .invokevirtual 166), (8, .istore_n 3), (9, .iload_n 2), (10, .iload_n 3), (11, .if_icmp .ge 13), (14, .aload_n 0), (15, .iload_n 2), (16, .iconst 1), (17, .iadd), (18, .invokevirtual 131), (21, .goto 58), (24, .iload_n 2), (25, .iload_n 3), (26, .if_icmp .ne 28), (29, .aload_n 0), (30, .iload_n 2), (31, .iconst 1), (32, .iadd), (33, .invokevirtual 128), (36, .aload_n 0), (37, .aload_n 0), (38, .getfield 18), (41, .iload_n 1), (42, .iconst 1), (43, .iadd), (44, .invokevirtual 60), (47, .iload_n 3), (48, .invokevirtual 169), (51, .goto 28), (54, .aload_n 0), (55, .getfield 18), (58, .iload_n 1), (59, .invokevirtual 60), (62, .bipush 8), (64, .if_icmp .ne 11), (67, .aload_n 0), (68, .getfield 22), (71, .invokevirtual 134), (74, .pop), (75, .aload_n 0), (76, .invokevirtual 96), (79, .return_)])
def mX8_enter : mv_M := (yX8_enter, cX8_enter, 4, none, 2, some 6, tT8, [(0, .aload_n 0), (1, .getfield 22), (4, .iload_n 2), (5, .aload_n 0), (6, .getfield 37), (9, .invokevirtual 172), (12, .ifCond .ne 9), (15, .aload_n 0), (16, .iconst 3), (17, .putfield 34), (20, .return_), (21, .aload_n 0), (22, .getfield 18), (25, .iload_n 1), (26, .invokevirtual 175), (29, .istore_n 3), (30, .aload_n 0), (31, .iload_n 3), (32, .invokevirtual 46), (35, .aload_n 0), (36, .iload_n 3), (37, .iconst 3), (38, .iadd), (39, .putfield 50), (42, .return_)])
def mX8_shortcut : mv_M := (yX8_shortcut, cX8_shortcut, 5, none, 2, some 6, tT8, [(0, .iload_n 2), (1, .ifCond .ne 9), (4, .aload_n 0), (5, .iconst 1), (6, .invokevirtual 131), (9, .return_), (10, .aload_n 0), (11, .getfield 18), (14, .iload_n 1), (15, .invokevirtual 60), (18, .bipush 30), (20, .if_icmp .ne 7), (23, .iconst 0), (24, .goto 4), (27, .iconst 1), (28, .istore_n 3), (29, .aload_n 0), (30, .getfield 22), (33, .invokevirtual 134), (36, .ifCond .ne 7), (39, .iconst 0), (40, .goto 4), (43, .iconst 1), (44, .istore 4), (46, .iload_n 2), (47, .iconst 1), (48, .if_icmp .ne 17), (51, .iload 4), (53, .iload_n 3), (54, .if_icmp .eq 11), (57, .aload_n 0), (58, .iconst 2), (59, .invokevirtual 131), (62, .goto 17), (65, .aload_n 0), (66, .getfield 22), (69, .iload 4), (71, .invokevirtual 178), (74, .aload_n 0), (75, .iload_n 1), (76, .invokevirtual 144), (79, .return_)])
def mX8_plain : mv_M := (yX8_plain, cX8_plain, 4, none, 2, some 6, tT8, [(0, .aload_n 0), (1, .getfield 18), (4, .iload_n 1), (5, .invokevirtual 60), (8, .istore_n 3), (9, .iload_n 2), (10, .iload_n 3), (11, .invokestatic 181), (14, .iload_n 3), (15, .invokestatic 184), (18, .iadd), (19, .if_icmp .ge 13), (22, .aload_n 0), (23, .iload_n 2), (24, .iconst 1), (25, .iadd), (26, .invokevirtual 131), (29, .goto 32), (32, .aload_n 0), (33, .aload_n 0), (34, .getfield 22), (37, .iload_n 3), (38, .invokestatic 185), (41, .aload_n 0), (42, .getfield 18), (45, .iload_n 1), (46, .iconst 1), (47, .iadd), (48, .invokevirtual 60), (51, .invokevirtual 188), (54, .putfield 34), (57, .aload_n 0), (58, .invokevirtual 96), (61, .return_)])
def mX9_length : mv_M := (yX9_length, cX9_length, 1, (some .int), 1, none, tT9, [(0, .iload_n 0), (1, .tableswitch 135 1 29 #[131, 131, 131, 135, 135, 135, 135, 135, 135, 135, 135, 131, 131, 131, 135, 131, 135, 135, 131, 131, 135, 135, 135, 135, 135, 135, 135, 135, 133]), (132, .iconst 2), (133, .ireturn), (134, .iconst 4), (135, .ireturn), (136, .iconst 1), (137, .ireturn)])
def mX10_init_ : mv_M := (yX10_init_, cX10_init_, 3, (some .int), 2, some 7, tT10, [(0, .iload_n 2), (1, .iconst 1), (2, .if_icmp .lt 10), (5, .iload_n 2), (6, .sipush 400), (9, .if_icmp .le 6), (12, .bipush (-2)), (14, .ireturn), (15, .aload_n 0), (16, .getfield 12), (19, .invokevirtual 61), (22, .aload_n 0), (23, .getfield 46), (26, .invokevirtual 64), (29, .aload_n 0), (30, .getfield 28), (33, .iload_n 1), (34, .iload_n 2), (35, .invokevirtual 57), (38, .aload_n 0), (39, .getfield 37), (42, .invokevirtual 67), (45, .iconst 0), (46, .ireturn)])
def mX10_feed : mv_M := (yX10_feed, cX10_feed, 2, (some .int), 1, some 7, tT10, [(0, .aload_n 0), (1, .getfield 12), (4, .iload_n 1), (5, .invokevirtual 68), (8, .ifCond .ne 6), (11, .bipush (-3)), (13, .ireturn), (14, .aload_n 0), (15, .invokevirtual 72), (18, .aload_n 0), (19, .getfield 12), (22, .invokevirtual 75), (25, .ireturn)])
def mX10_compile : mv_M := (yX10_compile, cX10_compile, 1, (some .int), 0, some 7, tT10, [(0, .aload_n 0), (1, .invokevirtual 72), (4, .aload_n 0), (5, .getfield 21), (8, .invokevirtual 79), (11, .ireturn)])
def mX10_place : mv_M := (yX10_place, cX10_place, 1, (some .int), 0, some 7, tT10, [(0, .aload_n 0), (1, .getfield 12), (4, .invokevirtual 82), (7, .ireturn)])
def mX10_code : mv_M := (yX10_code, cX10_code, 2, (some .int), 1, some 7, tT10, [(0, .aload_n 0), (1, .getfield 12), (4, .iload_n 1), (5, .invokevirtual 85), (8, .ireturn)])
def mX10_start : mv_M := (yX10_start, cX10_start, 2, (some .int), 1, some 7, tT10, [(0, .aload_n 0), (1, .getfield 12), (4, .invokevirtual 89), (7, .ifCond .ne 6), (10, .bipush 6), (12, .ireturn), (13, .aload_n 0), (14, .getfield 37), (17, .iload_n 1), (18, .invokevirtual 93), (21, .aload_n 0), (22, .getfield 46), (25, .invokevirtual 97), (28, .iconst 0), (29, .ireturn)])
def mX10_run : mv_M := (yX10_run, cX10_run, 2, (some .int), 1, some 7, tT10, [(0, .iload_n 1), (1, .invokestatic 99), (4, .ifCond .ne 6), (7, .bipush (-2)), (9, .ireturn), (10, .aload_n 0), (11, .getfield 46), (14, .invokevirtual 102), (17, .ifCond .eq 14), (20, .aload_n 0), (21, .getfield 46), (24, .iload_n 1), (25, .invokevirtual 105), (28, .goto 5), (31, .bipush 6), (33, .ireturn)])
def mX10_interpret : mv_M := (yX10_interpret, cX10_interpret, 4, (some .int), 2, some 7, tT10, [(0, .iload_n 2), (1, .invokestatic 99), (4, .ifCond .ne 6), (7, .bipush (-2)), (9, .ireturn), (10, .aload_n 0), (11, .getfield 12), (14, .invokevirtual 89), (17, .ifCond .ne 6), (20, .bipush 6), (22, .ireturn), (23, .aload_n 0), (24, .getfield 37), (27, .iload_n 1), (28, .invokevirtual 93), (31, .aload_n 0), (32, .getfield 53), (35, .iload_n 2), (36, .invokevirtual 108), (39, .istore_n 3), (40, .aload_n 0), (41, .invokevirtual 72), (44, .iload_n 3), (45, .ireturn)])
def mX10_outSize : mv_M := (yX10_outSize, cX10_outSize, 1, (some .int), 0, some 7, tT10, [(0, .aload_n 0), (1, .getfield 37), (4, .invokevirtual 111), (7, .ireturn)])
def mX10_out : mv_M := (yX10_out, cX10_out, 2, (some .int), 1, some 7, tT10, [(0, .aload_n 0), (1, .getfield 37), (4, .iload_n 1), (5, .invokevirtual 114), (8, .ireturn)])
def mX10_variable : mv_M := (yX10_variable, cX10_variable, 2, (some .int), 1, some 7, tT10, [(0, .iload_n 1), (1, .ifCond .lt 20), (4, .iload_n 1), (5, .bipush 8), (7, .if_icmp .ge 14), (10, .aload_n 0), (11, .getfield 37), (14, .iload_n 1), (15, .invokevirtual 117), (18, .goto 4), (21, .iconst 0), (22, .ireturn)])
def mX10_map : mv_M := (yX10_map, cX10_map, 5, (some .int), 3, some 7, tT10, [(0, .iload_n 1), (1, .ifCond .lt 8), (4, .iload_n 1), (5, .iconst 4), (6, .if_icmp .lt 6), (9, .bipush (-2)), (11, .ireturn), (12, .aload_n 0), (13, .getfield 37), (16, .iload_n 1), (17, .invokevirtual 120), (20, .istore 4), (22, .iload_n 2), (23, .tableswitch 85 0 3 #[29, 39, 57, 75]), (52, .aload_n 0), (53, .getfield 28), (56, .iload 4), (58, .invokevirtual 123), (61, .ireturn), (62, .aload_n 0), (63, .getfield 28), (66, .aload_n 0), (67, .getfield 28), (70, .iload 4), (72, .iload_n 3), (73, .invokevirtual 125), (76, .invokevirtual 129), (79, .ireturn), (80, .aload_n 0), (81, .getfield 28), (84, .aload_n 0), (85, .getfield 28), (88, .iload 4), (90, .iload_n 3), (91, .invokevirtual 125), (94, .invokevirtual 132), (97, .ireturn), (98, .aload_n 0), (99, .getfield 28), (102, .iload 4), (104, .invokevirtual 129), (107, .ireturn), (108, .bipush (-2)), (110, .ireturn)])
def mX10_count : mv_M := (yX10_count, cX10_count, 2, (some .int), 1, some 7, tT10, [(0, .iload_n 1), (1, .tableswitch 140 0 7 #[47, 55, 63, 71, 79, 87, 95, 117]), (48, .aload_n 0), (49, .getfield 12), (52, .invokevirtual 75), (55, .ireturn), (56, .aload_n 0), (57, .getfield 12), (60, .invokevirtual 135), (63, .ireturn), (64, .aload_n 0), (65, .getfield 37), (68, .invokevirtual 138), (71, .ireturn), (72, .aload_n 0), (73, .getfield 37), (76, .invokevirtual 141), (79, .ireturn), (80, .aload_n 0), (81, .getfield 37), (84, .invokevirtual 144), (87, .ireturn), (88, .aload_n 0), (89, .getfield 37), (92, .invokevirtual 147), (95, .ireturn), (96, .aload_n 0), (97, .getfield 46), (100, .invokevirtual 102), (103, .ifCond .eq 13), (106, .aload_n 0), (107, .getfield 46), (110, .invokevirtual 150), (113, .goto 4), (116, .iconst (-1)), (117, .ireturn), (118, .aload_n 0), (119, .getfield 46), (122, .invokevirtual 102), (125, .ifCond .eq 13), (128, .aload_n 0), (129, .getfield 46), (132, .invokevirtual 153), (135, .goto 5), (138, .bipush 6), (140, .ireturn), (141, .bipush (-2)), (143, .ireturn)])
def mX10_mayBeGranted : mv_M := (yX10_mayBeGranted, cX10_mayBeGranted, 1, (some .boolean), 1, none, tT10, [(0, .iload_n 0), (1, .iconst 1), (2, .if_icmp .lt 14), (5, .iload_n 0), (6, .sipush 5000), (9, .if_icmp .gt 7), (12, .iconst 1), (13, .goto 4), (16, .iconst 0), (17, .ireturn)])
def mX10_leaveRun : mv_M := (yX10_leaveRun, cX10_leaveRun, 1, none, 0, some 7, tT10, [(0, .aload_n 0), (1, .getfield 46), (4, .invokevirtual 64), (7, .aload_n 0), (8, .getfield 37), (11, .invokevirtual 156), (14, .return_)])
def sysX : List mv_M := [mX0_furnish, mX0_giveBackAll, mX0_key, mX0_value, mX0_rank, mX0_lesser, mX0_greater, mX0_rankOf, mX0_beginMaking, mX0_copy, mX0_make, mX0_hang, mX0_over, mX0_made, mX0_surelyFits, mX0_fits, mX0_undo, mX0_beginReaching, mX0_reached, mX0_reach, mX0_giveBackUnreached, mX0_size, mX0_find, mX0_least, mX0_floor, mX0_nth, mX1_translate, mX1_fail, mX1_functions, mX1_mainPart, mX1_passEnd, mX1_bare, mX1_anyNumber, mX1_newFunction, mX1_knownFunction, mX1_block, mX1_statement, mX1_finishStatement, mX1_choice, mX1_repetition, mX1_eachKey, mX1_loopRest, mX1_numberPart, mX1_mapPart, mX1_shortcut, mX1_plain, mX1_argument, mX1_parts, mX2_clear, mX2_add, mX2_forgetCode, mX2_accept, mX2_refuse, mX2_size, mX2_ready, mX2_faultPlace, mX2_hasToken, mX2_token, mX2_behind, mX2_setBehind, mX2_turn, mX2_setTurn, mX2_hasFunction, mX2_addFunction, mX2_addMain, mX2_parameters, mX2_firstWord, mX2_firstToken, mX2_mainWord, mX2_mainToken, mX2_numbers, mX2_emit, mX2_emitHole, mX2_fillHole, mX2_emitted, mX2_wordCount, mX2_word, mX3_at, mX3_at_, mX3_set, mX3_set_, mX3_zero, mX4_begin, mX4_drop, mX4_there, mX4_nextWord, mX4_end, mX4_goOn, mX4_step, mX4_goIf, mX4_call, mX4_nextKey, mX5_clear, mX5_begin, mX5_forgetCalls, mX5_steps, mX5_addStep, mX5_calls, mX5_mostMade, mX5_toldCount, mX5_told, mX5_variablePlace, mX5_mapPlace, mX5_number, mX5_setNumber, mX5_tree, mX5_push, mX5_pop, mX5_pushMap, mX5_popMap, mX5_comingCell, mX5_comeTo, mX5_enter, mX5_leave, mX5_apply, mX5_tell, mX5_applyToNumbers, mX5_askMap, mX5_pushFloor, mX5_changeMap, mX5_takeParts, mX5_keep, mX5_live, mX5_reachAll, mX6_isStatement, mX6_isNumber, mX6_isMap, mX6_arguments, mX6_maps, mX6_numbers, mX6_word, mX7_put, mX7_without, mX7_union, mX7_unite, mX7_copyTowards, mX7_split, mX7_join, mX8_walk, mX8_openAt, mX8_close, mX8_closeBehind, mX8_setStage, mX8_mayStep, mX8_beginNext, mX8_body, mX8_comeBack, mX8_beginPart, mX8_choice, mX8_repetition, mX8_eachKey, mX8_comeToKey, mX8_answer, mX8_call, mX8_enter, mX8_shortcut, mX8_plain, mX9_length, mX10_init_, mX10_feed, mX10_compile, mX10_place, mX10_code, mX10_start, mX10_run, mX10_interpret, mX10_outSize, mX10_out, mX10_variable, mX10_map, mX10_count, mX10_mayBeGranted, mX10_leaveRun]
def layX : List mv_D := [.inl (7, [3, 4, 5, 6, 8, 9]), .inl (2, [10, 11, 12, 13, 14, 15, 16, 0, 0, 0, 0, 1, 0]), .inl (1, [3, 0, 0, 1]), .inl (0, [17, 18, 19, 20, 21, 22, 23, 24, 0, 0, 0, 0, 0, 0, 0, 1]), .inl (4, [5, 7, 25, 26, 27, 28, 29, 30, 31, 32, 33, 0, 0, 0, 0, 0, 0]), .inl (5, [5, 34, 35, 36, 0, 0]), .inl (3, [3, 6, 1, 0, 0]), .inl (6, [3, 6, 37, 38, 0, 0, 0, 1, 0]), .inr (0, 700), .inr (0, 700), .inr (0, 700), .inr (0, 1500), .inr (0, 8), .inr (0, 8), .inr (0, 8), .inr (0, 803), .inr (0, 803), .inr (0, 803), .inr (0, 803), .inr (0, 803), .inr (0, 803), .inr (0, 803), .inr (0, 803), .inr (0, 158), .inr (0, 54), .inr (0, 850), .inr (0, 425), .inr (2, 425), .inr (0, 25), .inr (0, 25), .inr (0, 25), .inr (0, 300), .inr (0, 402), .inr (0, 402), .inr (0, 402), .inr (0, 425), .inr (0, 425)]
end
section
def tT11 : mv_T := ([(7, 8, 0), (136, 8, 1), (159, 8, 2), (162, 8, 3), (13, 8, 4), (139, 8, 5), (17, 8, 6), (143, 8, 7), (20, 8, 8), (179, 8, 9), (248, 8, 10), (251, 8, 11), (233, 8, 12), (23, 8, 13), (27, 8, 14), (30, 8, 15), (33, 8, 16), (36, 8, 17), (39, 8, 18), (42, 8, 19), (176, 8, 20), (45, 8, 21), (48, 8, 22), (182, 8, 23), (51, 8, 24), (54, 8, 25), (57, 8, 26), (60, 8, 27), (63, 8, 28), (66, 8, 29), (261, 8, 30), (277, 8, 31), (280, 8, 32), (153, 8, 33), (283, 8, 34), (129, 8, 35), (69, 8, 36), (72, 8, 37), (75, 8, 38), (78, 8, 39), (81, 8, 40), (84, 8, 41), (87, 8, 42), (267, 8, 43), (90, 8, 44), (93, 8, 45), (96, 8, 46), (99, 8, 47), (270, 8, 48), (102, 8, 49), (311, 8, 50), (317, 8, 51), (150, 8, 52), (105, 8, 53), (156, 8, 54), (320, 8, 55), (108, 8, 56), (286, 8, 57), (289, 8, 58), (292, 8, 59), (111, 8, 60), (114, 8, 61), (117, 8, 62), (120, 8, 63), (123, 8, 64), (126, 8, 65)], [(254, 2146121005), (255, -2073254261), (256, -2147483648)], [], [(132, 0), (146, 44), (314, 45), (165, 3), (245, 24), (169, 4), (172, 5), (210, 7), (242, 15), (188, 17), (201, 12), (207, 10), (185, 8), (198, 11), (214, 16), (218, 9), (221, 18), (224, 14), (227, 19), (230, 20), (236, 6), (192, 21), (239, 22), (195, 23), (204, 13), (323, 52), (336, 50), (326, 49), (329, 51), (332, 42), (340, 58), (343, 60), (352, 59), (355, 53), (358, 56), (362, 55), (365, 57), (368, 61), (346, 62), (372, 63), (349, 65), (375, 64), (378, 54), (381, 66), (390, 32), (273, 31), (264, 30), (393, 36), (257, 28), (299, 29), (295, 33), (302, 34), (305, 35), (396, 38), (308, 37), (399, 39), (402, 40), (384, 68), (387, 67), (405, 41), (408, 43)])
def mX11_in : mv_M := (yX11_in, cX11_in, 3, (some .boolean), 3, none, tT11, [(0, .iload_n 0), (1, .iload_n 1), (2, .if_icmp .lt 12), (5, .iload_n 0), (6, .iload_n 2), (7, .if_icmp .gt 7), (10, .iconst 1), (11, .goto 4), (14, .iconst 0), (15, .ireturn)])
def mX11_init_ : mv_M := (yX11_init_, cX11_init_, 3, (some .int), 2, some 8, tT11, [(0, .iload_n 2), (1, .iconst 1), (2, .sipush 400), (5, .invokestatic 132), (8, .ifCond .ne 6), (11, .bipush (-2)), (13, .ireturn), (14, .aload_n 0), (15, .iload_n 1), (16, .putfield 129), (19, .aload_n 0), (20, .iload_n 2), (21, .putfield 69), (24, .aload_n 0), (25, .iconst 0), (26, .putfield 136), (29, .aload_n 0), (30, .iconst (-1)), (31, .putfield 13), (34, .aload_n 0), (35, .iconst 0), (36, .putfield 139), (39, .aload_n 0), (40, .iconst 0), (41, .putfield 143), (44, .aload_n 0), (45, .iconst 0), (46, .invokevirtual 146), (49, .aload_n 0), (50, .iconst 0), (51, .putfield 150), (54, .aload_n 0), (55, .iconst 0), (56, .putfield 153), (59, .aload_n 0), (60, .iconst 0), (61, .putfield 156), (64, .aload_n 0), (65, .bipush 6), (67, .putfield 105), (70, .iconst 0), (71, .ireturn)])
def mX11_feed : mv_M := (yX11_feed, cX11_feed, 2, (some .int), 1, some 8, tT11, [(0, .aload_n 0), (1, .getfield 136), (4, .sipush 700), (7, .if_icmp .ne 6), (10, .bipush (-3)), (12, .ireturn), (13, .aload_n 0), (14, .getfield 7), (17, .aload_n 0), (18, .getfield 136), (21, .iload_n 1), (22, .iastore), (23, .aload_n 0), (24, .dup), (25, .getfield 136), (28, .iconst 1), (29, .iadd), (30, .putfield 136), (33, .aload_n 0), (34, .iconst 0), (35, .putfield 139), (38, .aload_n 0), (39, .iconst 0), (40, .putfield 156), (43, .aload_n 0), (44, .bipush 6), (46, .putfield 105), (49, .aload_n 0), (50, .iconst (-1)), (51, .putfield 13), (54, .aload_n 0), (55, .getfield 136), (58, .ireturn)])
def mX11_token : mv_M := (yX11_token, cX11_token, 1, (some .int), 0, some 8, tT11, [(0, .aload_n 0), (1, .getfield 159), (4, .aload_n 0), (5, .getfield 136), (8, .if_icmp .ge 15), (11, .aload_n 0), (12, .getfield 7), (15, .aload_n 0), (16, .getfield 159), (19, .iaload), (20, .goto 4), (23, .iconst (-1)), (24, .ireturn)])
def mX11_wrong : mv_M := (yX11_wrong, cX11_wrong, 2, none, 1, some 8, tT11, [(0, .aload_n 0), (1, .getfield 162), (4, .ifCond .ne 16), (7, .aload_n 0), (8, .iload_n 1), (9, .putfield 162), (12, .aload_n 0), (13, .aload_n 0), (14, .getfield 159), (17, .putfield 13), (20, .return_)])
def mX11_number : mv_M := (yX11_number, cX11_number, 3, (some .int), 1, some 8, tT11, [(0, .aload_n 0), (1, .invokevirtual 165), (4, .istore_n 2), (5, .aload_n 0), (6, .getfield 159), (9, .aload_n 0), (10, .getfield 136), (13, .if_icmp .ne 12), (16, .aload_n 0), (17, .bipush (-11)), (19, .invokevirtual 169), (22, .goto 33), (25, .iload_n 2), (26, .iconst 0), (27, .iload_n 1), (28, .iconst 1), (29, .isub), (30, .invokestatic 132), (33, .ifCond .ne 12), (36, .aload_n 0), (37, .bipush (-12)), (39, .invokevirtual 169), (42, .goto 13), (45, .aload_n 0), (46, .dup), (47, .getfield 159), (50, .iconst 1), (51, .iadd), (52, .putfield 159), (55, .iload_n 2), (56, .ireturn)])
def mX11_known : mv_M := (yX11_known, cX11_known, 2, (some .int), 0, some 8, tT11, [(0, .aload_n 0), (1, .invokevirtual 165), (4, .istore_n 1), (5, .aload_n 0), (6, .getfield 159), (9, .aload_n 0), (10, .getfield 136), (13, .if_icmp .ge 28), (16, .iload_n 1), (17, .iconst 0), (18, .bipush 7), (20, .invokestatic 132), (23, .ifCond .eq 18), (26, .aload_n 0), (27, .getfield 23), (30, .iload_n 1), (31, .baload), (32, .ifCond .ne 9), (35, .aload_n 0), (36, .bipush (-14)), (38, .invokevirtual 169), (41, .aload_n 0), (42, .getfield 162), (45, .ifCond .ne 12), (48, .aload_n 0), (49, .bipush 8), (51, .invokevirtual 172), (54, .goto 4), (57, .iconst 0), (58, .ireturn)])
def mX11_later : mv_M := (yX11_later, cX11_later, 4, none, 3, some 8, tT11, [(0, .aload_n 0), (1, .getfield 36), (4, .aload_n 0), (5, .getfield 176), (8, .iload_n 1), (9, .iastore), (10, .aload_n 0), (11, .getfield 39), (14, .aload_n 0), (15, .getfield 176), (18, .iload_n 2), (19, .iastore), (20, .aload_n 0), (21, .getfield 42), (24, .aload_n 0), (25, .getfield 176), (28, .iload_n 3), (29, .iastore), (30, .aload_n 0), (31, .dup), (32, .getfield 176), (35, .iconst 1), (36, .iadd), (37, .putfield 176), (40, .return_)])
def mX11_lay : mv_M := (yX11_lay, cX11_lay, 2, none, 1, some 8, tT11, [(0, .aload_n 0), (1, .getfield 17), (4, .aload_n 0), (5, .getfield 143), (8, .iload_n 1), (9, .iastore), (10, .aload_n 0), (11, .dup), (12, .getfield 143), (15, .iconst 1), (16, .iadd), (17, .putfield 143), (20, .aload_n 0), (21, .getfield 20), (24, .aload_n 0), (25, .getfield 179), (28, .iload_n 1), (29, .iastore), (30, .aload_n 0), (31, .dup), (32, .getfield 179), (35, .iconst 1), (36, .iadd), (37, .putfield 179), (40, .return_)])
def mX11_mark : mv_M := (yX11_mark, cX11_mark, 1, none, 0, some 8, tT11, [(0, .aload_n 0), (1, .getfield 20), (4, .aload_n 0), (5, .getfield 179), (8, .bipush 30), (10, .iastore), (11, .aload_n 0), (12, .dup), (13, .getfield 179), (16, .iconst 1), (17, .iadd), (18, .putfield 179), (21, .return_)])
def mX11_newHole : mv_M := (yX11_newHole, cX11_newHole, 1, (some .int), 0, some 8, tT11, [(0, .aload_n 0), (1, .dup), (2, .getfield 182), (5, .iconst 1), (6, .iadd), (7, .putfield 182), (10, .aload_n 0), (11, .getfield 182), (14, .iconst 1), (15, .isub), (16, .ireturn)])
def mX11_layHole : mv_M := (yX11_layHole, cX11_layHole, 2, none, 1, some 8, tT11, [(0, .aload_n 0), (1, .getfield 45), (4, .iload_n 1), (5, .aload_n 0), (6, .getfield 143), (9, .iastore), (10, .aload_n 0), (11, .getfield 48), (14, .iload_n 1), (15, .aload_n 0), (16, .getfield 179), (19, .iastore), (20, .aload_n 0), (21, .iconst 0), (22, .invokevirtual 185), (25, .return_)])
def mX11_fill : mv_M := (yX11_fill, cX11_fill, 2, none, 1, some 8, tT11, [(0, .aload_n 0), (1, .getfield 17), (4, .aload_n 0), (5, .getfield 45), (8, .iload_n 1), (9, .iaload), (10, .aload_n 0), (11, .getfield 143), (14, .iastore), (15, .aload_n 0), (16, .getfield 20), (19, .aload_n 0), (20, .getfield 48), (23, .iload_n 1), (24, .iaload), (25, .aload_n 0), (26, .getfield 179), (29, .iastore), (30, .return_)])
def mX11_layBack : mv_M := (yX11_layBack, cX11_layBack, 2, none, 1, some 8, tT11, [(0, .aload_n 0), (1, .getfield 17), (4, .aload_n 0), (5, .getfield 143), (8, .aload_n 0), (9, .getfield 45), (12, .iload_n 1), (13, .iaload), (14, .iastore), (15, .aload_n 0), (16, .dup), (17, .getfield 143), (20, .iconst 1), (21, .iadd), (22, .putfield 143), (25, .aload_n 0), (26, .getfield 20), (29, .aload_n 0), (30, .getfield 179), (33, .aload_n 0), (34, .getfield 48), (37, .iload_n 1), (38, .iaload), (39, .iastore), (40, .aload_n 0), (41, .dup), (42, .getfield 179), (45, .iconst 1), (46, .iadd), (47, .putfield 179), (50, .return_)])
def mX11_remember : mv_M := (yX11_remember, cX11_remember, 2, none, 1, some 8, tT11, [(0, .aload_n 0), (1, .getfield 45), (4, .iload_n 1), (5, .aload_n 0), (6, .getfield 143), (9, .iastore), (10, .aload_n 0), (11, .getfield 48), (14, .iload_n 1), (15, .aload_n 0), (16, .getfield 179), (19, .iastore), (20, .return_)])
def mX11_readAll : mv_M := (yX11_readAll, cX11_readAll, 3, none, 0, some 8, tT11, [(0, .aload_n 0), (1, .getfield 176), (4, .ifCond .le 158), (7, .aload_n 0), (8, .getfield 162), (11, .ifCond .ne 151), (14, .aload_n 0), (15, .dup), (16, .getfield 176), (19, .iconst 1), (20, .isub), (21, .putfield 176), (24, .aload_n 0), (25, .getfield 39), (28, .aload_n 0), (29, .getfield 176), (32, .iaload), (33, .istore_n 1), (34, .aload_n 0), (35, .getfield 42), (38, .aload_n 0), (39, .getfield 176), (42, .iaload), (43, .istore_n 2), (44, .aload_n 0), (45, .getfield 36), (48, .aload_n 0), (49, .getfield 176), (52, .iaload), (53, .tableswitch 101 0 6 #[43, 52, 61, 69, 77, 85, 93]), (96, .aload_n 0), (97, .iload_n 2), (98, .iconst (-1)), (99, .invokevirtual 188), (102, .goto 57), (105, .aload_n 0), (106, .iload_n 2), (107, .iload_n 1), (108, .invokevirtual 188), (111, .goto 48), (114, .aload_n 0), (115, .iload_n 2), (116, .invokevirtual 192), (119, .goto 40), (122, .aload_n 0), (123, .iload_n 2), (124, .invokevirtual 195), (127, .goto 32), (130, .aload_n 0), (131, .iload_n 1), (132, .invokevirtual 185), (135, .goto 24), (138, .aload_n 0), (139, .iload_n 1), (140, .invokevirtual 198), (143, .goto 16), (146, .aload_n 0), (147, .iload_n 1), (148, .invokevirtual 201), (151, .goto 8), (154, .aload_n 0), (155, .iload_n 1), (156, .invokevirtual 204), (159, .goto (-159)), (162, .return_)])
def mX11_isDeep : mv_M := (yX11_isDeep, cX11_isDeep, 2, (some .boolean), 1, some 8, tT11, [(0, .iload_n 1), (1, .bipush 16), (3, .if_icmp .lt 9), (6, .aload_n 0), (7, .bipush (-15)), (9, .invokevirtual 169), (12, .aload_n 0), (13, .getfield 162), (16, .ifCond .eq 7), (19, .iconst 1), (20, .goto 4), (23, .iconst 0), (24, .ireturn)])
def mX11_readStatements : mv_M := (yX11_readStatements, cX11_readStatements, 5, none, 2, some 8, tT11, [(0, .aload_n 0), (1, .invokevirtual 165), (4, .istore_n 3), (5, .aload_n 0), (6, .getfield 159), (9, .aload_n 0), (10, .getfield 136), (13, .if_icmp .ge 27), (16, .iload_n 3), (17, .ifCond .ne 23), (20, .aload_n 0), (21, .dup), (22, .getfield 159), (25, .iconst 1), (26, .iadd), (27, .putfield 159), (30, .iload_n 2), (31, .ifCond .lt 8), (34, .aload_n 0), (35, .iload_n 2), (36, .invokevirtual 201), (39, .return_), (40, .aload_n 0), (41, .getfield 159), (44, .aload_n 0), (45, .getfield 136), (48, .if_icmp .ge 62), (51, .iload_n 3), (52, .iconst 4), (53, .if_icmp .ne 57), (56, .iload_n 2), (57, .ifCond .lt 53), (60, .aload_n 0), (61, .dup), (62, .getfield 159), (65, .iconst 1), (66, .iadd), (67, .putfield 159), (70, .aload_n 0), (71, .invokevirtual 207), (74, .istore 4), (76, .aload_n 0), (77, .bipush 12), (79, .invokevirtual 185), (82, .aload_n 0), (83, .iload 4), (85, .invokevirtual 198), (88, .aload_n 0), (89, .iload_n 2), (90, .invokevirtual 201), (93, .aload_n 0), (94, .bipush 6), (96, .iload 4), (98, .iconst 0), (99, .invokevirtual 210), (102, .aload_n 0), (103, .iconst 0), (104, .iconst 0), (105, .iload_n 1), (106, .invokevirtual 210), (109, .return_), (110, .aload_n 0), (111, .getfield 159), (114, .aload_n 0), (115, .getfield 136), (118, .if_icmp .eq 18), (121, .iload_n 3), (122, .iconst 1), (123, .bipush 9), (125, .invokestatic 132), (128, .ifCond .eq 8), (131, .iload_n 3), (132, .iconst 4), (133, .if_icmp .ne 10), (136, .aload_n 0), (137, .bipush (-11)), (139, .invokevirtual 169), (142, .return_), (143, .aload_n 0), (144, .iload_n 1), (145, .invokevirtual 214), (148, .ifCond .eq 4), (151, .return_), (152, .aload_n 0), (153, .dup), (154, .getfield 159), (157, .iconst 1), (158, .iadd), (159, .putfield 159), (162, .aload_n 0), (163, .invokevirtual 218), (166, .aload_n 0), (167, .iload_n 2), (168, .ifCond .lt 7), (171, .iconst 1), (172, .goto 4), (175, .iconst 0), (176, .iload_n 2), (177, .iload_n 1), (178, .invokevirtual 210), (181, .aload_n 0), (182, .iload_n 3), (183, .iload_n 1), (184, .iconst 1), (185, .iadd), (186, .invokevirtual 221), (189, .return_)])
def mX11_readStatement : mv_M := (yX11_readStatement, cX11_readStatement, 5, none, 2, some 8, tT11, [(0, .iload_n 1), (1, .tableswitch 259 1 8 #[47, 76, 106, 259, 143, 217, 225, 243]), (48, .aload_n 0), (49, .iconst 4), (50, .aload_n 0), (51, .bipush 14), (53, .invokevirtual 172), (56, .iconst 0), (57, .invokevirtual 210), (60, .aload_n 0), (61, .iconst 4), (62, .iconst 3), (63, .iconst 0), (64, .invokevirtual 210), (67, .aload_n 0), (68, .iconst 2), (69, .iconst 0), (70, .iload_n 2), (71, .invokevirtual 210), (74, .goto 226), (77, .aload_n 0), (78, .iconst 4), (79, .aload_n 0), (80, .bipush 6), (82, .invokevirtual 172), (85, .iconst 0), (86, .invokevirtual 210), (89, .aload_n 0), (90, .iconst 4), (91, .bipush 20), (93, .iconst 0), (94, .invokevirtual 210), (97, .aload_n 0), (98, .iconst 3), (99, .iconst 0), (100, .iload_n 2), (101, .invokevirtual 210), (104, .goto 196), (107, .aload_n 0), (108, .invokevirtual 207), (111, .istore_n 3), (112, .aload_n 0), (113, .iconst 1), (114, .iload_n 3), (115, .iload_n 2), (116, .invokevirtual 210), (119, .aload_n 0), (120, .iconst 5), (121, .iload_n 3), (122, .iconst 0), (123, .invokevirtual 210), (126, .aload_n 0), (127, .iconst 4), (128, .bipush 13), (130, .iconst 0), (131, .invokevirtual 210), (134, .aload_n 0), (135, .iconst 2), (136, .iconst 0), (137, .iload_n 2), (138, .invokevirtual 210), (141, .goto 159), (144, .aload_n 0), (145, .invokevirtual 207), (148, .istore_n 3), (149, .aload_n 0), (150, .invokevirtual 207), (153, .istore 4), (155, .aload_n 0), (156, .iload_n 3), (157, .invokevirtual 224), (160, .aload_n 0), (161, .bipush 6), (163, .iload 4), (165, .iconst 0), (166, .invokevirtual 210), (169, .aload_n 0), (170, .bipush 7), (172, .iload_n 3), (173, .iconst 0), (174, .invokevirtual 210), (177, .aload_n 0), (178, .iconst 4), (179, .bipush 12), (181, .iconst 0), (182, .invokevirtual 210), (185, .aload_n 0), (186, .iconst 0), (187, .iconst 0), (188, .iload_n 2), (189, .invokevirtual 210), (192, .aload_n 0), (193, .iconst 5), (194, .iload 4), (196, .iconst 0), (197, .invokevirtual 210), (200, .aload_n 0), (201, .iconst 4), (202, .bipush 13), (204, .iconst 0), (205, .invokevirtual 210), (208, .aload_n 0), (209, .iconst 2), (210, .iconst 0), (211, .iload_n 2), (212, .invokevirtual 210), (215, .goto 85), (218, .aload_n 0), (219, .iload_n 2), (220, .invokevirtual 227), (223, .goto 77), (226, .aload_n 0), (227, .iconst 4), (228, .bipush 15), (230, .iconst 0), (231, .invokevirtual 210), (234, .aload_n 0), (235, .iconst 2), (236, .iconst 0), (237, .iload_n 2), (238, .invokevirtual 210), (241, .goto 59), (244, .aload_n 0), (245, .iconst 4), (246, .bipush 18), (248, .iconst 0), (249, .invokevirtual 210), (252, .aload_n 0), (253, .iload_n 2), (254, .invokevirtual 230), (257, .goto 43), (260, .aload_n 0), (261, .getfield 233), (264, .ifCond .eq 21), (267, .aload_n 0), (268, .iconst 4), (269, .iconst 0), (270, .iconst 0), (271, .invokevirtual 210), (274, .aload_n 0), (275, .iconst 4), (276, .bipush 18), (278, .iconst 0), (279, .invokevirtual 210), (282, .goto 11), (285, .aload_n 0), (286, .iconst 4), (287, .bipush 17), (289, .iconst 0), (290, .invokevirtual 210), (293, .aload_n 0), (294, .iconst 2), (295, .iconst 0), (296, .iload_n 2), (297, .invokevirtual 210), (300, .return_)])
def mX11_readOver : mv_M := (yX11_readOver, cX11_readOver, 7, none, 1, some 8, tT11, [(0, .aload_n 0), (1, .bipush 6), (3, .invokevirtual 172), (6, .istore_n 2), (7, .aload_n 0), (8, .getfield 162), (11, .ifCond .ne 12), (14, .aload_n 0), (15, .bipush 14), (17, .invokevirtual 172), (20, .goto 4), (23, .iconst 0), (24, .istore_n 3), (25, .aload_n 0), (26, .getfield 162), (29, .ifCond .ne 12), (32, .aload_n 0), (33, .bipush 14), (35, .invokevirtual 172), (38, .goto 4), (41, .iconst 0), (42, .istore 4), (44, .aload_n 0), (45, .getfield 162), (48, .ifCond .eq 4), (51, .return_), (52, .aload_n 0), (53, .invokevirtual 207), (56, .istore 5), (58, .aload_n 0), (59, .invokevirtual 207), (62, .istore 6), (64, .aload_n 0), (65, .bipush 19), (67, .invokevirtual 185), (70, .aload_n 0), (71, .iload_n 2), (72, .invokevirtual 185), (75, .aload_n 0), (76, .iload 5), (78, .invokevirtual 224), (81, .aload_n 0), (82, .bipush 29), (84, .invokevirtual 185), (87, .aload_n 0), (88, .iload_n 3), (89, .invokevirtual 185), (92, .aload_n 0), (93, .iload 4), (95, .invokevirtual 185), (98, .aload_n 0), (99, .iload 6), (101, .invokevirtual 198), (104, .aload_n 0), (105, .bipush 6), (107, .iload 6), (109, .iconst 0), (110, .invokevirtual 210), (113, .aload_n 0), (114, .bipush 7), (116, .iload 5), (118, .iconst 0), (119, .invokevirtual 210), (122, .aload_n 0), (123, .iconst 4), (124, .bipush 12), (126, .iconst 0), (127, .invokevirtual 210), (130, .aload_n 0), (131, .iconst 0), (132, .iconst 0), (133, .iload_n 1), (134, .invokevirtual 210), (137, .return_)])
def mX11_readCall : mv_M := (yX11_readCall, cX11_readCall, 4, none, 1, some 8, tT11, [(0, .aload_n 0), (1, .invokevirtual 236), (4, .istore_n 2), (5, .aload_n 0), (6, .getfield 162), (9, .ifCond .eq 4), (12, .return_), (13, .aload_n 0), (14, .iconst 4), (15, .iload_n 2), (16, .iconst 0), (17, .invokevirtual 210), (20, .aload_n 0), (21, .iconst 4), (22, .bipush 16), (24, .iconst 0), (25, .invokevirtual 210), (28, .iconst 0), (29, .istore_n 3), (30, .iload_n 3), (31, .aload_n 0), (32, .getfield 27), (35, .iload_n 2), (36, .iaload), (37, .if_icmp .ge 16), (40, .aload_n 0), (41, .iconst 2), (42, .iconst 0), (43, .iload_n 1), (44, .invokevirtual 210), (47, .iinc 3 1), (50, .goto (-20)), (53, .return_)])
def mX11_readExpression : mv_M := (yX11_readExpression, cX11_readExpression, 5, none, 1, some 8, tT11, [(0, .aload_n 0), (1, .invokevirtual 165), (4, .istore_n 2), (5, .aload_n 0), (6, .getfield 159), (9, .aload_n 0), (10, .getfield 136), (13, .if_icmp .eq 14), (16, .iload_n 2), (17, .bipush 20), (19, .bipush 36), (21, .invokestatic 132), (24, .ifCond .ne 10), (27, .aload_n 0), (28, .bipush (-11)), (30, .invokevirtual 169), (33, .return_), (34, .aload_n 0), (35, .iload_n 1), (36, .invokevirtual 214), (39, .ifCond .eq 4), (42, .return_), (43, .aload_n 0), (44, .dup), (45, .getfield 159), (48, .iconst 1), (49, .iadd), (50, .putfield 159), (53, .aload_n 0), (54, .invokevirtual 218), (57, .iload_n 1), (58, .iconst 1), (59, .iadd), (60, .istore_n 3), (61, .iload_n 2), (62, .bipush 20), (64, .if_icmp .ne 52), (67, .aload_n 0), (68, .getfield 159), (71, .aload_n 0), (72, .getfield 136), (75, .if_icmp .ne 10), (78, .aload_n 0), (79, .bipush (-11)), (81, .invokevirtual 169), (84, .return_), (85, .aload_n 0), (86, .iconst 1), (87, .invokevirtual 185), (90, .aload_n 0), (91, .aload_n 0), (92, .getfield 7), (95, .aload_n 0), (96, .getfield 159), (99, .iaload), (100, .invokevirtual 185), (103, .aload_n 0), (104, .dup), (105, .getfield 159), (108, .iconst 1), (109, .iadd), (110, .putfield 159), (113, .goto 158), (116, .iload_n 2), (117, .bipush 21), (119, .if_icmp .ne 25), (122, .aload_n 0), (123, .bipush 14), (125, .invokevirtual 172), (128, .istore 4), (130, .aload_n 0), (131, .iconst 2), (132, .invokevirtual 185), (135, .aload_n 0), (136, .iload 4), (138, .invokevirtual 185), (141, .goto 130), (144, .iload_n 2), (145, .bipush 30), (147, .if_icmp .ge 36), (150, .aload_n 0), (151, .iconst 4), (152, .iload_n 2), (153, .bipush 18), (155, .isub), (156, .iconst 0), (157, .invokevirtual 210), (160, .aload_n 0), (161, .iconst 2), (162, .iconst 0), (163, .iload_n 3), (164, .invokevirtual 210), (167, .iload_n 2), (168, .bipush 29), (170, .if_icmp .ge 101), (173, .aload_n 0), (174, .iconst 2), (175, .iconst 0), (176, .iload_n 3), (177, .invokevirtual 210), (180, .goto 91), (183, .iload_n 2), (184, .bipush 32), (186, .if_icmp .ge 12), (189, .aload_n 0), (190, .iload_n 2), (191, .iload_n 3), (192, .invokevirtual 239), (195, .goto 76), (198, .iload_n 2), (199, .bipush 36), (201, .if_icmp .ge 65), (204, .aload_n 0), (205, .iconst 4), (206, .iload_n 2), (207, .bipush 7), (209, .isub), (210, .iconst 0), (211, .invokevirtual 210), (214, .iconst 0), (215, .istore 4), (217, .iload 4), (219, .iload_n 2), (220, .bipush 34), (222, .if_icmp .ne 7), (225, .iconst 0), (226, .goto 14), (229, .iload_n 2), (230, .bipush 35), (232, .if_icmp .ne 7), (235, .iconst 2), (236, .goto 4), (239, .iconst 1), (240, .if_icmp .ge 16), (243, .aload_n 0), (244, .iconst 2), (245, .iconst 0), (246, .iload_n 3), (247, .invokevirtual 210), (250, .iinc 4 1), (253, .goto (-36)), (256, .aload_n 0), (257, .iconst 3), (258, .iconst 0), (259, .iload_n 3), (260, .invokevirtual 210), (263, .goto 8), (266, .aload_n 0), (267, .iload_n 3), (268, .invokevirtual 230), (271, .return_)])
def mX11_readEither : mv_M := (yX11_readEither, cX11_readEither, 5, none, 2, some 8, tT11, [(0, .aload_n 0), (1, .invokevirtual 207), (4, .istore_n 3), (5, .aload_n 0), (6, .invokevirtual 207), (9, .istore 4), (11, .aload_n 0), (12, .bipush 6), (14, .iload 4), (16, .iconst 0), (17, .invokevirtual 210), (20, .aload_n 0), (21, .iconst 4), (22, .iload_n 1), (23, .bipush 30), (25, .if_icmp .ne 7), (28, .iconst 0), (29, .goto 4), (32, .iconst 1), (33, .iconst 0), (34, .invokevirtual 210), (37, .aload_n 0), (38, .iconst 4), (39, .iconst 1), (40, .iconst 0), (41, .invokevirtual 210), (44, .aload_n 0), (45, .bipush 6), (47, .iload_n 3), (48, .iconst 0), (49, .invokevirtual 210), (52, .aload_n 0), (53, .iconst 5), (54, .iload 4), (56, .iconst 0), (57, .invokevirtual 210), (60, .aload_n 0), (61, .iconst 4), (62, .bipush 12), (64, .iconst 0), (65, .invokevirtual 210), (68, .aload_n 0), (69, .iconst 4), (70, .bipush 11), (72, .iconst 0), (73, .invokevirtual 210), (76, .aload_n 0), (77, .iconst 4), (78, .bipush 11), (80, .iconst 0), (81, .invokevirtual 210), (84, .aload_n 0), (85, .iconst 2), (86, .iconst 0), (87, .iload_n 2), (88, .invokevirtual 210), (91, .aload_n 0), (92, .iconst 5), (93, .iload_n 3), (94, .iconst 0), (95, .invokevirtual 210), (98, .aload_n 0), (99, .iconst 4), (100, .iload_n 1), (101, .bipush 30), (103, .if_icmp .ne 8), (106, .bipush 13), (108, .goto 5), (111, .bipush 14), (113, .iconst 0), (114, .invokevirtual 210), (117, .aload_n 0), (118, .iconst 2), (119, .iconst 0), (120, .iload_n 2), (121, .invokevirtual 210), (124, .return_)])
def mX11_readMap : mv_M := (yX11_readMap, cX11_readMap, 5, none, 1, some 8, tT11, [(0, .aload_n 0), (1, .invokevirtual 165), (4, .istore_n 2), (5, .aload_n 0), (6, .getfield 159), (9, .aload_n 0), (10, .getfield 136), (13, .if_icmp .eq 14), (16, .iload_n 2), (17, .bipush 40), (19, .bipush 44), (21, .invokestatic 132), (24, .ifCond .ne 10), (27, .aload_n 0), (28, .bipush (-11)), (30, .invokevirtual 169), (33, .return_), (34, .aload_n 0), (35, .iload_n 1), (36, .invokevirtual 214), (39, .ifCond .eq 4), (42, .return_), (43, .aload_n 0), (44, .dup), (45, .getfield 159), (48, .iconst 1), (49, .iadd), (50, .putfield 159), (53, .aload_n 0), (54, .invokevirtual 218), (57, .iload_n 1), (58, .iconst 1), (59, .iadd), (60, .istore_n 3), (61, .iload_n 2), (62, .bipush 40), (64, .if_icmp .ne 26), (67, .aload_n 0), (68, .bipush 6), (70, .invokevirtual 172), (73, .istore 4), (75, .aload_n 0), (76, .bipush 19), (78, .invokevirtual 185), (81, .aload_n 0), (82, .iload 4), (84, .invokevirtual 185), (87, .goto 90), (90, .iload_n 2), (91, .bipush 41), (93, .if_icmp .ne 12), (96, .aload_n 0), (97, .bipush 21), (99, .invokevirtual 185), (102, .goto 75), (105, .aload_n 0), (106, .iconst 4), (107, .iload_n 2), (108, .bipush 20), (110, .isub), (111, .iconst 0), (112, .invokevirtual 210), (115, .iload_n 2), (116, .bipush 44), (118, .if_icmp .ne 10), (121, .aload_n 0), (122, .iconst 3), (123, .iconst 0), (124, .iload_n 3), (125, .invokevirtual 210), (128, .iconst 0), (129, .istore 4), (131, .iload 4), (133, .iload_n 2), (134, .bipush 42), (136, .if_icmp .ne 7), (139, .iconst 2), (140, .goto 14), (143, .iload_n 2), (144, .bipush 43), (146, .if_icmp .ne 7), (149, .iconst 1), (150, .goto 4), (153, .iconst 0), (154, .if_icmp .ge 16), (157, .aload_n 0), (158, .iconst 2), (159, .iconst 0), (160, .iload_n 3), (161, .invokevirtual 210), (164, .iinc 4 1), (167, .goto (-36)), (170, .aload_n 0), (171, .iconst 3), (172, .iconst 0), (173, .iload_n 3), (174, .invokevirtual 210), (177, .return_)])
def mX11_readFunction : mv_M := (yX11_readFunction, cX11_readFunction, 3, none, 0, some 8, tT11, [(0, .aload_n 0), (1, .dup), (2, .getfield 159), (5, .iconst 1), (6, .iadd), (7, .putfield 159), (10, .aload_n 0), (11, .invokevirtual 165), (14, .istore_n 1), (15, .aload_n 0), (16, .getfield 159), (19, .aload_n 0), (20, .getfield 136), (23, .if_icmp .ge 29), (26, .iload_n 1), (27, .iconst 0), (28, .bipush 7), (30, .invokestatic 132), (33, .ifCond .eq 19), (36, .aload_n 0), (37, .getfield 23), (40, .iload_n 1), (41, .baload), (42, .ifCond .eq 10), (45, .aload_n 0), (46, .bipush (-13)), (48, .invokevirtual 169), (51, .return_), (52, .aload_n 0), (53, .bipush 8), (55, .invokevirtual 172), (58, .istore_n 1), (59, .aload_n 0), (60, .getfield 162), (63, .ifCond .eq 4), (66, .return_), (67, .aload_n 0), (68, .iconst 4), (69, .invokevirtual 172), (72, .istore_n 2), (73, .aload_n 0), (74, .getfield 162), (77, .ifCond .eq 4), (80, .return_), (81, .aload_n 0), (82, .getfield 23), (85, .iload_n 1), (86, .iconst 1), (87, .bastore), (88, .aload_n 0), (89, .getfield 27), (92, .iload_n 1), (93, .iload_n 2), (94, .iastore), (95, .aload_n 0), (96, .getfield 30), (99, .iload_n 1), (100, .aload_n 0), (101, .getfield 143), (104, .iastore), (105, .aload_n 0), (106, .getfield 33), (109, .iload_n 1), (110, .aload_n 0), (111, .getfield 179), (114, .iastore), (115, .aload_n 0), (116, .iconst 0), (117, .putfield 233), (120, .aload_n 0), (121, .iconst 4), (122, .bipush 17), (124, .iconst 0), (125, .invokevirtual 210), (128, .aload_n 0), (129, .iconst 4), (130, .iconst 0), (131, .iconst 0), (132, .invokevirtual 210), (135, .aload_n 0), (136, .iconst 4), (137, .iconst 1), (138, .iconst 0), (139, .invokevirtual 210), (142, .aload_n 0), (143, .iconst 0), (144, .iconst 0), (145, .iconst 0), (146, .invokevirtual 210), (149, .aload_n 0), (150, .invokevirtual 242), (153, .return_)])
def mX11_compile : mv_M := (yX11_compile, cX11_compile, 2, (some .int), 0, some 8, tT11, [(0, .aload_n 0), (1, .iconst 0), (2, .putfield 139), (5, .aload_n 0), (6, .iconst 0), (7, .putfield 156), (10, .aload_n 0), (11, .bipush 6), (13, .putfield 105), (16, .aload_n 0), (17, .iconst 0), (18, .putfield 159), (21, .aload_n 0), (22, .iconst 0), (23, .putfield 162), (26, .aload_n 0), (27, .iconst (-1)), (28, .putfield 13), (31, .aload_n 0), (32, .iconst 0), (33, .putfield 143), (36, .aload_n 0), (37, .iconst 0), (38, .putfield 179), (41, .aload_n 0), (42, .iconst 0), (43, .putfield 176), (46, .aload_n 0), (47, .iconst 0), (48, .putfield 182), (51, .iconst 0), (52, .istore_n 1), (53, .iload_n 1), (54, .bipush 8), (56, .if_icmp .ge 16), (59, .aload_n 0), (60, .getfield 23), (63, .iload_n 1), (64, .iconst 0), (65, .bastore), (66, .iinc 1 1), (69, .goto (-16)), (72, .aload_n 0), (73, .getfield 162), (76, .ifCond .ne 30), (79, .aload_n 0), (80, .invokevirtual 165), (83, .bipush 10), (85, .if_icmp .ne 21), (88, .aload_n 0), (89, .getfield 159), (92, .aload_n 0), (93, .getfield 136), (96, .if_icmp .ge 10), (99, .aload_n 0), (100, .invokevirtual 245), (103, .goto (-31)), (106, .aload_n 0), (107, .getfield 162), (110, .ifCond .ne 29), (113, .aload_n 0), (114, .getfield 159), (117, .aload_n 0), (118, .getfield 136), (121, .if_icmp .eq 12), (124, .aload_n 0), (125, .invokevirtual 165), (128, .bipush 11), (130, .if_icmp .eq 9), (133, .aload_n 0), (134, .bipush (-11)), (136, .invokevirtual 169), (139, .aload_n 0), (140, .getfield 162), (143, .ifCond .ne 52), (146, .aload_n 0), (147, .dup), (148, .getfield 159), (151, .iconst 1), (152, .iadd), (153, .putfield 159), (156, .aload_n 0), (157, .aload_n 0), (158, .getfield 143), (161, .putfield 248), (164, .aload_n 0), (165, .aload_n 0), (166, .getfield 179), (169, .putfield 251), (172, .aload_n 0), (173, .iconst 1), (174, .putfield 233), (177, .aload_n 0), (178, .iconst 4), (179, .iconst 0), (180, .iconst 0), (181, .invokevirtual 210), (184, .aload_n 0), (185, .iconst 0), (186, .iconst 0), (187, .iconst 0), (188, .invokevirtual 210), (191, .aload_n 0), (192, .invokevirtual 242), (195, .aload_n 0), (196, .getfield 162), (199, .ifCond .ne 20), (202, .aload_n 0), (203, .getfield 159), (206, .aload_n 0), (207, .getfield 136), (210, .if_icmp .ge 9), (213, .aload_n 0), (214, .bipush (-11)), (216, .invokevirtual 169), (219, .aload_n 0), (220, .getfield 143), (223, .istore_n 1), (224, .aload_n 0), (225, .getfield 162), (228, .ifCond .eq 13), (231, .aload_n 0), (232, .iconst 0), (233, .putfield 143), (236, .aload_n 0), (237, .getfield 162), (240, .ireturn), (241, .iload_n 1), (242, .sipush 1500), (245, .if_icmp .le 11), (248, .aload_n 0), (249, .iconst 0), (250, .putfield 143), (253, .bipush (-16)), (255, .ireturn), (256, .aload_n 0), (257, .iconst 1), (258, .putfield 139), (261, .aload_n 0), (262, .getfield 143), (265, .ireturn)])
def mX11_place : mv_M := (yX11_place, cX11_place, 1, (some .int), 0, some 8, tT11, [(0, .aload_n 0), (1, .getfield 13), (4, .ireturn)])
def mX11_code : mv_M := (yX11_code, cX11_code, 2, (some .int), 1, some 8, tT11, [(0, .aload_n 0), (1, .getfield 139), (4, .ifCond .eq 26), (7, .iload_n 1), (8, .iconst 0), (9, .aload_n 0), (10, .getfield 143), (13, .iconst 1), (14, .isub), (15, .invokestatic 132), (18, .ifCond .eq 12), (21, .aload_n 0), (22, .getfield 17), (25, .iload_n 1), (26, .iaload), (27, .goto 4), (30, .iconst (-1)), (31, .ireturn)])
def mX11_rank : mv_M := (yX11_rank, cX11_rank, 3, (some .int), 2, none, tT11, [(0, .iload_n 0), (1, .iload_n 1), (2, .ixor), (3, .istore_n 2), (4, .iload_n 2), (5, .iload_n 2), (6, .bipush 16), (8, .iushr), (9, .ixor), (10, .istore_n 2), (11, .iload_n 2), (12, .ldc 254), (14, .imul), (15, .istore_n 2), (16, .iload_n 2), (17, .iload_n 2), (18, .bipush 15), (20, .iushr), (21, .ixor), (22, .istore_n 2), (23, .iload_n 2), (24, .ldc 255), (26, .imul), (27, .istore_n 2), (28, .iload_n 2), (29, .iload_n 2), (30, .bipush 16), (32, .iushr), (33, .ixor), (34, .istore_n 2), (35, .iload_n 2), (36, .ldc_w 256), (39, .ixor), (40, .ireturn)])
def mX11_rankOf : mv_M := (yX11_rankOf, cX11_rankOf, 2, (some .int), 1, some 8, tT11, [(0, .aload_n 0), (1, .getfield 51), (4, .iload_n 1), (5, .iaload), (6, .aload_n 0), (7, .getfield 129), (10, .invokestatic 257), (13, .ireturn)])
def mX11_markTree : mv_M := (yX11_markTree, cX11_markTree, 6, none, 1, some 8, tT11, [(0, .iconst 0), (1, .istore_n 2), (2, .iload_n 1), (3, .ifCond .le 29), (6, .aload_n 0), (7, .getfield 63), (10, .iload_n 1), (11, .baload), (12, .ifCond .ne 20), (15, .aload_n 0), (16, .getfield 63), (19, .iload_n 1), (20, .iconst 1), (21, .bastore), (22, .aload_n 0), (23, .getfield 66), (26, .iload_n 2), (27, .iload_n 1), (28, .iastore), (29, .iinc 2 1), (32, .iload_n 2), (33, .ifCond .le 97), (36, .iinc 2 (-1)), (39, .aload_n 0), (40, .getfield 66), (43, .iload_n 2), (44, .iaload), (45, .istore_n 3), (46, .aload_n 0), (47, .dup), (48, .getfield 261), (51, .iconst 1), (52, .iadd), (53, .putfield 261), (56, .iconst 0), (57, .istore 4), (59, .iload 4), (61, .iconst 2), (62, .if_icmp .ge 65), (65, .iload 4), (67, .ifCond .ne 12), (70, .aload_n 0), (71, .getfield 57), (74, .iload_n 3), (75, .iaload), (76, .goto 9), (79, .aload_n 0), (80, .getfield 60), (83, .iload_n 3), (84, .iaload), (85, .istore 5), (87, .iload 5), (89, .ifCond .le 32), (92, .aload_n 0), (93, .getfield 63), (96, .iload 5), (98, .baload), (99, .ifCond .ne 22), (102, .aload_n 0), (103, .getfield 63), (106, .iload 5), (108, .iconst 1), (109, .bastore), (110, .aload_n 0), (111, .getfield 66), (114, .iload_n 2), (115, .iload 5), (117, .iastore), (118, .iinc 2 1), (121, .iinc 4 1), (124, .goto (-65)), (127, .goto (-95)), (130, .return_)])
def mX11_findLive : mv_M := (yX11_findLive, cX11_findLive, 3, none, 1, some 8, tT11, [(0, .aload_n 0), (1, .iconst 0), (2, .putfield 261), (5, .iconst 0), (6, .istore_n 2), (7, .iload_n 2), (8, .sipush 900), (11, .if_icmp .ge 16), (14, .aload_n 0), (15, .getfield 63), (18, .iload_n 2), (19, .iconst 0), (20, .bastore), (21, .iinc 2 1), (24, .goto (-17)), (27, .iconst 0), (28, .istore_n 2), (29, .iload_n 2), (30, .iconst 4), (31, .if_icmp .ge 19), (34, .aload_n 0), (35, .aload_n 0), (36, .getfield 75), (39, .iload_n 2), (40, .iaload), (41, .invokevirtual 264), (44, .iinc 2 1), (47, .goto (-18)), (50, .iconst 0), (51, .istore_n 2), (52, .iload_n 2), (53, .iconst 2), (54, .aload_n 0), (55, .getfield 267), (58, .iconst 1), (59, .iadd), (60, .imul), (61, .if_icmp .ge 23), (64, .iload_n 1), (65, .ifCond .eq 19), (68, .aload_n 0), (69, .aload_n 0), (70, .getfield 81), (73, .iload_n 2), (74, .iaload), (75, .invokevirtual 264), (78, .iinc 2 1), (81, .goto (-29)), (84, .iconst 0), (85, .istore_n 2), (86, .iload_n 2), (87, .aload_n 0), (88, .getfield 270), (91, .if_icmp .ge 36), (94, .iload_n 1), (95, .ifCond .eq 32), (98, .aload_n 0), (99, .aload_n 0), (100, .getfield 90), (103, .iload_n 2), (104, .baload), (105, .ifCond .eq 12), (108, .aload_n 0), (109, .getfield 93), (112, .iload_n 2), (113, .iaload), (114, .goto 4), (117, .iconst 0), (118, .invokevirtual 264), (121, .iinc 2 1), (124, .goto (-38)), (127, .return_)])
def mX11_beginMaking : mv_M := (yX11_beginMaking, cX11_beginMaking, 1, none, 0, some 8, tT11, [(0, .aload_n 0), (1, .iconst 1), (2, .invokevirtual 273), (5, .aload_n 0), (6, .iconst 1), (7, .putfield 277), (10, .aload_n 0), (11, .iconst 0), (12, .putfield 280), (15, .aload_n 0), (16, .iconst 0), (17, .putfield 283), (20, .return_)])
def mX11_cell : mv_M := (yX11_cell, cX11_cell, 6, (some .int), 4, some 8, tT11, [(0, .aload_n 0), (1, .dup), (2, .getfield 280), (5, .iconst 1), (6, .iadd), (7, .putfield 280), (10, .aload_n 0), (11, .getfield 261), (14, .aload_n 0), (15, .getfield 280), (18, .iadd), (19, .aload_n 0), (20, .getfield 69), (23, .if_icmp .le 8), (26, .aload_n 0), (27, .iconst 1), (28, .putfield 283), (31, .aload_n 0), (32, .getfield 283), (35, .ifCond .eq 5), (38, .iconst 0), (39, .ireturn), (40, .aload_n 0), (41, .getfield 63), (44, .aload_n 0), (45, .getfield 277), (48, .baload), (49, .ifCond .eq 16), (52, .aload_n 0), (53, .dup), (54, .getfield 277), (57, .iconst 1), (58, .iadd), (59, .putfield 277), (62, .goto (-22)), (65, .aload_n 0), (66, .getfield 277), (69, .istore 5), (71, .aload_n 0), (72, .dup), (73, .getfield 277), (76, .iconst 1), (77, .iadd), (78, .putfield 277), (81, .aload_n 0), (82, .getfield 51), (85, .iload 5), (87, .iload_n 1), (88, .iastore), (89, .aload_n 0), (90, .getfield 54), (93, .iload 5), (95, .iload_n 2), (96, .iastore), (97, .aload_n 0), (98, .getfield 57), (101, .iload 5), (103, .iload_n 3), (104, .iastore), (105, .aload_n 0), (106, .getfield 60), (109, .iload 5), (111, .iload 4), (113, .iastore), (114, .iload 5), (116, .ireturn)])
def mX11_split : mv_M := (yX11_split, cX11_split, 6, none, 2, some 8, tT11, [(0, .aload_n 0), (1, .getfield 286), (4, .istore_n 3), (5, .iload_n 1), (6, .istore 4), (8, .iload 4), (10, .ifCond .le 68), (13, .aload_n 0), (14, .getfield 51), (17, .iload 4), (19, .iaload), (20, .iload_n 2), (21, .if_icmp .eq 57), (24, .aload_n 0), (25, .getfield 108), (28, .aload_n 0), (29, .getfield 286), (32, .iload 4), (34, .iastore), (35, .aload_n 0), (36, .dup), (37, .getfield 286), (40, .iconst 1), (41, .iadd), (42, .putfield 286), (45, .iload_n 2), (46, .aload_n 0), (47, .getfield 51), (50, .iload 4), (52, .iaload), (53, .if_icmp .ge 13), (56, .aload_n 0), (57, .getfield 57), (60, .iload 4), (62, .iaload), (63, .goto 10), (66, .aload_n 0), (67, .getfield 60), (70, .iload 4), (72, .iaload), (73, .istore 4), (75, .goto (-67)), (78, .aload_n 0), (79, .iload 4), (81, .ifCond .le 13), (84, .aload_n 0), (85, .getfield 57), (88, .iload 4), (90, .iaload), (91, .goto 4), (94, .iconst 0), (95, .putfield 289), (98, .aload_n 0), (99, .iload 4), (101, .ifCond .le 13), (104, .aload_n 0), (105, .getfield 60), (108, .iload 4), (110, .iaload), (111, .goto 4), (114, .iconst 0), (115, .putfield 292), (118, .aload_n 0), (119, .getfield 286), (122, .iload_n 3), (123, .if_icmp .le 114), (126, .aload_n 0), (127, .getfield 283), (130, .ifCond .ne 107), (133, .aload_n 0), (134, .dup), (135, .getfield 286), (138, .iconst 1), (139, .isub), (140, .putfield 286), (143, .aload_n 0), (144, .getfield 108), (147, .aload_n 0), (148, .getfield 286), (151, .iaload), (152, .istore 5), (154, .iload_n 2), (155, .aload_n 0), (156, .getfield 51), (159, .iload 5), (161, .iaload), (162, .if_icmp .ge 39), (165, .aload_n 0), (166, .aload_n 0), (167, .aload_n 0), (168, .getfield 51), (171, .iload 5), (173, .iaload), (174, .aload_n 0), (175, .getfield 54), (178, .iload 5), (180, .iaload), (181, .aload_n 0), (182, .getfield 292), (185, .aload_n 0), (186, .getfield 60), (189, .iload 5), (191, .iaload), (192, .invokevirtual 295), (195, .putfield 292), (198, .goto 36), (201, .aload_n 0), (202, .aload_n 0), (203, .aload_n 0), (204, .getfield 51), (207, .iload 5), (209, .iaload), (210, .aload_n 0), (211, .getfield 54), (214, .iload 5), (216, .iaload), (217, .aload_n 0), (218, .getfield 57), (221, .iload 5), (223, .iaload), (224, .aload_n 0), (225, .getfield 289), (228, .invokevirtual 295), (231, .putfield 289), (234, .goto (-116)), (237, .aload_n 0), (238, .iload_n 3), (239, .putfield 286), (242, .return_)])
def mX11_climb : mv_M := (yX11_climb, cX11_climb, 6, (some .int), 2, some 8, tT11, [(0, .iload_n 2), (1, .istore_n 3), (2, .aload_n 0), (3, .getfield 286), (6, .ifCond .le 103), (9, .aload_n 0), (10, .getfield 283), (13, .ifCond .ne 96), (16, .aload_n 0), (17, .dup), (18, .getfield 286), (21, .iconst 1), (22, .isub), (23, .putfield 286), (26, .aload_n 0), (27, .getfield 108), (30, .aload_n 0), (31, .getfield 286), (34, .iaload), (35, .istore 4), (37, .iload_n 1), (38, .aload_n 0), (39, .getfield 51), (42, .iload 4), (44, .iaload), (45, .if_icmp .ge 7), (48, .iconst 1), (49, .goto 4), (52, .iconst 0), (53, .istore 5), (55, .aload_n 0), (56, .aload_n 0), (57, .getfield 51), (60, .iload 4), (62, .iaload), (63, .aload_n 0), (64, .getfield 54), (67, .iload 4), (69, .iaload), (70, .iload 5), (72, .ifCond .eq 7), (75, .iload_n 3), (76, .goto 10), (79, .aload_n 0), (80, .getfield 57), (83, .iload 4), (85, .iaload), (86, .iload 5), (88, .ifCond .eq 13), (91, .aload_n 0), (92, .getfield 60), (95, .iload 4), (97, .iaload), (98, .goto 4), (101, .iload_n 3), (102, .invokevirtual 295), (105, .istore_n 3), (106, .goto (-104)), (109, .iload_n 3), (110, .ireturn)])
def mX11_put : mv_M := (yX11_put, cX11_put, 7, (some .int), 3, some 8, tT11, [(0, .aload_n 0), (1, .iconst 0), (2, .putfield 286), (5, .iload_n 2), (6, .aload_n 0), (7, .getfield 129), (10, .invokestatic 257), (13, .istore 4), (15, .iload_n 1), (16, .istore 5), (18, .iload 5), (20, .ifCond .le 79), (23, .aload_n 0), (24, .getfield 51), (27, .iload 5), (29, .iaload), (30, .iload_n 2), (31, .if_icmp .eq 68), (34, .aload_n 0), (35, .iload 5), (37, .invokevirtual 299), (40, .iload 4), (42, .if_icmp .lt 57), (45, .aload_n 0), (46, .getfield 108), (49, .aload_n 0), (50, .getfield 286), (53, .iload 5), (55, .iastore), (56, .aload_n 0), (57, .dup), (58, .getfield 286), (61, .iconst 1), (62, .iadd), (63, .putfield 286), (66, .iload_n 2), (67, .aload_n 0), (68, .getfield 51), (71, .iload 5), (73, .iaload), (74, .if_icmp .ge 13), (77, .aload_n 0), (78, .getfield 57), (81, .iload 5), (83, .iaload), (84, .goto 10), (87, .aload_n 0), (88, .getfield 60), (91, .iload 5), (93, .iaload), (94, .istore 5), (96, .goto (-78)), (99, .iconst 0), (100, .istore 6), (102, .iload 5), (104, .ifCond .ne 16), (107, .aload_n 0), (108, .iload_n 2), (109, .iload_n 3), (110, .iconst 0), (111, .iconst 0), (112, .invokevirtual 295), (115, .istore 6), (117, .goto 62), (120, .aload_n 0), (121, .getfield 51), (124, .iload 5), (126, .iaload), (127, .iload_n 2), (128, .if_icmp .ne 28), (131, .aload_n 0), (132, .iload_n 2), (133, .iload_n 3), (134, .aload_n 0), (135, .getfield 57), (138, .iload 5), (140, .iaload), (141, .aload_n 0), (142, .getfield 60), (145, .iload 5), (147, .iaload), (148, .invokevirtual 295), (151, .istore 6), (153, .goto 26), (156, .aload_n 0), (157, .iload 5), (159, .iload_n 2), (160, .invokevirtual 302), (163, .aload_n 0), (164, .iload_n 2), (165, .iload_n 3), (166, .aload_n 0), (167, .getfield 289), (170, .aload_n 0), (171, .getfield 292), (174, .invokevirtual 295), (177, .istore 6), (179, .aload_n 0), (180, .iload_n 2), (181, .iload 6), (183, .invokevirtual 305), (186, .ireturn)])
def mX11_find : mv_M := (yX11_find, cX11_find, 4, (some .int), 2, some 8, tT11, [(0, .iload_n 1), (1, .istore_n 3), (2, .iload_n 3), (3, .ifCond .le 42), (6, .aload_n 0), (7, .getfield 51), (10, .iload_n 3), (11, .iaload), (12, .iload_n 2), (13, .if_icmp .eq 32), (16, .iload_n 2), (17, .aload_n 0), (18, .getfield 51), (21, .iload_n 3), (22, .iaload), (23, .if_icmp .ge 12), (26, .aload_n 0), (27, .getfield 57), (30, .iload_n 3), (31, .iaload), (32, .goto 9), (35, .aload_n 0), (36, .getfield 60), (39, .iload_n 3), (40, .iaload), (41, .istore_n 3), (42, .goto (-40)), (45, .iload_n 3), (46, .ireturn)])
def mX11_without : mv_M := (yX11_without, cX11_without, 9, (some .int), 2, some 8, tT11, [(0, .aload_n 0), (1, .iload_n 1), (2, .iload_n 2), (3, .invokevirtual 308), (6, .ifCond .ne 5), (9, .iload_n 1), (10, .ireturn), (11, .aload_n 0), (12, .iconst 0), (13, .putfield 286), (16, .iload_n 1), (17, .istore_n 3), (18, .aload_n 0), (19, .getfield 51), (22, .iload_n 3), (23, .iaload), (24, .iload_n 2), (25, .if_icmp .eq 52), (28, .aload_n 0), (29, .getfield 108), (32, .aload_n 0), (33, .getfield 286), (36, .iload_n 3), (37, .iastore), (38, .aload_n 0), (39, .dup), (40, .getfield 286), (43, .iconst 1), (44, .iadd), (45, .putfield 286), (48, .iload_n 2), (49, .aload_n 0), (50, .getfield 51), (53, .iload_n 3), (54, .iaload), (55, .if_icmp .ge 12), (58, .aload_n 0), (59, .getfield 57), (62, .iload_n 3), (63, .iaload), (64, .goto 9), (67, .aload_n 0), (68, .getfield 60), (71, .iload_n 3), (72, .iaload), (73, .istore_n 3), (74, .goto (-56)), (77, .aload_n 0), (78, .getfield 286), (81, .istore 4), (83, .aload_n 0), (84, .getfield 57), (87, .iload_n 3), (88, .iaload), (89, .istore 5), (91, .aload_n 0), (92, .getfield 60), (95, .iload_n 3), (96, .iaload), (97, .istore 6), (99, .iload 5), (101, .ifCond .le 103), (104, .iload 6), (106, .ifCond .le 98), (109, .aload_n 0), (110, .iload 5), (112, .invokevirtual 299), (115, .aload_n 0), (116, .iload 6), (118, .invokevirtual 299), (121, .if_icmp .le 7), (124, .iconst 1), (125, .goto 4), (128, .iconst 0), (129, .istore 7), (131, .aload_n 0), (132, .getfield 108), (135, .aload_n 0), (136, .getfield 286), (139, .iload 7), (141, .ifCond .eq 8), (144, .iload 5), (146, .goto 6), (149, .iload 6), (151, .ineg), (152, .iastore), (153, .aload_n 0), (154, .dup), (155, .getfield 286), (158, .iconst 1), (159, .iadd), (160, .putfield 286), (163, .iload 7), (165, .ifCond .eq 13), (168, .aload_n 0), (169, .getfield 60), (172, .iload 5), (174, .iaload), (175, .goto 5), (178, .iload 5), (180, .istore 5), (182, .iload 7), (184, .ifCond .eq 8), (187, .iload 6), (189, .goto 10), (192, .aload_n 0), (193, .getfield 57), (196, .iload 6), (198, .iaload), (199, .istore 6), (201, .goto (-102)), (204, .iload 5), (206, .ifCond .le 8), (209, .iload 5), (211, .goto 5), (214, .iload 6), (216, .istore 7), (218, .aload_n 0), (219, .getfield 286), (222, .iload 4), (224, .if_icmp .le 101), (227, .aload_n 0), (228, .getfield 283), (231, .ifCond .ne 94), (234, .aload_n 0), (235, .dup), (236, .getfield 286), (239, .iconst 1), (240, .isub), (241, .putfield 286), (244, .aload_n 0), (245, .getfield 108), (248, .aload_n 0), (249, .getfield 286), (252, .iaload), (253, .istore 8), (255, .iload 8), (257, .ifCond .le 33), (260, .aload_n 0), (261, .aload_n 0), (262, .getfield 51), (265, .iload 8), (267, .iaload), (268, .aload_n 0), (269, .getfield 54), (272, .iload 8), (274, .iaload), (275, .aload_n 0), (276, .getfield 57), (279, .iload 8), (281, .iaload), (282, .iload 7), (284, .invokevirtual 295), (287, .goto 33), (290, .aload_n 0), (291, .aload_n 0), (292, .getfield 51), (295, .iload 8), (297, .ineg), (298, .iaload), (299, .aload_n 0), (300, .getfield 54), (303, .iload 8), (305, .ineg), (306, .iaload), (307, .iload 7), (309, .aload_n 0), (310, .getfield 60), (313, .iload 8), (315, .ineg), (316, .iaload), (317, .invokevirtual 295), (320, .istore 7), (322, .goto (-104)), (325, .aload_n 0), (326, .iload 4), (328, .putfield 286), (331, .aload_n 0), (332, .iload_n 2), (333, .iload 7), (335, .invokevirtual 305), (338, .ireturn)])
def mX11_union : mv_M := (yX11_union, cX11_union, 11, (some .int), 2, some 8, tT11, [(0, .iconst 0), (1, .istore_n 3), (2, .iload_n 1), (3, .istore 4), (5, .iload_n 2), (6, .istore 5), (8, .iconst 0), (9, .istore 6), (11, .iconst 1), (12, .istore 7), (14, .aload_n 0), (15, .iconst 0), (16, .putfield 286), (19, .aload_n 0), (20, .getfield 283), (23, .ifCond .ne 360), (26, .iload 7), (28, .ifCond .ne 7), (31, .iload_n 3), (32, .ifCond .le 351), (35, .iload 7), (37, .ifCond .eq 33), (40, .iload 4), (42, .ifCond .eq 8), (45, .iload 5), (47, .ifCond .ne 23), (50, .iload 4), (52, .ifCond .ne 8), (55, .iload 5), (57, .goto 5), (60, .iload 4), (62, .istore 6), (64, .iconst 0), (65, .istore 7), (67, .goto (-48)), (70, .iload 7), (72, .ifCond .eq 223), (75, .aload_n 0), (76, .iload 5), (78, .invokevirtual 299), (81, .aload_n 0), (82, .iload 4), (84, .invokevirtual 299), (87, .if_icmp .lt 7), (90, .iconst 1), (91, .goto 4), (94, .iconst 0), (95, .istore 8), (97, .iload 8), (99, .ifCond .eq 8), (102, .iload 5), (104, .goto 5), (107, .iload 4), (109, .istore 9), (111, .aload_n 0), (112, .iload 5), (114, .aload_n 0), (115, .getfield 51), (118, .iload 9), (120, .iaload), (121, .invokevirtual 308), (124, .istore 10), (126, .aload_n 0), (127, .getfield 111), (130, .iload_n 3), (131, .aload_n 0), (132, .getfield 51), (135, .iload 9), (137, .iaload), (138, .iastore), (139, .aload_n 0), (140, .getfield 114), (143, .iload_n 3), (144, .iload 10), (146, .ifCond .le 13), (149, .aload_n 0), (150, .getfield 54), (153, .iload 10), (155, .iaload), (156, .goto 10), (159, .aload_n 0), (160, .getfield 54), (163, .iload 9), (165, .iaload), (166, .iastore), (167, .aload_n 0), (168, .getfield 126), (171, .iload_n 3), (172, .iconst 0), (173, .bastore), (174, .aload_n 0), (175, .iload 8), (177, .ifCond .eq 8), (180, .iload 4), (182, .goto 5), (185, .iload 5), (187, .aload_n 0), (188, .getfield 51), (191, .iload 9), (193, .iaload), (194, .invokevirtual 302), (197, .aload_n 0), (198, .getfield 117), (201, .iload_n 3), (202, .iload 8), (204, .ifCond .eq 10), (207, .aload_n 0), (208, .getfield 292), (211, .goto 10), (214, .aload_n 0), (215, .getfield 60), (218, .iload 9), (220, .iaload), (221, .iastore), (222, .aload_n 0), (223, .getfield 120), (226, .iload_n 3), (227, .iload 8), (229, .ifCond .eq 13), (232, .aload_n 0), (233, .getfield 60), (236, .iload 9), (238, .iaload), (239, .goto 7), (242, .aload_n 0), (243, .getfield 292), (246, .iastore), (247, .iload 8), (249, .ifCond .eq 10), (252, .aload_n 0), (253, .getfield 289), (256, .goto 10), (259, .aload_n 0), (260, .getfield 57), (263, .iload 9), (265, .iaload), (266, .istore 4), (268, .iload 8), (270, .ifCond .eq 13), (273, .aload_n 0), (274, .getfield 57), (277, .iload 9), (279, .iaload), (280, .goto 7), (283, .aload_n 0), (284, .getfield 289), (287, .istore 5), (289, .iinc 3 1), (292, .goto (-273)), (295, .aload_n 0), (296, .getfield 126), (299, .iload_n 3), (300, .iconst 1), (301, .isub), (302, .baload), (303, .ifCond .ne 48), (306, .aload_n 0), (307, .getfield 126), (310, .iload_n 3), (311, .iconst 1), (312, .isub), (313, .iconst 1), (314, .bastore), (315, .aload_n 0), (316, .getfield 123), (319, .iload_n 3), (320, .iconst 1), (321, .isub), (322, .iload 6), (324, .iastore), (325, .aload_n 0), (326, .getfield 117), (329, .iload_n 3), (330, .iconst 1), (331, .isub), (332, .iaload), (333, .istore 4), (335, .aload_n 0), (336, .getfield 120), (339, .iload_n 3), (340, .iconst 1), (341, .isub), (342, .iaload), (343, .istore 5), (345, .iconst 1), (346, .istore 7), (348, .goto (-329)), (351, .iinc 3 (-1)), (354, .aload_n 0), (355, .aload_n 0), (356, .getfield 111), (359, .iload_n 3), (360, .iaload), (361, .aload_n 0), (362, .getfield 114), (365, .iload_n 3), (366, .iaload), (367, .aload_n 0), (368, .getfield 123), (371, .iload_n 3), (372, .iaload), (373, .iload 6), (375, .invokevirtual 295), (378, .istore 6), (380, .goto (-361)), (383, .iload 6), (385, .ireturn)])
def mX11_isMade : mv_M := (yX11_isMade, cX11_isMade, 1, (some .boolean), 0, some 8, tT11, [(0, .aload_n 0), (1, .getfield 283), (4, .ifCond .eq 5), (7, .iconst 0), (8, .ireturn), (9, .aload_n 0), (10, .aload_n 0), (11, .getfield 280), (14, .aload_n 0), (15, .getfield 153), (18, .if_icmp .le 10), (21, .aload_n 0), (22, .getfield 280), (25, .goto 7), (28, .aload_n 0), (29, .getfield 153), (32, .putfield 153), (35, .iconst 1), (36, .ireturn)])
def mX11_sizeOf : mv_M := (yX11_sizeOf, cX11_sizeOf, 5, (some .int), 1, some 8, tT11, [(0, .iconst 0), (1, .istore_n 2), (2, .iconst 0), (3, .istore_n 3), (4, .iload_n 1), (5, .ifCond .le 12), (8, .aload_n 0), (9, .getfield 66), (12, .iconst 0), (13, .iload_n 1), (14, .iastore), (15, .iconst 1), (16, .istore_n 2), (17, .iload_n 2), (18, .ifCond .le 72), (21, .iinc 2 (-1)), (24, .aload_n 0), (25, .getfield 66), (28, .iload_n 2), (29, .iaload), (30, .istore 4), (32, .iinc 3 1), (35, .aload_n 0), (36, .getfield 57), (39, .iload 4), (41, .iaload), (42, .ifCond .le 19), (45, .aload_n 0), (46, .getfield 66), (49, .iload_n 2), (50, .aload_n 0), (51, .getfield 57), (54, .iload 4), (56, .iaload), (57, .iastore), (58, .iinc 2 1), (61, .aload_n 0), (62, .getfield 60), (65, .iload 4), (67, .iaload), (68, .ifCond .le 19), (71, .aload_n 0), (72, .getfield 66), (75, .iload_n 2), (76, .aload_n 0), (77, .getfield 60), (80, .iload 4), (82, .iaload), (83, .iastore), (84, .iinc 2 1), (87, .goto (-70)), (90, .iload_n 3), (91, .ireturn)])
def mX11_above : mv_M := (yX11_above, cX11_above, 7, (some .int), 3, some 8, tT11, [(0, .iload_n 1), (1, .istore 4), (3, .iconst 0), (4, .istore 5), (6, .iload 4), (8, .ifCond .le 66), (11, .iload_n 3), (12, .ifCond .ne 14), (15, .aload_n 0), (16, .getfield 51), (19, .iload 4), (21, .iaload), (22, .iload_n 2), (23, .if_icmp .le 7), (26, .iconst 1), (27, .goto 4), (30, .iconst 0), (31, .istore 6), (33, .iload 6), (35, .ifCond .eq 8), (38, .iload 4), (40, .goto 5), (43, .iload 5), (45, .istore 5), (47, .iload 6), (49, .ifCond .eq 13), (52, .aload_n 0), (53, .getfield 57), (56, .iload 4), (58, .iaload), (59, .goto 10), (62, .aload_n 0), (63, .getfield 60), (66, .iload 4), (68, .iaload), (69, .istore 4), (71, .goto (-65)), (74, .iload 5), (76, .ireturn)])
def mX11_floor : mv_M := (yX11_floor, cX11_floor, 6, (some .int), 2, some 8, tT11, [(0, .iload_n 1), (1, .istore_n 3), (2, .iconst 0), (3, .istore 4), (5, .iload_n 3), (6, .ifCond .le 57), (9, .aload_n 0), (10, .getfield 51), (13, .iload_n 3), (14, .iaload), (15, .iload_n 2), (16, .if_icmp .gt 7), (19, .iconst 1), (20, .goto 4), (23, .iconst 0), (24, .istore 5), (26, .iload 5), (28, .ifCond .eq 7), (31, .iload_n 3), (32, .goto 5), (35, .iload 4), (37, .istore 4), (39, .iload 5), (41, .ifCond .eq 12), (44, .aload_n 0), (45, .getfield 60), (48, .iload_n 3), (49, .iaload), (50, .goto 9), (53, .aload_n 0), (54, .getfield 57), (57, .iload_n 3), (58, .iaload), (59, .istore_n 3), (60, .goto (-55)), (63, .iload 4), (65, .ireturn)])
def mX11_clear : mv_M := (yX11_clear, cX11_clear, 3, none, 1, some 8, tT11, [(0, .iconst 0), (1, .istore_n 2), (2, .iload_n 2), (3, .bipush 8), (5, .if_icmp .ge 16), (8, .aload_n 0), (9, .getfield 72), (12, .iload_n 2), (13, .iconst 0), (14, .iastore), (15, .iinc 2 1), (18, .goto (-16)), (21, .aload_n 0), (22, .getfield 72), (25, .iconst 0), (26, .iload_n 1), (27, .iastore), (28, .iconst 0), (29, .istore_n 2), (30, .iload_n 2), (31, .iconst 4), (32, .if_icmp .ge 16), (35, .aload_n 0), (36, .getfield 75), (39, .iload_n 2), (40, .iconst 0), (41, .iastore), (42, .iinc 2 1), (45, .goto (-15)), (48, .aload_n 0), (49, .iconst 0), (50, .putfield 267), (53, .aload_n 0), (54, .iconst 0), (55, .putfield 270), (58, .aload_n 0), (59, .iconst 0), (60, .putfield 311), (63, .aload_n 0), (64, .invokevirtual 314), (67, .return_)])
def mX11_clearOwn : mv_M := (yX11_clearOwn, cX11_clearOwn, 2, none, 0, some 8, tT11, [(0, .iconst 0), (1, .istore_n 1), (2, .iload_n 1), (3, .bipush 6), (5, .if_icmp .ge 24), (8, .aload_n 0), (9, .getfield 78), (12, .bipush 6), (14, .aload_n 0), (15, .getfield 267), (18, .imul), (19, .iload_n 1), (20, .iadd), (21, .iconst 0), (22, .iastore), (23, .iinc 1 1), (26, .goto (-24)), (29, .aload_n 0), (30, .getfield 81), (33, .iconst 2), (34, .aload_n 0), (35, .getfield 267), (38, .imul), (39, .iconst 0), (40, .iastore), (41, .aload_n 0), (42, .getfield 81), (45, .iconst 2), (46, .aload_n 0), (47, .getfield 267), (50, .imul), (51, .iconst 1), (52, .iadd), (53, .iconst 0), (54, .iastore), (55, .aload_n 0), (56, .getfield 87), (59, .aload_n 0), (60, .getfield 267), (63, .aload_n 0), (64, .getfield 270), (67, .iastore), (68, .return_)])
def mX11_start : mv_M := (yX11_start, cX11_start, 2, (some .int), 1, some 8, tT11, [(0, .aload_n 0), (1, .getfield 139), (4, .ifCond .ne 6), (7, .bipush 6), (9, .ireturn), (10, .aload_n 0), (11, .iload_n 1), (12, .invokevirtual 146), (15, .aload_n 0), (16, .iconst 0), (17, .putfield 150), (20, .aload_n 0), (21, .iconst 0), (22, .putfield 153), (25, .aload_n 0), (26, .aload_n 0), (27, .getfield 248), (30, .putfield 317), (33, .aload_n 0), (34, .iconst 1), (35, .putfield 156), (38, .aload_n 0), (39, .iconst 0), (40, .putfield 320), (43, .aload_n 0), (44, .iconst 1), (45, .putfield 105), (48, .iconst 0), (49, .ireturn)])
def mX11_run : mv_M := (yX11_run, cX11_run, 2, (some .int), 1, some 8, tT11, [(0, .iload_n 1), (1, .iconst 1), (2, .sipush 5000), (5, .invokestatic 132), (8, .ifCond .ne 6), (11, .bipush (-2)), (13, .ireturn), (14, .aload_n 0), (15, .getfield 156), (18, .ifCond .ne 6), (21, .bipush 6), (23, .ireturn), (24, .aload_n 0), (25, .iload_n 1), (26, .invokevirtual 323), (29, .aload_n 0), (30, .getfield 105), (33, .ireturn)])
def mX11_interpret : mv_M := (yX11_interpret, cX11_interpret, 3, (some .int), 2, some 8, tT11, [(0, .iload_n 2), (1, .iconst 1), (2, .sipush 5000), (5, .invokestatic 132), (8, .ifCond .ne 6), (11, .bipush (-2)), (13, .ireturn), (14, .aload_n 0), (15, .getfield 139), (18, .ifCond .ne 6), (21, .bipush 6), (23, .ireturn), (24, .aload_n 0), (25, .iload_n 1), (26, .invokevirtual 146), (29, .aload_n 0), (30, .iconst 0), (31, .putfield 150), (34, .aload_n 0), (35, .iconst 0), (36, .putfield 153), (39, .aload_n 0), (40, .aload_n 0), (41, .getfield 251), (44, .putfield 317), (47, .aload_n 0), (48, .iconst 0), (49, .putfield 156), (52, .aload_n 0), (53, .iconst 1), (54, .putfield 320), (57, .aload_n 0), (58, .iconst 1), (59, .putfield 105), (62, .aload_n 0), (63, .iload_n 2), (64, .invokevirtual 323), (67, .aload_n 0), (68, .getfield 105), (71, .ireturn)])
def mX11_word : mv_M := (yX11_word, cX11_word, 2, (some .int), 1, some 8, tT11, [(0, .aload_n 0), (1, .getfield 320), (4, .ifCond .eq 17), (7, .aload_n 0), (8, .getfield 20), (11, .aload_n 0), (12, .getfield 317), (15, .iload_n 1), (16, .iadd), (17, .iaload), (18, .goto 14), (21, .aload_n 0), (22, .getfield 17), (25, .aload_n 0), (26, .getfield 317), (29, .iload_n 1), (30, .iadd), (31, .iaload), (32, .ireturn)])
def mX11_isStep : mv_M := (yX11_isStep, cX11_isStep, 2, (some .boolean), 0, some 8, tT11, [(0, .aload_n 0), (1, .getfield 320), (4, .ifCond .ne 5), (7, .iconst 1), (8, .ireturn), (9, .aload_n 0), (10, .iconst 0), (11, .invokevirtual 326), (14, .istore_n 1), (15, .iload_n 1), (16, .bipush 30), (18, .if_icmp .eq 16), (21, .iload_n 1), (22, .bipush 29), (24, .if_icmp .ne 14), (27, .aload_n 0), (28, .invokevirtual 329), (31, .ifCond .le 7), (34, .iconst 1), (35, .goto 4), (38, .iconst 0), (39, .ireturn)])
def mX11_nextKey : mv_M := (yX11_nextKey, cX11_nextKey, 2, (some .int), 0, some 8, tT11, [(0, .aload_n 0), (1, .getfield 270), (4, .iconst 1), (5, .isub), (6, .istore_n 1), (7, .aload_n 0), (8, .aload_n 0), (9, .getfield 93), (12, .iload_n 1), (13, .iaload), (14, .aload_n 0), (15, .getfield 99), (18, .iload_n 1), (19, .iaload), (20, .aload_n 0), (21, .getfield 96), (24, .iload_n 1), (25, .baload), (26, .ifCond .ne 7), (29, .iconst 1), (30, .goto 4), (33, .iconst 0), (34, .invokevirtual 332), (37, .ireturn)])
def mX11_go : mv_M := (yX11_go, cX11_go, 4, none, 1, some 8, tT11, [(0, .iload_n 1), (1, .istore_n 2), (2, .aload_n 0), (3, .getfield 105), (6, .iconst 1), (7, .if_icmp .ne 54), (10, .aload_n 0), (11, .invokevirtual 336), (14, .istore_n 3), (15, .iload_n 3), (16, .ifCond .eq 8), (19, .iload_n 2), (20, .ifCond .ne 4), (23, .return_), (24, .iload_n 2), (25, .iload_n 3), (26, .ifCond .eq 7), (29, .iconst 1), (30, .goto 4), (33, .iconst 0), (34, .isub), (35, .istore_n 2), (36, .aload_n 0), (37, .dup), (38, .getfield 150), (41, .iload_n 3), (42, .ifCond .eq 7), (45, .iconst 1), (46, .goto 4), (49, .iconst 0), (50, .iadd), (51, .putfield 150), (54, .aload_n 0), (55, .invokevirtual 340), (58, .goto (-56)), (61, .return_)])
def mX11_push : mv_M := (yX11_push, cX11_push, 2, none, 1, some 8, tT11, [(0, .aload_n 0), (1, .getfield 90), (4, .aload_n 0), (5, .getfield 270), (8, .iconst 0), (9, .bastore), (10, .aload_n 0), (11, .getfield 93), (14, .aload_n 0), (15, .getfield 270), (18, .iload_n 1), (19, .iastore), (20, .aload_n 0), (21, .dup), (22, .getfield 270), (25, .iconst 1), (26, .iadd), (27, .putfield 270), (30, .return_)])
def mX11_pushMap : mv_M := (yX11_pushMap, cX11_pushMap, 2, none, 1, some 8, tT11, [(0, .aload_n 0), (1, .getfield 90), (4, .aload_n 0), (5, .getfield 270), (8, .iconst 1), (9, .bastore), (10, .aload_n 0), (11, .getfield 96), (14, .aload_n 0), (15, .getfield 270), (18, .iconst 0), (19, .bastore), (20, .aload_n 0), (21, .getfield 93), (24, .aload_n 0), (25, .getfield 270), (28, .iload_n 1), (29, .iastore), (30, .aload_n 0), (31, .dup), (32, .getfield 270), (35, .iconst 1), (36, .iadd), (37, .putfield 270), (40, .return_)])
def mX11_pop : mv_M := (yX11_pop, cX11_pop, 1, (some .int), 0, some 8, tT11, [(0, .aload_n 0), (1, .dup), (2, .getfield 270), (5, .iconst 1), (6, .isub), (7, .putfield 270), (10, .aload_n 0), (11, .getfield 93), (14, .aload_n 0), (15, .getfield 270), (18, .iaload), (19, .ireturn)])
def mX11_variable : mv_M := (yX11_variable, cX11_variable, 3, (some .int), 2, some 8, tT11, [(0, .iload_n 2), (1, .ifCond .eq 23), (4, .aload_n 0), (5, .getfield 78), (8, .bipush 6), (10, .aload_n 0), (11, .getfield 267), (14, .imul), (15, .iload_n 1), (16, .iadd), (17, .bipush 8), (19, .isub), (20, .iaload), (21, .goto 9), (24, .aload_n 0), (25, .getfield 72), (28, .iload_n 1), (29, .iaload), (30, .ireturn)])
def mX11_setVariable : mv_M := (yX11_setVariable, cX11_setVariable, 3, none, 2, some 8, tT11, [(0, .iload_n 1), (1, .bipush 8), (3, .if_icmp .ge 13), (6, .aload_n 0), (7, .getfield 72), (10, .iload_n 1), (11, .iload_n 2), (12, .iastore), (13, .goto 21), (16, .aload_n 0), (17, .getfield 78), (20, .bipush 6), (22, .aload_n 0), (23, .getfield 267), (26, .imul), (27, .iload_n 1), (28, .iadd), (29, .bipush 8), (31, .isub), (32, .iload_n 2), (33, .iastore), (34, .return_)])
def mX11_perform : mv_M := (yX11_perform, cX11_perform, 2, none, 0, some 8, tT11, [(0, .aload_n 0), (1, .iconst 0), (2, .invokevirtual 326), (5, .istore_n 1), (6, .iload_n 1), (7, .bipush 30), (9, .if_icmp .ne 16), (12, .aload_n 0), (13, .dup), (14, .getfield 317), (17, .iconst 1), (18, .iadd), (19, .putfield 317), (22, .goto 36), (25, .iload_n 1), (26, .bipush 12), (28, .if_icmp .ge 11), (31, .aload_n 0), (32, .iload_n 1), (33, .invokevirtual 343), (36, .goto 22), (39, .iload_n 1), (40, .bipush 19), (42, .if_icmp .ge 11), (45, .aload_n 0), (46, .iload_n 1), (47, .invokevirtual 346), (50, .goto 8), (53, .aload_n 0), (54, .iload_n 1), (55, .invokevirtual 349), (58, .return_)])
def mX11_end : mv_M := (yX11_end, cX11_end, 2, none, 1, some 8, tT11, [(0, .aload_n 0), (1, .iload_n 1), (2, .putfield 105), (5, .aload_n 0), (6, .dup), (7, .getfield 317), (10, .aload_n 0), (11, .iconst 0), (12, .invokevirtual 326), (15, .bipush 16), (17, .if_icmp .ne 7), (20, .iconst 2), (21, .goto 4), (24, .iconst 1), (25, .iadd), (26, .putfield 317), (29, .return_)])
def mX11_reckon : mv_M := (yX11_reckon, cX11_reckon, 4, none, 1, some 8, tT11, [(0, .iload_n 1), (1, .ifCond .ne 11), (4, .aload_n 0), (5, .iconst 0), (6, .invokevirtual 352), (9, .goto 218), (12, .iload_n 1), (13, .iconst 1), (14, .if_icmp .ne 25), (17, .aload_n 0), (18, .aload_n 0), (19, .iconst 1), (20, .invokevirtual 326), (23, .invokevirtual 355), (26, .aload_n 0), (27, .dup), (28, .getfield 317), (31, .iconst 2), (32, .iadd), (33, .putfield 317), (36, .goto 191), (39, .iload_n 1), (40, .iconst 2), (41, .if_icmp .ne 44), (44, .aload_n 0), (45, .aload_n 0), (46, .aload_n 0), (47, .iconst 1), (48, .invokevirtual 326), (51, .aload_n 0), (52, .iconst 1), (53, .invokevirtual 326), (56, .bipush 7), (58, .if_icmp .le 7), (61, .iconst 1), (62, .goto 4), (65, .iconst 0), (66, .invokevirtual 358), (69, .invokevirtual 355), (72, .aload_n 0), (73, .dup), (74, .getfield 317), (77, .iconst 2), (78, .iadd), (79, .putfield 317), (82, .goto 145), (85, .iload_n 1), (86, .iconst 3), (87, .if_icmp .ne 29), (90, .aload_n 0), (91, .aload_n 0), (92, .iconst 1), (93, .invokevirtual 326), (96, .aload_n 0), (97, .invokevirtual 362), (100, .invokevirtual 365), (103, .aload_n 0), (104, .dup), (105, .getfield 317), (108, .iconst 2), (109, .iadd), (110, .putfield 317), (113, .goto 114), (116, .iload_n 1), (117, .bipush 11), (119, .if_icmp .ne 32), (122, .aload_n 0), (123, .aload_n 0), (124, .invokevirtual 362), (127, .ifCond .ne 7), (130, .iconst 1), (131, .goto 4), (134, .iconst 0), (135, .invokevirtual 355), (138, .aload_n 0), (139, .dup), (140, .getfield 317), (143, .iconst 1), (144, .iadd), (145, .putfield 317), (148, .goto 79), (151, .aload_n 0), (152, .getfield 93), (155, .aload_n 0), (156, .getfield 270), (159, .iconst 1), (160, .isub), (161, .iaload), (162, .istore_n 2), (163, .aload_n 0), (164, .getfield 93), (167, .aload_n 0), (168, .getfield 270), (171, .iconst 2), (172, .isub), (173, .iaload), (174, .istore_n 3), (175, .iload_n 1), (176, .bipush 7), (178, .if_icmp .eq 9), (181, .iload_n 1), (182, .bipush 8), (184, .if_icmp .ne 13), (187, .iload_n 2), (188, .ifCond .ne 9), (191, .aload_n 0), (192, .iconst 2), (193, .invokevirtual 352), (196, .return_), (197, .aload_n 0), (198, .dup), (199, .getfield 270), (202, .iconst 2), (203, .isub), (204, .putfield 270), (207, .aload_n 0), (208, .iload_n 1), (209, .iload_n 3), (210, .iload_n 2), (211, .invokestatic 368), (214, .invokevirtual 355), (217, .aload_n 0), (218, .dup), (219, .getfield 317), (222, .iconst 1), (223, .iadd), (224, .putfield 317), (227, .return_)])
def mX11_of : mv_M := (yX11_of, cX11_of, 3, (some .int), 3, none, tT11, [(0, .iload_n 0), (1, .tableswitch 89 4 9 #[39, 43, 47, 51, 65, 78]), (40, .iload_n 1), (41, .iload_n 2), (42, .iadd), (43, .ireturn), (44, .iload_n 1), (45, .iload_n 2), (46, .isub), (47, .ireturn), (48, .iload_n 1), (49, .iload_n 2), (50, .imul), (51, .ireturn), (52, .iload_n 2), (53, .iconst (-1)), (54, .if_icmp .ne 8), (57, .iload_n 1), (58, .ineg), (59, .goto 6), (62, .iload_n 1), (63, .iload_n 2), (64, .idiv), (65, .ireturn), (66, .iload_n 2), (67, .iconst (-1)), (68, .if_icmp .ne 7), (71, .iconst 0), (72, .goto 6), (75, .iload_n 1), (76, .iload_n 2), (77, .irem), (78, .ireturn), (79, .iload_n 1), (80, .iload_n 2), (81, .if_icmp .ge 7), (84, .iconst 1), (85, .goto 4), (88, .iconst 0), (89, .ireturn), (90, .iload_n 1), (91, .iload_n 2), (92, .if_icmp .ne 7), (95, .iconst 1), (96, .goto 4), (99, .iconst 0), (100, .ireturn)])
def mX11_turn : mv_M := (yX11_turn, cX11_turn, 3, none, 1, some 8, tT11, [(0, .iload_n 1), (1, .tableswitch 220 12 17 #[39, 51, 79, 107, 159, 171]), (40, .aload_n 0), (41, .aload_n 0), (42, .iconst 1), (43, .invokevirtual 326), (46, .putfield 317), (49, .goto 192), (52, .aload_n 0), (53, .aload_n 0), (54, .invokevirtual 362), (57, .ifCond .ne 11), (60, .aload_n 0), (61, .iconst 1), (62, .invokevirtual 326), (65, .goto 9), (68, .aload_n 0), (69, .getfield 317), (72, .iconst 2), (73, .iadd), (74, .putfield 317), (77, .goto 164), (80, .aload_n 0), (81, .aload_n 0), (82, .invokevirtual 362), (85, .ifCond .eq 11), (88, .aload_n 0), (89, .iconst 1), (90, .invokevirtual 326), (93, .goto 9), (96, .aload_n 0), (97, .getfield 317), (100, .iconst 2), (101, .iadd), (102, .putfield 317), (105, .goto 136), (108, .aload_n 0), (109, .getfield 311), (112, .sipush 300), (115, .if_icmp .ne 9), (118, .aload_n 0), (119, .iconst 4), (120, .invokevirtual 352), (123, .return_), (124, .aload_n 0), (125, .getfield 102), (128, .aload_n 0), (129, .getfield 311), (132, .aload_n 0), (133, .invokevirtual 362), (136, .iastore), (137, .aload_n 0), (138, .dup), (139, .getfield 311), (142, .iconst 1), (143, .iadd), (144, .putfield 311), (147, .aload_n 0), (148, .dup), (149, .getfield 317), (152, .iconst 1), (153, .iadd), (154, .putfield 317), (157, .goto 84), (160, .aload_n 0), (161, .aload_n 0), (162, .iconst 1), (163, .invokevirtual 326), (166, .invokevirtual 372), (169, .goto 72), (172, .aload_n 0), (173, .invokevirtual 362), (176, .istore_n 2), (177, .aload_n 0), (178, .aload_n 0), (179, .getfield 87), (182, .aload_n 0), (183, .getfield 267), (186, .iaload), (187, .putfield 270), (190, .aload_n 0), (191, .aload_n 0), (192, .getfield 84), (195, .aload_n 0), (196, .getfield 267), (199, .iaload), (200, .putfield 317), (203, .aload_n 0), (204, .dup), (205, .getfield 267), (208, .iconst 1), (209, .isub), (210, .putfield 267), (213, .aload_n 0), (214, .iload_n 2), (215, .invokevirtual 355), (218, .goto 23), (221, .aload_n 0), (222, .dup), (223, .getfield 270), (226, .iconst 1), (227, .isub), (228, .putfield 270), (231, .aload_n 0), (232, .dup), (233, .getfield 317), (236, .iconst 1), (237, .iadd), (238, .putfield 317), (241, .return_)])
def mX11_call : mv_M := (yX11_call, cX11_call, 4, none, 1, some 8, tT11, [(0, .aload_n 0), (1, .getfield 267), (4, .bipush 24), (6, .if_icmp .ne 9), (9, .aload_n 0), (10, .iconst 3), (11, .invokevirtual 352), (14, .return_), (15, .aload_n 0), (16, .getfield 27), (19, .iload_n 1), (20, .iaload), (21, .istore_n 2), (22, .aload_n 0), (23, .dup), (24, .getfield 270), (27, .iload_n 2), (28, .isub), (29, .putfield 270), (32, .aload_n 0), (33, .dup), (34, .getfield 267), (37, .iconst 1), (38, .iadd), (39, .putfield 267), (42, .aload_n 0), (43, .invokevirtual 314), (46, .iconst 0), (47, .istore_n 3), (48, .iload_n 3), (49, .iload_n 2), (50, .if_icmp .ge 34), (53, .aload_n 0), (54, .getfield 78), (57, .bipush 6), (59, .aload_n 0), (60, .getfield 267), (63, .imul), (64, .iload_n 3), (65, .iadd), (66, .aload_n 0), (67, .getfield 93), (70, .aload_n 0), (71, .getfield 270), (74, .iload_n 3), (75, .iadd), (76, .iaload), (77, .iastore), (78, .iinc 3 1), (81, .goto (-33)), (84, .aload_n 0), (85, .getfield 84), (88, .aload_n 0), (89, .getfield 267), (92, .aload_n 0), (93, .getfield 317), (96, .iconst 2), (97, .iadd), (98, .iastore), (99, .aload_n 0), (100, .aload_n 0), (101, .getfield 320), (104, .ifCond .eq 12), (107, .aload_n 0), (108, .getfield 33), (111, .iload_n 1), (112, .iaload), (113, .goto 9), (116, .aload_n 0), (117, .getfield 30), (120, .iload_n 1), (121, .iaload), (122, .putfield 317), (125, .return_)])
def mX11_mapOf : mv_M := (yX11_mapOf, cX11_mapOf, 2, (some .int), 1, some 8, tT11, [(0, .iload_n 1), (1, .iconst 4), (2, .if_icmp .ge 12), (5, .aload_n 0), (6, .getfield 75), (9, .iload_n 1), (10, .iaload), (11, .goto 18), (14, .aload_n 0), (15, .getfield 81), (18, .iconst 2), (19, .aload_n 0), (20, .getfield 267), (23, .imul), (24, .iload_n 1), (25, .iadd), (26, .iconst 4), (27, .isub), (28, .iaload), (29, .ireturn)])
def mX11_withMaps : mv_M := (yX11_withMaps, cX11_withMaps, 4, none, 1, some 8, tT11, [(0, .iload_n 1), (1, .tableswitch 173 19 29 #[59, 85, 140, 158, 158, 158, 173, 173, 173, 173, 166]), (60, .aload_n 0), (61, .aload_n 0), (62, .aload_n 0), (63, .iconst 1), (64, .invokevirtual 326), (67, .invokevirtual 375), (70, .invokevirtual 378), (73, .aload_n 0), (74, .dup), (75, .getfield 317), (78, .iconst 2), (79, .iadd), (80, .putfield 317), (83, .goto 96), (86, .aload_n 0), (87, .iconst 1), (88, .invokevirtual 326), (91, .istore_n 2), (92, .aload_n 0), (93, .invokevirtual 362), (96, .istore_n 3), (97, .iload_n 2), (98, .iconst 4), (99, .if_icmp .ge 13), (102, .aload_n 0), (103, .getfield 75), (106, .iload_n 2), (107, .iload_n 3), (108, .iastore), (109, .goto 19), (112, .aload_n 0), (113, .getfield 81), (116, .iconst 2), (117, .aload_n 0), (118, .getfield 267), (121, .imul), (122, .iload_n 2), (123, .iadd), (124, .iconst 4), (125, .isub), (126, .iload_n 3), (127, .iastore), (128, .aload_n 0), (129, .dup), (130, .getfield 317), (133, .iconst 2), (134, .iadd), (135, .putfield 317), (138, .goto 41), (141, .aload_n 0), (142, .iconst 0), (143, .invokevirtual 378), (146, .aload_n 0), (147, .dup), (148, .getfield 317), (151, .iconst 1), (152, .iadd), (153, .putfield 317), (156, .goto 23), (159, .aload_n 0), (160, .iload_n 1), (161, .invokevirtual 381), (164, .goto 15), (167, .aload_n 0), (168, .invokevirtual 384), (171, .goto 8), (174, .aload_n 0), (175, .iload_n 1), (176, .invokevirtual 387), (179, .return_)])
def mX11_make : mv_M := (yX11_make, cX11_make, 4, none, 1, some 8, tT11, [(0, .aload_n 0), (1, .getfield 270), (4, .iload_n 1), (5, .bipush 22), (7, .if_icmp .ne 7), (10, .iconst 3), (11, .goto 4), (14, .iconst 2), (15, .isub), (16, .istore_n 2), (17, .aload_n 0), (18, .invokevirtual 390), (21, .iload_n 1), (22, .bipush 22), (24, .if_icmp .ne 32), (27, .aload_n 0), (28, .aload_n 0), (29, .getfield 93), (32, .iload_n 2), (33, .iaload), (34, .aload_n 0), (35, .getfield 93), (38, .iload_n 2), (39, .iconst 1), (40, .iadd), (41, .iaload), (42, .aload_n 0), (43, .getfield 93), (46, .iload_n 2), (47, .iconst 2), (48, .iadd), (49, .iaload), (50, .invokevirtual 393), (53, .goto 48), (56, .iload_n 1), (57, .bipush 23), (59, .if_icmp .ne 24), (62, .aload_n 0), (63, .aload_n 0), (64, .getfield 93), (67, .iload_n 2), (68, .iaload), (69, .aload_n 0), (70, .getfield 93), (73, .iload_n 2), (74, .iconst 1), (75, .iadd), (76, .iaload), (77, .invokevirtual 396), (80, .goto 21), (83, .aload_n 0), (84, .aload_n 0), (85, .getfield 93), (88, .iload_n 2), (89, .iaload), (90, .aload_n 0), (91, .getfield 93), (94, .iload_n 2), (95, .iconst 1), (96, .iadd), (97, .iaload), (98, .invokevirtual 399), (101, .istore_n 3), (102, .aload_n 0), (103, .invokevirtual 402), (106, .ifCond .ne 9), (109, .aload_n 0), (110, .iconst 5), (111, .invokevirtual 352), (114, .return_), (115, .aload_n 0), (116, .iload_n 2), (117, .putfield 270), (120, .aload_n 0), (121, .iload_n 3), (122, .invokevirtual 378), (125, .aload_n 0), (126, .dup), (127, .getfield 317), (130, .iconst 1), (131, .iadd), (132, .putfield 317), (135, .return_)])
def mX11_look : mv_M := (yX11_look, cX11_look, 6, none, 1, some 8, tT11, [(0, .aload_n 0), (1, .getfield 270), (4, .iload_n 1), (5, .bipush 28), (7, .if_icmp .ne 7), (10, .iconst 3), (11, .goto 14), (14, .iload_n 1), (15, .bipush 27), (17, .if_icmp .ne 7), (20, .iconst 1), (21, .goto 4), (24, .iconst 2), (25, .isub), (26, .istore_n 2), (27, .aload_n 0), (28, .getfield 93), (31, .iload_n 2), (32, .iaload), (33, .istore_n 3), (34, .iconst 0), (35, .istore 4), (37, .iload_n 1), (38, .bipush 25), (40, .if_icmp .ne 39), (43, .aload_n 0), (44, .iload_n 3), (45, .aload_n 0), (46, .getfield 93), (49, .iload_n 2), (50, .iconst 1), (51, .iadd), (52, .iaload), (53, .invokevirtual 308), (56, .istore 5), (58, .iload 5), (60, .ifCond .le 13), (63, .aload_n 0), (64, .getfield 54), (67, .iload 5), (69, .iaload), (70, .goto 4), (73, .iconst 0), (74, .istore 4), (76, .goto 91), (79, .iload_n 1), (80, .bipush 26), (82, .if_icmp .ne 29), (85, .aload_n 0), (86, .iload_n 3), (87, .aload_n 0), (88, .getfield 93), (91, .iload_n 2), (92, .iconst 1), (93, .iadd), (94, .iaload), (95, .invokevirtual 308), (98, .ifCond .le 7), (101, .iconst 1), (102, .goto 4), (105, .iconst 0), (106, .istore 4), (108, .goto 59), (111, .iload_n 1), (112, .bipush 27), (114, .if_icmp .ne 13), (117, .aload_n 0), (118, .iload_n 3), (119, .invokevirtual 405), (122, .istore 4), (124, .goto 43), (127, .aload_n 0), (128, .iload_n 3), (129, .aload_n 0), (130, .getfield 93), (133, .iload_n 2), (134, .iconst 1), (135, .iadd), (136, .iaload), (137, .invokevirtual 408), (140, .istore 5), (142, .iload 5), (144, .ifCond .le 13), (147, .aload_n 0), (148, .getfield 51), (151, .iload 5), (153, .iaload), (154, .goto 11), (157, .aload_n 0), (158, .getfield 93), (161, .iload_n 2), (162, .iconst 2), (163, .iadd), (164, .iaload), (165, .istore 4), (167, .aload_n 0), (168, .iload_n 2), (169, .putfield 270), (172, .aload_n 0), (173, .iload 4), (175, .invokevirtual 355), (178, .aload_n 0), (179, .dup), (180, .getfield 317), (183, .iconst 1), (184, .iadd), (185, .putfield 317), (188, .return_)])
def mX11_goOver : mv_M := (yX11_goOver, cX11_goOver, 2, none, 0, some 8, tT11, [(0, .aload_n 0), (1, .invokevirtual 329), (4, .istore_n 1), (5, .iload_n 1), (6, .ifCond .ne 23), (9, .aload_n 0), (10, .dup), (11, .getfield 270), (14, .iconst 1), (15, .isub), (16, .putfield 270), (19, .aload_n 0), (20, .aload_n 0), (21, .iconst 3), (22, .invokevirtual 326), (25, .putfield 317), (28, .return_), (29, .aload_n 0), (30, .getfield 96), (33, .aload_n 0), (34, .getfield 270), (37, .iconst 1), (38, .isub), (39, .iconst 1), (40, .bastore), (41, .aload_n 0), (42, .getfield 99), (45, .aload_n 0), (46, .getfield 270), (49, .iconst 1), (50, .isub), (51, .aload_n 0), (52, .getfield 51), (55, .iload_n 1), (56, .iaload), (57, .iastore), (58, .aload_n 0), (59, .aload_n 0), (60, .iconst 1), (61, .invokevirtual 326), (64, .aload_n 0), (65, .getfield 51), (68, .iload_n 1), (69, .iaload), (70, .invokevirtual 365), (73, .aload_n 0), (74, .aload_n 0), (75, .iconst 2), (76, .invokevirtual 326), (79, .aload_n 0), (80, .getfield 54), (83, .iload_n 1), (84, .iaload), (85, .invokevirtual 365), (88, .aload_n 0), (89, .dup), (90, .getfield 317), (93, .iconst 4), (94, .iadd), (95, .putfield 317), (98, .return_)])
def mX11_outSize : mv_M := (yX11_outSize, cX11_outSize, 1, (some .int), 0, some 8, tT11, [(0, .aload_n 0), (1, .getfield 311), (4, .ireturn)])
def mX11_out : mv_M := (yX11_out, cX11_out, 2, (some .int), 1, some 8, tT11, [(0, .iload_n 1), (1, .iconst 0), (2, .aload_n 0), (3, .getfield 311), (6, .iconst 1), (7, .isub), (8, .invokestatic 132), (11, .ifCond .eq 12), (14, .aload_n 0), (15, .getfield 102), (18, .iload_n 1), (19, .iaload), (20, .goto 4), (23, .iconst 0), (24, .ireturn)])
def mX11_variable_ : mv_M := (yX11_variable_, cX11_variable_, 2, (some .int), 1, some 8, tT11, [(0, .iload_n 1), (1, .iconst 0), (2, .bipush 7), (4, .invokestatic 132), (7, .ifCond .eq 12), (10, .aload_n 0), (11, .getfield 72), (14, .iload_n 1), (15, .iaload), (16, .goto 4), (19, .iconst 0), (20, .ireturn)])
def mX11_map : mv_M := (yX11_map, cX11_map, 7, (some .int), 3, some 8, tT11, [(0, .iload_n 1), (1, .iconst 0), (2, .iconst 3), (3, .invokestatic 132), (6, .ifCond .eq 12), (9, .iload_n 2), (10, .iconst 0), (11, .iconst 3), (12, .invokestatic 132), (15, .ifCond .ne 6), (18, .bipush (-2)), (20, .ireturn), (21, .aload_n 0), (22, .getfield 75), (25, .iload_n 1), (26, .iaload), (27, .istore 4), (29, .iload_n 2), (30, .ifCond .ne 10), (33, .aload_n 0), (34, .iload 4), (36, .invokevirtual 405), (39, .ireturn), (40, .iload_n 2), (41, .iconst 3), (42, .if_icmp .ne 20), (45, .iload 4), (47, .ifCond .le 13), (50, .aload_n 0), (51, .getfield 51), (54, .iload 4), (56, .iaload), (57, .goto 4), (60, .iconst 0), (61, .ireturn), (62, .iload_n 3), (63, .ifCond .ge 7), (66, .iconst 0), (67, .goto 11), (70, .aload_n 0), (71, .iload 4), (73, .iconst 0), (74, .iconst 1), (75, .invokevirtual 332), (78, .istore 5), (80, .iconst 0), (81, .istore 6), (83, .iload 6), (85, .iload_n 3), (86, .if_icmp .ge 30), (89, .iload 5), (91, .ifCond .le 25), (94, .aload_n 0), (95, .iload 4), (97, .aload_n 0), (98, .getfield 51), (101, .iload 5), (103, .iaload), (104, .iconst 0), (105, .invokevirtual 332), (108, .istore 5), (110, .iinc 6 1), (113, .goto (-30)), (116, .iload 5), (118, .ifCond .ne 7), (121, .iconst 0), (122, .goto 25), (125, .iload_n 2), (126, .iconst 1), (127, .if_icmp .ne 13), (130, .aload_n 0), (131, .getfield 51), (134, .iload 5), (136, .iaload), (137, .goto 10), (140, .aload_n 0), (141, .getfield 54), (144, .iload 5), (146, .iaload), (147, .ireturn)])
def mX11_count : mv_M := (yX11_count, cX11_count, 2, (some .int), 1, some 8, tT11, [(0, .iload_n 1), (1, .tableswitch 140 0 7 #[47, 52, 68, 73, 86, 91, 107, 123]), (48, .aload_n 0), (49, .getfield 136), (52, .ireturn), (53, .aload_n 0), (54, .getfield 139), (57, .ifCond .eq 10), (60, .aload_n 0), (61, .getfield 143), (64, .goto 4), (67, .iconst 0), (68, .ireturn), (69, .aload_n 0), (70, .getfield 150), (73, .ireturn), (74, .aload_n 0), (75, .aload_n 0), (76, .getfield 156), (79, .invokevirtual 273), (82, .aload_n 0), (83, .getfield 261), (86, .ireturn), (87, .aload_n 0), (88, .getfield 153), (91, .ireturn), (92, .aload_n 0), (93, .getfield 156), (96, .ifCond .eq 10), (99, .aload_n 0), (100, .getfield 267), (103, .goto 4), (106, .iconst 0), (107, .ireturn), (108, .aload_n 0), (109, .getfield 156), (112, .ifCond .eq 10), (115, .aload_n 0), (116, .getfield 317), (119, .goto 4), (122, .iconst (-1)), (123, .ireturn), (124, .aload_n 0), (125, .getfield 156), (128, .ifCond .eq 10), (131, .aload_n 0), (132, .getfield 105), (135, .goto 5), (138, .bipush 6), (140, .ireturn), (141, .bipush (-2)), (143, .ireturn)])
def sysY : List mv_M := [mX11_in, mX11_init_, mX11_feed, mX11_token, mX11_wrong, mX11_number, mX11_known, mX11_later, mX11_lay, mX11_mark, mX11_newHole, mX11_layHole, mX11_fill, mX11_layBack, mX11_remember, mX11_readAll, mX11_isDeep, mX11_readStatements, mX11_readStatement, mX11_readOver, mX11_readCall, mX11_readExpression, mX11_readEither, mX11_readMap, mX11_readFunction, mX11_compile, mX11_place, mX11_code, mX11_rank, mX11_rankOf, mX11_markTree, mX11_findLive, mX11_beginMaking, mX11_cell, mX11_split, mX11_climb, mX11_put, mX11_find, mX11_without, mX11_union, mX11_isMade, mX11_sizeOf, mX11_above, mX11_floor, mX11_clear, mX11_clearOwn, mX11_start, mX11_run, mX11_interpret, mX11_word, mX11_isStep, mX11_nextKey, mX11_go, mX11_push, mX11_pushMap, mX11_pop, mX11_variable, mX11_setVariable, mX11_perform, mX11_end, mX11_reckon, mX11_of, mX11_turn, mX11_call, mX11_mapOf, mX11_withMaps, mX11_make, mX11_look, mX11_goOver, mX11_outSize, mX11_out, mX11_variable_, mX11_map, mX11_count]
def layY : List mv_D := [.inl (8, [3, 0, 0, 0, 0, 1, 4, 0, 5, 0, 0, 0, 1, 6, 7, 8, 9, 10, 11, 12, 0, 13, 14, 0, 15, 16, 17, 18, 19, 20, 0, 0, 0, 0, 1, 0, 0, 21, 22, 23, 24, 25, 26, 0, 27, 28, 29, 30, 0, 31, 0, 0, 0, 0, 1, 1, 32, 0, 0, 0, 33, 34, 35, 36, 37, 38]), .inr (0, 700), .inr (0, 6000), .inr (0, 8000), .inr (1, 8), .inr (0, 8), .inr (0, 8), .inr (0, 8), .inr (0, 4000), .inr (0, 4000), .inr (0, 4000), .inr (0, 2000), .inr (0, 2000), .inr (0, 900), .inr (0, 900), .inr (0, 900), .inr (0, 900), .inr (1, 900), .inr (0, 900), .inr (0, 8), .inr (0, 4), .inr (0, 150), .inr (0, 50), .inr (0, 25), .inr (0, 25), .inr (1, 4000), .inr (0, 4000), .inr (1, 4000), .inr (0, 4000), .inr (0, 300), .inr (0, 900), .inr (0, 900), .inr (0, 900), .inr (0, 900), .inr (0, 900), .inr (0, 900), .inr (1, 900)]
end
section
theorem okT0 : mv_Tchk RX0 tT0 sysX [209, 210, 211, 212, 213, 214, 215, 216, 217, 218, 219, 220, 221, 222, 223, 224] [840, 841, 842] [1124] [686, 690, 788, 792, 796, 870, 871, 959, 1125] = true := by decide +kernel
theorem okT1 : mv_Tchk RX1 tT1 sysX [190, 191, 192, 193] [] [] [476, 477, 481, 485, 489, 493, 497, 501, 505, 509, 513, 516, 520, 524, 528, 531, 535, 539, 544, 548, 552, 556, 560, 564, 568, 571, 575, 578, 594, 597, 600, 604, 608, 612, 616, 620, 624, 628, 632, 636, 640, 644, 648] = true := by decide +kernel
theorem okT2 : mv_Tchk RX2 tT2 sysX [143, 144, 145, 146, 147, 148, 149, 150, 151, 152, 153, 154, 155] [] [] [429, 456, 543, 582, 583, 587, 588, 591, 668] = true := by decide +kernel
theorem okT3 : mv_Tchk RX3 tT3 sysX [] [] [] [] = true := by decide +kernel
theorem okT4 : mv_Tchk RX4 tT4 sysX [348, 349, 350, 351, 352] [] [] [699, 718, 722, 726, 727, 730, 735, 739, 743, 744, 761, 765, 773, 777, 800, 804, 816] = true := by decide +kernel
theorem okT5 : mv_Tchk RX5 tT5 sysX [290, 291, 292, 293, 294, 295, 296, 297, 298, 299, 300, 301, 302, 303, 304, 305, 306] [] [937] [441, 444, 681, 682, 694, 734, 748, 752, 756, 760, 769, 781, 784, 808, 809, 812, 820, 824, 828, 832, 872, 884, 898, 902, 906, 910, 911, 915, 919, 923, 924, 928, 932, 933, 938, 942, 946, 950, 954, 955, 960, 964, 1138] = true := by decide +kernel
theorem okT6 : mv_Tchk RX6 tT6 sysX [] [] [] [] = true := by decide +kernel
theorem okT7 : mv_Tchk RX7 tT7 sysX [270, 271, 272, 273, 274, 275] [] [] [836, 843, 844, 848, 852, 856, 860, 861, 862, 866, 876, 880, 888, 892, 893, 897] = true := by decide +kernel
theorem okT8 : mv_Tchk RX8 tT8 sysX [370, 371, 372, 373, 374, 375, 376, 377, 378] [985] [] [976, 980, 984, 986, 987, 988, 992, 996, 1000, 1001, 1005, 1009, 1013, 1017, 1018, 1019, 1023, 1027, 1031, 1032, 1036, 1037, 1041, 1045, 1049, 1053, 1054, 1055, 1059, 1060, 1061, 1062, 1066, 1070, 1071, 1075, 1076, 1080, 1084, 1085, 1089, 1090, 1091, 1092] = true := by decide +kernel
theorem okT9 : mv_Tchk RX9 tT9 sysX [] [] [] [] = true := by decide +kernel
theorem okT10 : mv_Tchk RX10 tT10 sysX [402, 403, 404, 405, 406, 407] [] [] [398, 425, 433, 437, 452, 459, 463, 464, 472, 656, 664, 673, 677, 695, 707, 710, 714, 972, 1097, 1105, 1113, 1118, 1119, 1120, 1126, 1127, 1132, 1133, 1134, 1142, 1146, 1147, 1151] = true := by decide +kernel
theorem okD_mX0_furnish : mv_dchk mX0_furnish = true := by decide +kernel
theorem ok_mX0_furnish : mv_mok sysX mX0_furnish := mv_mok_of (hc := 401) (h2 := 399) (h3 := 400) (hi := 120) okD_mX0_furnish (mv_Tok_of okT0) (by decide +kernel)
theorem okD_mX0_giveBackAll : mv_dchk mX0_giveBackAll = true := by decide +kernel
theorem ok_mX0_giveBackAll : mv_mok sysX mX0_giveBackAll := mv_mok_of (hc := 685) (h2 := 683) (h3 := 684) (hi := 120) okD_mX0_giveBackAll (mv_Tok_of okT0) (by decide +kernel)
theorem okD_mX0_key : mv_dchk mX0_key = true := by decide +kernel
theorem ok_mX0_key : mv_mok sysX mX0_key := mv_mok_of (hc := 791) (h2 := 789) (h3 := 790) (hi := 120) okD_mX0_key (mv_Tok_of okT0) (by decide +kernel)
theorem okD_mX0_value : mv_dchk mX0_value = true := by decide +kernel
theorem ok_mX0_value : mv_mok sysX mX0_value := mv_mok_of (hc := 815) (h2 := 813) (h3 := 814) (hi := 120) okD_mX0_value (mv_Tok_of okT0) (by decide +kernel)
theorem okD_mX0_rank : mv_dchk mX0_rank = true := by decide +kernel
theorem ok_mX0_rank : mv_mok sysX mX0_rank := mv_mok_of (hc := 847) (h2 := 845) (h3 := 846) (hi := 120) okD_mX0_rank (mv_Tok_of okT0) (by decide +kernel)
theorem okD_mX0_lesser : mv_dchk mX0_lesser = true := by decide +kernel
theorem ok_mX0_lesser : mv_mok sysX mX0_lesser := mv_mok_of (hc := 795) (h2 := 793) (h3 := 794) (hi := 120) okD_mX0_lesser (mv_Tok_of okT0) (by decide +kernel)
theorem okD_mX0_greater : mv_dchk mX0_greater = true := by decide +kernel
theorem ok_mX0_greater : mv_mok sysX mX0_greater := mv_mok_of (hc := 799) (h2 := 797) (h3 := 798) (hi := 120) okD_mX0_greater (mv_Tok_of okT0) (by decide +kernel)
theorem okD_mX0_rankOf : mv_dchk mX0_rankOf = true := by decide +kernel
theorem ok_mX0_rankOf : mv_mok sysX mX0_rankOf := mv_mok_of (hc := 839) (h2 := 837) (h3 := 838) (hi := 120) okD_mX0_rankOf (mv_Tok_of okT0) (by decide +kernel)
theorem okD_mX0_beginMaking : mv_dchk mX0_beginMaking = true := by decide +kernel
theorem ok_mX0_beginMaking : mv_mok sysX mX0_beginMaking := mv_mok_of (hc := 831) (h2 := 829) (h3 := 830) (hi := 120) okD_mX0_beginMaking (mv_Tok_of okT0) (by decide +kernel)
theorem okD_mX0_copy : mv_dchk mX0_copy = true := by decide +kernel
theorem ok_mX0_copy : mv_mok sysX mX0_copy := mv_mok_of (hc := 855) (h2 := 853) (h3 := 854) (hi := 120) okD_mX0_copy (mv_Tok_of okT0) (by decide +kernel)
theorem okD_mX0_make : mv_dchk mX0_make = true := by decide +kernel
theorem ok_mX0_make : mv_mok sysX mX0_make := mv_mok_of (hc := 869) (h2 := 867) (h3 := 868) (hi := 120) okD_mX0_make (mv_Tok_of okT0) (by decide +kernel)
theorem okD_mX0_hang : mv_dchk mX0_hang = true := by decide +kernel
theorem ok_mX0_hang : mv_mok sysX mX0_hang := mv_mok_of (hc := 859) (h2 := 857) (h3 := 858) (hi := 120) okD_mX0_hang (mv_Tok_of okT0) (by decide +kernel)
theorem okD_mX0_over : mv_dchk mX0_over = true := by decide +kernel
theorem ok_mX0_over : mv_mok sysX mX0_over := mv_mok_of (hc := 896) (h2 := 894) (h3 := 895) (hi := 120) okD_mX0_over (mv_Tok_of okT0) (by decide +kernel)
theorem okD_mX0_made : mv_dchk mX0_made = true := by decide +kernel
theorem ok_mX0_made : mv_mok sysX mX0_made := mv_mok_of (hc := 927) (h2 := 925) (h3 := 926) (hi := 120) okD_mX0_made (mv_Tok_of okT0) (by decide +kernel)
theorem okD_mX0_surelyFits : mv_dchk mX0_surelyFits = true := by decide +kernel
theorem ok_mX0_surelyFits : mv_mok sysX mX0_surelyFits := mv_mok_of (hc := 905) (h2 := 903) (h3 := 904) (hi := 120) okD_mX0_surelyFits (mv_Tok_of okT0) (by decide +kernel)
theorem okD_mX0_fits : mv_dchk mX0_fits = true := by decide +kernel
theorem ok_mX0_fits : mv_mok sysX mX0_fits := mv_mok_of (hc := 918) (h2 := 916) (h3 := 917) (hi := 120) okD_mX0_fits (mv_Tok_of okT0) (by decide +kernel)
theorem okD_mX0_undo : mv_dchk mX0_undo = true := by decide +kernel
theorem ok_mX0_undo : mv_mok sysX mX0_undo := mv_mok_of (hc := 922) (h2 := 920) (h3 := 921) (hi := 120) okD_mX0_undo (mv_Tok_of okT0) (by decide +kernel)
theorem okD_mX0_beginReaching : mv_dchk mX0_beginReaching = true := by decide +kernel
theorem ok_mX0_beginReaching : mv_mok sysX mX0_beginReaching := mv_mok_of (hc := 689) (h2 := 687) (h3 := 688) (hi := 120) okD_mX0_beginReaching (mv_Tok_of okT0) (by decide +kernel)
theorem okD_mX0_reached : mv_dchk mX0_reached = true := by decide +kernel
theorem ok_mX0_reached : mv_mok sysX mX0_reached := mv_mok_of (hc := 1141) (h2 := 1139) (h3 := 1140) (hi := 120) okD_mX0_reached (mv_Tok_of okT0) (by decide +kernel)
theorem okD_mX0_reach : mv_dchk mX0_reach = true := by decide +kernel
theorem ok_mX0_reach : mv_mok sysX mX0_reach := mv_mok_of (hc := 914) (h2 := 912) (h3 := 913) (hi := 120) okD_mX0_reach (mv_Tok_of okT0) (by decide +kernel)
theorem okD_mX0_giveBackUnreached : mv_dchk mX0_giveBackUnreached = true := by decide +kernel
theorem ok_mX0_giveBackUnreached : mv_mok sysX mX0_giveBackUnreached := mv_mok_of (hc := 693) (h2 := 691) (h3 := 692) (hi := 120) okD_mX0_giveBackUnreached (mv_Tok_of okT0) (by decide +kernel)
theorem okD_mX0_size : mv_dchk mX0_size = true := by decide +kernel
theorem ok_mX0_size : mv_mok sysX mX0_size := mv_mok_of (hc := 958) (h2 := 956) (h3 := 957) (hi := 120) okD_mX0_size (mv_Tok_of okT0) (by decide +kernel)
theorem okD_mX0_find : mv_dchk mX0_find = true := by decide +kernel
theorem ok_mX0_find : mv_mok sysX mX0_find := mv_mok_of (hc := 879) (h2 := 877) (h3 := 878) (hi := 120) okD_mX0_find (mv_Tok_of okT0) (by decide +kernel)
theorem okD_mX0_least : mv_dchk mX0_least = true := by decide +kernel
theorem ok_mX0_least : mv_mok sysX mX0_least := mv_mok_of (hc := 787) (h2 := 785) (h3 := 786) (hi := 120) okD_mX0_least (mv_Tok_of okT0) (by decide +kernel)
theorem okD_mX0_floor : mv_dchk mX0_floor = true := by decide +kernel
theorem ok_mX0_floor : mv_mok sysX mX0_floor := mv_mok_of (hc := 967) (h2 := 965) (h3 := 966) (hi := 120) okD_mX0_floor (mv_Tok_of okT0) (by decide +kernel)
theorem okD_mX0_nth : mv_dchk mX0_nth = true := by decide +kernel
theorem ok_mX0_nth : mv_mok sysX mX0_nth := mv_mok_of (hc := 1123) (h2 := 1121) (h3 := 1122) (hi := 120) okD_mX0_nth (mv_Tok_of okT0) (by decide +kernel)
theorem okD_mX1_translate : mv_dchk mX1_translate = true := by decide +kernel
theorem ok_mX1_translate : mv_mok sysX mX1_translate := mv_mok_of (hc := 475) (h2 := 473) (h3 := 474) (hi := 119) okD_mX1_translate (mv_Tok_of okT1) (by decide +kernel)
theorem okD_mX1_fail : mv_dchk mX1_fail = true := by decide +kernel
theorem ok_mX1_fail : mv_mok sysX mX1_fail := mv_mok_of (hc := 504) (h2 := 503) (h3 := 4) (hi := 119) okD_mX1_fail (mv_Tok_of okT1) (by decide +kernel)
theorem okD_mX1_functions : mv_dchk mX1_functions = true := by decide +kernel
theorem ok_mX1_functions : mv_mok sysX mX1_functions := mv_mok_of (hc := 480) (h2 := 479) (h3 := 1) (hi := 119) okD_mX1_functions (mv_Tok_of okT1) (by decide +kernel)
theorem okD_mX1_mainPart : mv_dchk mX1_mainPart = true := by decide +kernel
theorem ok_mX1_mainPart : mv_mok sysX mX1_mainPart := mv_mok_of (hc := 635) (h2 := 634) (h3 := 21) (hi := 119) okD_mX1_mainPart (mv_Tok_of okT1) (by decide +kernel)
theorem okD_mX1_passEnd : mv_dchk mX1_passEnd = true := by decide +kernel
theorem ok_mX1_passEnd : mv_mok sysX mX1_passEnd := mv_mok_of (hc := 611) (h2 := 610) (h3 := 16) (hi := 119) okD_mX1_passEnd (mv_Tok_of okT1) (by decide +kernel)
theorem okD_mX1_bare : mv_dchk mX1_bare = true := by decide +kernel
theorem ok_mX1_bare : mv_mok sysX mX1_bare := mv_mok_of (hc := 496) (h2 := 495) (h3 := 3) (hi := 119) okD_mX1_bare (mv_Tok_of okT1) (by decide +kernel)
theorem okD_mX1_anyNumber : mv_dchk mX1_anyNumber = true := by decide +kernel
theorem ok_mX1_anyNumber : mv_mok sysX mX1_anyNumber := mv_mok_of (hc := 563) (h2 := 562) (h3 := 13) (hi := 119) okD_mX1_anyNumber (mv_Tok_of okT1) (by decide +kernel)
theorem okD_mX1_newFunction : mv_dchk mX1_newFunction = true := by decide +kernel
theorem ok_mX1_newFunction : mv_mok sysX mX1_newFunction := mv_mok_of (hc := 488) (h2 := 487) (h3 := 2) (hi := 119) okD_mX1_newFunction (mv_Tok_of okT1) (by decide +kernel)
theorem okD_mX1_knownFunction : mv_dchk mX1_knownFunction = true := by decide +kernel
theorem ok_mX1_knownFunction : mv_mok sysX mX1_knownFunction := mv_mok_of (hc := 559) (h2 := 558) (h3 := 12) (hi := 119) okD_mX1_knownFunction (mv_Tok_of okT1) (by decide +kernel)
theorem okD_mX1_block : mv_dchk mX1_block = true := by decide +kernel
theorem ok_mX1_block : mv_mok sysX mX1_block := mv_mok_of (hc := 512) (h2 := 511) (h3 := 5) (hi := 119) okD_mX1_block (mv_Tok_of okT1) (by decide +kernel)
theorem okD_mX1_statement : mv_dchk mX1_statement = true := by decide +kernel
theorem ok_mX1_statement : mv_mok sysX mX1_statement := mv_mok_of (hc := 519) (h2 := 518) (h3 := 6) (hi := 119) okD_mX1_statement (mv_Tok_of okT1) (by decide +kernel)
theorem okD_mX1_finishStatement : mv_dchk mX1_finishStatement = true := by decide +kernel
theorem ok_mX1_finishStatement : mv_mok sysX mX1_finishStatement := mv_mok_of (hc := 631) (h2 := 630) (h3 := 20) (hi := 119) okD_mX1_finishStatement (mv_Tok_of okT1) (by decide +kernel)
theorem okD_mX1_choice : mv_dchk mX1_choice = true := by decide +kernel
theorem ok_mX1_choice : mv_mok sysX mX1_choice := mv_mok_of (hc := 523) (h2 := 522) (h3 := 7) (hi := 119) okD_mX1_choice (mv_Tok_of okT1) (by decide +kernel)
theorem okD_mX1_repetition : mv_dchk mX1_repetition = true := by decide +kernel
theorem ok_mX1_repetition : mv_mok sysX mX1_repetition := mv_mok_of (hc := 615) (h2 := 614) (h3 := 17) (hi := 119) okD_mX1_repetition (mv_Tok_of okT1) (by decide +kernel)
theorem okD_mX1_eachKey : mv_dchk mX1_eachKey = true := by decide +kernel
theorem ok_mX1_eachKey : mv_mok sysX mX1_eachKey := mv_mok_of (hc := 627) (h2 := 626) (h3 := 19) (hi := 119) okD_mX1_eachKey (mv_Tok_of okT1) (by decide +kernel)
theorem okD_mX1_loopRest : mv_dchk mX1_loopRest = true := by decide +kernel
theorem ok_mX1_loopRest : mv_mok sysX mX1_loopRest := mv_mok_of (hc := 623) (h2 := 622) (h3 := 18) (hi := 119) okD_mX1_loopRest (mv_Tok_of okT1) (by decide +kernel)
theorem okD_mX1_numberPart : mv_dchk mX1_numberPart = true := by decide +kernel
theorem ok_mX1_numberPart : mv_mok sysX mX1_numberPart := mv_mok_of (hc := 527) (h2 := 526) (h3 := 8) (hi := 119) okD_mX1_numberPart (mv_Tok_of okT1) (by decide +kernel)
theorem okD_mX1_mapPart : mv_dchk mX1_mapPart = true := by decide +kernel
theorem ok_mX1_mapPart : mv_mok sysX mX1_mapPart := mv_mok_of (hc := 574) (h2 := 573) (h3 := 15) (hi := 119) okD_mX1_mapPart (mv_Tok_of okT1) (by decide +kernel)
theorem okD_mX1_shortcut : mv_dchk mX1_shortcut = true := by decide +kernel
theorem ok_mX1_shortcut : mv_mok sysX mX1_shortcut := mv_mok_of (hc := 534) (h2 := 533) (h3 := 9) (hi := 119) okD_mX1_shortcut (mv_Tok_of okT1) (by decide +kernel)
theorem okD_mX1_plain : mv_dchk mX1_plain = true := by decide +kernel
theorem ok_mX1_plain : mv_mok sysX mX1_plain := mv_mok_of (hc := 551) (h2 := 550) (h3 := 10) (hi := 119) okD_mX1_plain (mv_Tok_of okT1) (by decide +kernel)
theorem okD_mX1_argument : mv_dchk mX1_argument = true := by decide +kernel
theorem ok_mX1_argument : mv_mok sysX mX1_argument := mv_mok_of (hc := 555) (h2 := 554) (h3 := 11) (hi := 119) okD_mX1_argument (mv_Tok_of okT1) (by decide +kernel)
theorem okD_mX1_parts : mv_dchk mX1_parts = true := by decide +kernel
theorem ok_mX1_parts : mv_mok sysX mX1_parts := mv_mok_of (hc := 567) (h2 := 566) (h3 := 14) (hi := 119) okD_mX1_parts (mv_Tok_of okT1) (by decide +kernel)
theorem okD_mX2_clear : mv_dchk mX2_clear = true := by decide +kernel
theorem ok_mX2_clear : mv_mok sysX mX2_clear := mv_mok_of (hc := 428) (h2 := 426) (h3 := 427) (hi := 118) okD_mX2_clear (mv_Tok_of okT2) (by decide +kernel)
theorem okD_mX2_add : mv_dchk mX2_add = true := by decide +kernel
theorem ok_mX2_add : mv_mok sysX mX2_add := mv_mok_of (hc := 455) (h2 := 453) (h3 := 454) (hi := 118) okD_mX2_add (mv_Tok_of okT2) (by decide +kernel)
theorem okD_mX2_forgetCode : mv_dchk mX2_forgetCode = true := by decide +kernel
theorem ok_mX2_forgetCode : mv_mok sysX mX2_forgetCode := mv_mok_of (hc := 432) (h2 := 430) (h3 := 431) (hi := 118) okD_mX2_forgetCode (mv_Tok_of okT2) (by decide +kernel)
theorem okD_mX2_accept : mv_dchk mX2_accept = true := by decide +kernel
theorem ok_mX2_accept : mv_mok sysX mX2_accept := mv_mok_of (hc := 647) (h2 := 645) (h3 := 646) (hi := 118) okD_mX2_accept (mv_Tok_of okT2) (by decide +kernel)
theorem okD_mX2_refuse : mv_dchk mX2_refuse = true := by decide +kernel
theorem ok_mX2_refuse : mv_mok sysX mX2_refuse := mv_mok_of (hc := 643) (h2 := 641) (h3 := 642) (hi := 118) okD_mX2_refuse (mv_Tok_of okT2) (by decide +kernel)
theorem okD_mX2_size : mv_dchk mX2_size = true := by decide +kernel
theorem ok_mX2_size : mv_mok sysX mX2_size := mv_mok_of (hc := 467) (h2 := 465) (h3 := 466) (hi := 118) okD_mX2_size (mv_Tok_of okT2) (by decide +kernel)
theorem okD_mX2_ready : mv_dchk mX2_ready = true := by decide +kernel
theorem ok_mX2_ready : mv_mok sysX mX2_ready := mv_mok_of (hc := 676) (h2 := 674) (h3 := 675) (hi := 118) okD_mX2_ready (mv_Tok_of okT2) (by decide +kernel)
theorem okD_mX2_faultPlace : mv_dchk mX2_faultPlace = true := by decide +kernel
theorem ok_mX2_faultPlace : mv_mok sysX mX2_faultPlace := mv_mok_of (hc := 659) (h2 := 657) (h3 := 658) (hi := 118) okD_mX2_faultPlace (mv_Tok_of okT2) (by decide +kernel)
theorem okD_mX2_hasToken : mv_dchk mX2_hasToken = true := by decide +kernel
theorem ok_mX2_hasToken : mv_mok sysX mX2_hasToken := mv_mok_of (hc := 500) (h2 := 498) (h3 := 499) (hi := 118) okD_mX2_hasToken (mv_Tok_of okT2) (by decide +kernel)
theorem okD_mX2_token : mv_dchk mX2_token = true := by decide +kernel
theorem ok_mX2_token : mv_mok sysX mX2_token := mv_mok_of (hc := 484) (h2 := 482) (h3 := 483) (hi := 118) okD_mX2_token (mv_Tok_of okT2) (by decide +kernel)
theorem okD_mX2_behind : mv_dchk mX2_behind = true := by decide +kernel
theorem ok_mX2_behind : mv_mok sysX mX2_behind := mv_mok_of (hc := 1004) (h2 := 1002) (h3 := 1003) (hi := 118) okD_mX2_behind (mv_Tok_of okT2) (by decide +kernel)
theorem okD_mX2_setBehind : mv_dchk mX2_setBehind = true := by decide +kernel
theorem ok_mX2_setBehind : mv_mok sysX mX2_setBehind := mv_mok_of (hc := 603) (h2 := 601) (h3 := 602) (hi := 118) okD_mX2_setBehind (mv_Tok_of okT2) (by decide +kernel)
theorem okD_mX2_turn : mv_dchk mX2_turn = true := by decide +kernel
theorem ok_mX2_turn : mv_mok sysX mX2_turn := mv_mok_of (hc := 1035) (h2 := 1033) (h3 := 1034) (hi := 118) okD_mX2_turn (mv_Tok_of okT2) (by decide +kernel)
theorem okD_mX2_setTurn : mv_dchk mX2_setTurn = true := by decide +kernel
theorem ok_mX2_setTurn : mv_mok sysX mX2_setTurn := mv_mok_of (hc := 607) (h2 := 605) (h3 := 606) (hi := 118) okD_mX2_setTurn (mv_Tok_of okT2) (by decide +kernel)
theorem okD_mX2_hasFunction : mv_dchk mX2_hasFunction = true := by decide +kernel
theorem ok_mX2_hasFunction : mv_mok sysX mX2_hasFunction := mv_mok_of (hc := 492) (h2 := 490) (h3 := 491) (hi := 118) okD_mX2_hasFunction (mv_Tok_of okT2) (by decide +kernel)
theorem okD_mX2_addFunction : mv_dchk mX2_addFunction = true := by decide +kernel
theorem ok_mX2_addFunction : mv_mok sysX mX2_addFunction := mv_mok_of (hc := 508) (h2 := 506) (h3 := 507) (hi := 118) okD_mX2_addFunction (mv_Tok_of okT2) (by decide +kernel)
theorem okD_mX2_addMain : mv_dchk mX2_addMain = true := by decide +kernel
theorem ok_mX2_addMain : mv_mok sysX mX2_addMain := mv_mok_of (hc := 639) (h2 := 637) (h3 := 638) (hi := 118) okD_mX2_addMain (mv_Tok_of okT2) (by decide +kernel)
theorem okD_mX2_parameters : mv_dchk mX2_parameters = true := by decide +kernel
theorem ok_mX2_parameters : mv_mok sysX mX2_parameters := mv_mok_of (hc := 586) (h2 := 584) (h3 := 585) (hi := 118) okD_mX2_parameters (mv_Tok_of okT2) (by decide +kernel)
theorem okD_mX2_firstWord : mv_dchk mX2_firstWord = true := by decide +kernel
theorem ok_mX2_firstWord : mv_mok sysX mX2_firstWord := mv_mok_of (hc := 764) (h2 := 762) (h3 := 763) (hi := 118) okD_mX2_firstWord (mv_Tok_of okT2) (by decide +kernel)
theorem okD_mX2_firstToken : mv_dchk mX2_firstToken = true := by decide +kernel
theorem ok_mX2_firstToken : mv_mok sysX mX2_firstToken := mv_mok_of (hc := 1079) (h2 := 1077) (h3 := 1078) (hi := 118) okD_mX2_firstToken (mv_Tok_of okT2) (by decide +kernel)
theorem okD_mX2_mainWord : mv_dchk mX2_mainWord = true := by decide +kernel
theorem ok_mX2_mainWord : mv_mok sysX mX2_mainWord := mv_mok_of (hc := 702) (h2 := 700) (h3 := 701) (hi := 118) okD_mX2_mainWord (mv_Tok_of okT2) (by decide +kernel)
theorem okD_mX2_mainToken : mv_dchk mX2_mainToken = true := by decide +kernel
theorem ok_mX2_mainToken : mv_mok sysX mX2_mainToken := mv_mok_of (hc := 979) (h2 := 977) (h3 := 978) (hi := 118) okD_mX2_mainToken (mv_Tok_of okT2) (by decide +kernel)
theorem okD_mX2_numbers : mv_dchk mX2_numbers = true := by decide +kernel
theorem ok_mX2_numbers : mv_mok sysX mX2_numbers := mv_mok_of (hc := 581) (h2 := 579) (h3 := 580) (hi := 118) okD_mX2_numbers (mv_Tok_of okT2) (by decide +kernel)
theorem okD_mX2_emit : mv_dchk mX2_emit = true := by decide +kernel
theorem ok_mX2_emit : mv_mok sysX mX2_emit := mv_mok_of (hc := 538) (h2 := 536) (h3 := 537) (hi := 118) okD_mX2_emit (mv_Tok_of okT2) (by decide +kernel)
theorem okD_mX2_emitHole : mv_dchk mX2_emitHole = true := by decide +kernel
theorem ok_mX2_emitHole : mv_mok sysX mX2_emitHole := mv_mok_of (hc := 542) (h2 := 540) (h3 := 541) (hi := 118) okD_mX2_emitHole (mv_Tok_of okT2) (by decide +kernel)
theorem okD_mX2_fillHole : mv_dchk mX2_fillHole = true := by decide +kernel
theorem ok_mX2_fillHole : mv_mok sysX mX2_fillHole := mv_mok_of (hc := 547) (h2 := 545) (h3 := 546) (hi := 118) okD_mX2_fillHole (mv_Tok_of okT2) (by decide +kernel)
theorem okD_mX2_emitted : mv_dchk mX2_emitted = true := by decide +kernel
theorem ok_mX2_emitted : mv_mok sysX mX2_emitted := mv_mok_of (hc := 619) (h2 := 617) (h3 := 618) (hi := 118) okD_mX2_emitted (mv_Tok_of okT2) (by decide +kernel)
theorem okD_mX2_wordCount : mv_dchk mX2_wordCount = true := by decide +kernel
theorem ok_mX2_wordCount : mv_mok sysX mX2_wordCount := mv_mok_of (hc := 651) (h2 := 649) (h3 := 650) (hi := 118) okD_mX2_wordCount (mv_Tok_of okT2) (by decide +kernel)
theorem okD_mX2_word : mv_dchk mX2_word = true := by decide +kernel
theorem ok_mX2_word : mv_mok sysX mX2_word := mv_mok_of (hc := 667) (h2 := 665) (h3 := 666) (hi := 118) okD_mX2_word (mv_Tok_of okT2) (by decide +kernel)
theorem okD_mX3_at : mv_dchk mX3_at = true := by decide +kernel
theorem ok_mX3_at : mv_mok sysX mX3_at := mv_mok_of (hc := 590) (h2 := 589) (h3 := 0) (hi := 126) okD_mX3_at (mv_Tok_of okT3) (by decide +kernel)
theorem okD_mX3_at_ : mv_dchk mX3_at_ = true := by decide +kernel
theorem ok_mX3_at_ : mv_mok sysX mX3_at_ := mv_mok_of (hc := 783) (h2 := 782) (h3 := 0) (hi := 126) okD_mX3_at_ (mv_Tok_of okT3) (by decide +kernel)
theorem okD_mX3_set : mv_dchk mX3_set = true := by decide +kernel
theorem ok_mX3_set : mv_mok sysX mX3_set := mv_mok_of (hc := 458) (h2 := 457) (h3 := 0) (hi := 126) okD_mX3_set (mv_Tok_of okT3) (by decide +kernel)
theorem okD_mX3_set_ : mv_dchk mX3_set_ = true := by decide +kernel
theorem ok_mX3_set_ : mv_mok sysX mX3_set_ := mv_mok_of (hc := 811) (h2 := 810) (h3 := 0) (hi := 126) okD_mX3_set_ (mv_Tok_of okT3) (by decide +kernel)
theorem okD_mX3_zero : mv_dchk mX3_zero = true := by decide +kernel
theorem ok_mX3_zero : mv_mok sysX mX3_zero := mv_mok_of (hc := 443) (h2 := 442) (h3 := 0) (hi := 126) okD_mX3_zero (mv_Tok_of okT3) (by decide +kernel)
theorem okD_mX4_begin : mv_dchk mX4_begin = true := by decide +kernel
theorem ok_mX4_begin : mv_mok sysX mX4_begin := mv_mok_of (hc := 698) (h2 := 696) (h3 := 697) (hi := 123) okD_mX4_begin (mv_Tok_of okT4) (by decide +kernel)
theorem okD_mX4_drop : mv_dchk mX4_drop = true := by decide +kernel
theorem ok_mX4_drop : mv_mok sysX mX4_drop := mv_mok_of (hc := 436) (h2 := 434) (h3 := 435) (hi := 123) okD_mX4_drop (mv_Tok_of okT4) (by decide +kernel)
theorem okD_mX4_there : mv_dchk mX4_there = true := by decide +kernel
theorem ok_mX4_there : mv_mok sysX mX4_there := mv_mok_of (hc := 713) (h2 := 711) (h3 := 712) (hi := 123) okD_mX4_there (mv_Tok_of okT4) (by decide +kernel)
theorem okD_mX4_nextWord : mv_dchk mX4_nextWord = true := by decide +kernel
theorem ok_mX4_nextWord : mv_mok sysX mX4_nextWord := mv_mok_of (hc := 1150) (h2 := 1148) (h3 := 1149) (hi := 123) okD_mX4_nextWord (mv_Tok_of okT4) (by decide +kernel)
theorem okD_mX4_end : mv_dchk mX4_end = true := by decide +kernel
theorem ok_mX4_end : mv_mok sysX mX4_end := mv_mok_of (hc := 1154) (h2 := 1152) (h3 := 1153) (hi := 123) okD_mX4_end (mv_Tok_of okT4) (by decide +kernel)
theorem okD_mX4_goOn : mv_dchk mX4_goOn = true := by decide +kernel
theorem ok_mX4_goOn : mv_mok sysX mX4_goOn := mv_mok_of (hc := 717) (h2 := 715) (h3 := 716) (hi := 123) okD_mX4_goOn (mv_Tok_of okT4) (by decide +kernel)
theorem okD_mX4_step : mv_dchk mX4_step = true := by decide +kernel
theorem ok_mX4_step : mv_mok sysX mX4_step := mv_mok_of (hc := 725) (h2 := 724) (h3 := 22) (hi := 123) okD_mX4_step (mv_Tok_of okT4) (by decide +kernel)
theorem okD_mX4_goIf : mv_dchk mX4_goIf = true := by decide +kernel
theorem ok_mX4_goIf : mv_mok sysX mX4_goIf := mv_mok_of (hc := 738) (h2 := 737) (h3 := 23) (hi := 123) okD_mX4_goIf (mv_Tok_of okT4) (by decide +kernel)
theorem okD_mX4_call : mv_dchk mX4_call = true := by decide +kernel
theorem ok_mX4_call : mv_mok sysX mX4_call := mv_mok_of (hc := 742) (h2 := 741) (h3 := 24) (hi := 123) okD_mX4_call (mv_Tok_of okT4) (by decide +kernel)
theorem okD_mX4_nextKey : mv_dchk mX4_nextKey = true := by decide +kernel
theorem ok_mX4_nextKey : mv_mok sysX mX4_nextKey := mv_mok_of (hc := 776) (h2 := 775) (h3 := 27) (hi := 123) okD_mX4_nextKey (mv_Tok_of okT4) (by decide +kernel)
theorem okD_mX5_clear : mv_dchk mX5_clear = true := by decide +kernel
theorem ok_mX5_clear : mv_mok sysX mX5_clear := mv_mok_of (hc := 440) (h2 := 438) (h3 := 439) (hi := 121) okD_mX5_clear (mv_Tok_of okT5) (by decide +kernel)
theorem okD_mX5_begin : mv_dchk mX5_begin = true := by decide +kernel
theorem ok_mX5_begin : mv_mok sysX mX5_begin := mv_mok_of (hc := 680) (h2 := 678) (h3 := 679) (hi := 121) okD_mX5_begin (mv_Tok_of okT5) (by decide +kernel)
theorem okD_mX5_forgetCalls : mv_dchk mX5_forgetCalls = true := by decide +kernel
theorem ok_mX5_forgetCalls : mv_mok sysX mX5_forgetCalls := mv_mok_of (hc := 447) (h2 := 445) (h3 := 446) (hi := 121) okD_mX5_forgetCalls (mv_Tok_of okT5) (by decide +kernel)
theorem okD_mX5_steps : mv_dchk mX5_steps = true := by decide +kernel
theorem ok_mX5_steps : mv_mok sysX mX5_steps := mv_mok_of (hc := 1016) (h2 := 1014) (h3 := 1015) (hi := 121) okD_mX5_steps (mv_Tok_of okT5) (by decide +kernel)
theorem okD_mX5_addStep : mv_dchk mX5_addStep = true := by decide +kernel
theorem ok_mX5_addStep : mv_mok sysX mX5_addStep := mv_mok_of (hc := 721) (h2 := 719) (h3 := 720) (hi := 121) okD_mX5_addStep (mv_Tok_of okT5) (by decide +kernel)
theorem okD_mX5_calls : mv_dchk mX5_calls = true := by decide +kernel
theorem ok_mX5_calls : mv_mok sysX mX5_calls := mv_mok_of (hc := 999) (h2 := 997) (h3 := 998) (hi := 121) okD_mX5_calls (mv_Tok_of okT5) (by decide +kernel)
theorem okD_mX5_mostMade : mv_dchk mX5_mostMade = true := by decide +kernel
theorem ok_mX5_mostMade : mv_mok sysX mX5_mostMade := mv_mok_of (hc := 1145) (h2 := 1143) (h3 := 1144) (hi := 121) okD_mX5_mostMade (mv_Tok_of okT5) (by decide +kernel)
theorem okD_mX5_toldCount : mv_dchk mX5_toldCount = true := by decide +kernel
theorem ok_mX5_toldCount : mv_mok sysX mX5_toldCount := mv_mok_of (hc := 1100) (h2 := 1098) (h3 := 1099) (hi := 121) okD_mX5_toldCount (mv_Tok_of okT5) (by decide +kernel)
theorem okD_mX5_told : mv_dchk mX5_told = true := by decide +kernel
theorem ok_mX5_told : mv_mok sysX mX5_told := mv_mok_of (hc := 1108) (h2 := 1106) (h3 := 1107) (hi := 121) okD_mX5_told (mv_Tok_of okT5) (by decide +kernel)
theorem okD_mX5_variablePlace : mv_dchk mX5_variablePlace = true := by decide +kernel
theorem ok_mX5_variablePlace : mv_mok sysX mX5_variablePlace := mv_mok_of (hc := 755) (h2 := 754) (h3 := 25) (hi := 121) okD_mX5_variablePlace (mv_Tok_of okT5) (by decide +kernel)
theorem okD_mX5_mapPlace : mv_dchk mX5_mapPlace = true := by decide +kernel
theorem ok_mX5_mapPlace : mv_mok sysX mX5_mapPlace := mv_mok_of (hc := 759) (h2 := 758) (h3 := 26) (hi := 121) okD_mX5_mapPlace (mv_Tok_of okT5) (by decide +kernel)
theorem okD_mX5_number : mv_dchk mX5_number = true := by decide +kernel
theorem ok_mX5_number : mv_mok sysX mX5_number := mv_mok_of (hc := 941) (h2 := 939) (h3 := 940) (hi := 121) okD_mX5_number (mv_Tok_of okT5) (by decide +kernel)
theorem okD_mX5_setNumber : mv_dchk mX5_setNumber = true := by decide +kernel
theorem ok_mX5_setNumber : mv_mok sysX mX5_setNumber := mv_mok_of (hc := 751) (h2 := 749) (h3 := 750) (hi := 121) okD_mX5_setNumber (mv_Tok_of okT5) (by decide +kernel)
theorem okD_mX5_tree : mv_dchk mX5_tree = true := by decide +kernel
theorem ok_mX5_tree : mv_mok sysX mX5_tree := mv_mok_of (hc := 949) (h2 := 947) (h3 := 948) (hi := 121) okD_mX5_tree (mv_Tok_of okT5) (by decide +kernel)
theorem okD_mX5_push : mv_dchk mX5_push = true := by decide +kernel
theorem ok_mX5_push : mv_mok sysX mX5_push := mv_mok_of (hc := 772) (h2 := 770) (h3 := 771) (hi := 121) okD_mX5_push (mv_Tok_of okT5) (by decide +kernel)
theorem okD_mX5_pop : mv_dchk mX5_pop = true := by decide +kernel
theorem ok_mX5_pop : mv_mok sysX mX5_pop := mv_mok_of (hc := 733) (h2 := 731) (h3 := 732) (hi := 121) okD_mX5_pop (mv_Tok_of okT5) (by decide +kernel)
theorem okD_mX5_pushMap : mv_dchk mX5_pushMap = true := by decide +kernel
theorem ok_mX5_pushMap : mv_mok sysX mX5_pushMap := mv_mok_of (hc := 936) (h2 := 934) (h3 := 935) (hi := 121) okD_mX5_pushMap (mv_Tok_of okT5) (by decide +kernel)
theorem okD_mX5_popMap : mv_dchk mX5_popMap = true := by decide +kernel
theorem ok_mX5_popMap : mv_mok sysX mX5_popMap := mv_mok_of (hc := 803) (h2 := 801) (h3 := 802) (hi := 121) okD_mX5_popMap (mv_Tok_of okT5) (by decide +kernel)
theorem okD_mX5_comingCell : mv_dchk mX5_comingCell = true := by decide +kernel
theorem ok_mX5_comingCell : mv_mok sysX mX5_comingCell := mv_mok_of (hc := 780) (h2 := 778) (h3 := 779) (hi := 121) okD_mX5_comingCell (mv_Tok_of okT5) (by decide +kernel)
theorem okD_mX5_comeTo : mv_dchk mX5_comeTo = true := by decide +kernel
theorem ok_mX5_comeTo : mv_mok sysX mX5_comeTo := mv_mok_of (hc := 807) (h2 := 805) (h3 := 806) (hi := 121) okD_mX5_comeTo (mv_Tok_of okT5) (by decide +kernel)
theorem okD_mX5_enter : mv_dchk mX5_enter = true := by decide +kernel
theorem ok_mX5_enter : mv_mok sysX mX5_enter := mv_mok_of (hc := 747) (h2 := 745) (h3 := 746) (hi := 121) okD_mX5_enter (mv_Tok_of okT5) (by decide +kernel)
theorem okD_mX5_leave : mv_dchk mX5_leave = true := by decide +kernel
theorem ok_mX5_leave : mv_mok sysX mX5_leave := mv_mok_of (hc := 768) (h2 := 766) (h3 := 767) (hi := 121) okD_mX5_leave (mv_Tok_of okT5) (by decide +kernel)
theorem okD_mX5_apply : mv_dchk mX5_apply = true := by decide +kernel
theorem ok_mX5_apply : mv_mok sysX mX5_apply := mv_mok_of (hc := 819) (h2 := 817) (h3 := 818) (hi := 121) okD_mX5_apply (mv_Tok_of okT5) (by decide +kernel)
theorem okD_mX5_tell : mv_dchk mX5_tell = true := by decide +kernel
theorem ok_mX5_tell : mv_mok sysX mX5_tell := mv_mok_of (hc := 945) (h2 := 944) (h3 := 37) (hi := 121) okD_mX5_tell (mv_Tok_of okT5) (by decide +kernel)
theorem okD_mX5_applyToNumbers : mv_dchk mX5_applyToNumbers = true := by decide +kernel
theorem ok_mX5_applyToNumbers : mv_mok sysX mX5_applyToNumbers := mv_mok_of (hc := 823) (h2 := 822) (h3 := 28) (hi := 121) okD_mX5_applyToNumbers (mv_Tok_of okT5) (by decide +kernel)
theorem okD_mX5_askMap : mv_dchk mX5_askMap = true := by decide +kernel
theorem ok_mX5_askMap : mv_mok sysX mX5_askMap := mv_mok_of (hc := 953) (h2 := 952) (h3 := 38) (hi := 121) okD_mX5_askMap (mv_Tok_of okT5) (by decide +kernel)
theorem okD_mX5_pushFloor : mv_dchk mX5_pushFloor = true := by decide +kernel
theorem ok_mX5_pushFloor : mv_mok sysX mX5_pushFloor := mv_mok_of (hc := 963) (h2 := 962) (h3 := 39) (hi := 121) okD_mX5_pushFloor (mv_Tok_of okT5) (by decide +kernel)
theorem okD_mX5_changeMap : mv_dchk mX5_changeMap = true := by decide +kernel
theorem ok_mX5_changeMap : mv_mok sysX mX5_changeMap := mv_mok_of (hc := 827) (h2 := 826) (h3 := 29) (hi := 121) okD_mX5_changeMap (mv_Tok_of okT5) (by decide +kernel)
theorem okD_mX5_takeParts : mv_dchk mX5_takeParts = true := by decide +kernel
theorem ok_mX5_takeParts : mv_mok sysX mX5_takeParts := mv_mok_of (hc := 931) (h2 := 930) (h3 := 36) (hi := 121) okD_mX5_takeParts (mv_Tok_of okT5) (by decide +kernel)
theorem okD_mX5_keep : mv_dchk mX5_keep = true := by decide +kernel
theorem ok_mX5_keep : mv_mok sysX mX5_keep := mv_mok_of (hc := 901) (h2 := 900) (h3 := 34) (hi := 121) okD_mX5_keep (mv_Tok_of okT5) (by decide +kernel)
theorem okD_mX5_live : mv_dchk mX5_live = true := by decide +kernel
theorem ok_mX5_live : mv_mok sysX mX5_live := mv_mok_of (hc := 1137) (h2 := 1135) (h3 := 1136) (hi := 121) okD_mX5_live (mv_Tok_of okT5) (by decide +kernel)
theorem okD_mX5_reachAll : mv_dchk mX5_reachAll = true := by decide +kernel
theorem ok_mX5_reachAll : mv_mok sysX mX5_reachAll := mv_mok_of (hc := 909) (h2 := 908) (h3 := 35) (hi := 121) okD_mX5_reachAll (mv_Tok_of okT5) (by decide +kernel)
theorem okD_mX6_isStatement : mv_dchk mX6_isStatement = true := by decide +kernel
theorem ok_mX6_isStatement : mv_mok sysX mX6_isStatement := mv_mok_of (hc := 515) (h2 := 514) (h3 := 0) (hi := 127) okD_mX6_isStatement (mv_Tok_of okT6) (by decide +kernel)
theorem okD_mX6_isNumber : mv_dchk mX6_isNumber = true := by decide +kernel
theorem ok_mX6_isNumber : mv_mok sysX mX6_isNumber := mv_mok_of (hc := 530) (h2 := 529) (h3 := 0) (hi := 127) okD_mX6_isNumber (mv_Tok_of okT6) (by decide +kernel)
theorem okD_mX6_isMap : mv_dchk mX6_isMap = true := by decide +kernel
theorem ok_mX6_isMap : mv_mok sysX mX6_isMap := mv_mok_of (hc := 577) (h2 := 576) (h3 := 0) (hi := 127) okD_mX6_isMap (mv_Tok_of okT6) (by decide +kernel)
theorem okD_mX6_arguments : mv_dchk mX6_arguments = true := by decide +kernel
theorem ok_mX6_arguments : mv_mok sysX mX6_arguments := mv_mok_of (hc := 599) (h2 := 598) (h3 := 0) (hi := 127) okD_mX6_arguments (mv_Tok_of okT6) (by decide +kernel)
theorem okD_mX6_maps : mv_dchk mX6_maps = true := by decide +kernel
theorem ok_mX6_maps : mv_mok sysX mX6_maps := mv_mok_of (hc := 570) (h2 := 569) (h3 := 0) (hi := 127) okD_mX6_maps (mv_Tok_of okT6) (by decide +kernel)
theorem okD_mX6_numbers : mv_dchk mX6_numbers = true := by decide +kernel
theorem ok_mX6_numbers : mv_mok sysX mX6_numbers := mv_mok_of (hc := 593) (h2 := 592) (h3 := 0) (hi := 127) okD_mX6_numbers (mv_Tok_of okT6) (by decide +kernel)
theorem okD_mX6_word : mv_dchk mX6_word = true := by decide +kernel
theorem ok_mX6_word : mv_mok sysX mX6_word := mv_mok_of (hc := 596) (h2 := 595) (h3 := 0) (hi := 127) okD_mX6_word (mv_Tok_of okT6) (by decide +kernel)
theorem okD_mX7_put : mv_dchk mX7_put = true := by decide +kernel
theorem ok_mX7_put : mv_mok sysX mX7_put := mv_mok_of (hc := 835) (h2 := 833) (h3 := 834) (hi := 122) okD_mX7_put (mv_Tok_of okT7) (by decide +kernel)
theorem okD_mX7_without : mv_dchk mX7_without = true := by decide +kernel
theorem ok_mX7_without : mv_mok sysX mX7_without := mv_mok_of (hc := 875) (h2 := 873) (h3 := 874) (hi := 122) okD_mX7_without (mv_Tok_of okT7) (by decide +kernel)
theorem okD_mX7_union : mv_dchk mX7_union = true := by decide +kernel
theorem ok_mX7_union : mv_mok sysX mX7_union := mv_mok_of (hc := 887) (h2 := 885) (h3 := 886) (hi := 122) okD_mX7_union (mv_Tok_of okT7) (by decide +kernel)
theorem okD_mX7_unite : mv_dchk mX7_unite = true := by decide +kernel
theorem ok_mX7_unite : mv_mok sysX mX7_unite := mv_mok_of (hc := 891) (h2 := 890) (h3 := 33) (hi := 122) okD_mX7_unite (mv_Tok_of okT7) (by decide +kernel)
theorem okD_mX7_copyTowards : mv_dchk mX7_copyTowards = true := by decide +kernel
theorem ok_mX7_copyTowards : mv_mok sysX mX7_copyTowards := mv_mok_of (hc := 851) (h2 := 850) (h3 := 30) (hi := 122) okD_mX7_copyTowards (mv_Tok_of okT7) (by decide +kernel)
theorem okD_mX7_split : mv_dchk mX7_split = true := by decide +kernel
theorem ok_mX7_split : mv_mok sysX mX7_split := mv_mok_of (hc := 865) (h2 := 864) (h3 := 31) (hi := 122) okD_mX7_split (mv_Tok_of okT7) (by decide +kernel)
theorem okD_mX7_join : mv_dchk mX7_join = true := by decide +kernel
theorem ok_mX7_join : mv_mok sysX mX7_join := mv_mok_of (hc := 883) (h2 := 882) (h3 := 32) (hi := 122) okD_mX7_join (mv_Tok_of okT7) (by decide +kernel)
theorem okD_mX8_walk : mv_dchk mX8_walk = true := by decide +kernel
theorem ok_mX8_walk : mv_mok sysX mX8_walk := mv_mok_of (hc := 975) (h2 := 973) (h3 := 974) (hi := 124) okD_mX8_walk (mv_Tok_of okT8) (by decide +kernel)
theorem okD_mX8_openAt : mv_dchk mX8_openAt = true := by decide +kernel
theorem ok_mX8_openAt : mv_mok sysX mX8_openAt := mv_mok_of (hc := 983) (h2 := 982) (h3 := 40) (hi := 124) okD_mX8_openAt (mv_Tok_of okT8) (by decide +kernel)
theorem okD_mX8_close : mv_dchk mX8_close = true := by decide +kernel
theorem ok_mX8_close : mv_mok sysX mX8_close := mv_mok_of (hc := 1044) (h2 := 1043) (h3 := 49) (hi := 124) okD_mX8_close (mv_Tok_of okT8) (by decide +kernel)
theorem okD_mX8_closeBehind : mv_dchk mX8_closeBehind = true := by decide +kernel
theorem ok_mX8_closeBehind : mv_mok sysX mX8_closeBehind := mv_mok_of (hc := 1040) (h2 := 1039) (h3 := 48) (hi := 124) okD_mX8_closeBehind (mv_Tok_of okT8) (by decide +kernel)
theorem okD_mX8_setStage : mv_dchk mX8_setStage = true := by decide +kernel
theorem ok_mX8_setStage : mv_mok sysX mX8_setStage := mv_mok_of (hc := 1030) (h2 := 1029) (h3 := 47) (hi := 124) okD_mX8_setStage (mv_Tok_of okT8) (by decide +kernel)
theorem okD_mX8_mayStep : mv_dchk mX8_mayStep = true := by decide +kernel
theorem ok_mX8_mayStep : mv_mok sysX mX8_mayStep := mv_mok_of (hc := 1012) (h2 := 1011) (h3 := 44) (hi := 124) okD_mX8_mayStep (mv_Tok_of okT8) (by decide +kernel)
theorem okD_mX8_beginNext : mv_dchk mX8_beginNext = true := by decide +kernel
theorem ok_mX8_beginNext : mv_mok sysX mX8_beginNext := mv_mok_of (hc := 1008) (h2 := 1007) (h3 := 43) (hi := 124) okD_mX8_beginNext (mv_Tok_of okT8) (by decide +kernel)
theorem okD_mX8_body : mv_dchk mX8_body = true := by decide +kernel
theorem ok_mX8_body : mv_mok sysX mX8_body := mv_mok_of (hc := 991) (h2 := 990) (h3 := 41) (hi := 124) okD_mX8_body (mv_Tok_of okT8) (by decide +kernel)
theorem okD_mX8_comeBack : mv_dchk mX8_comeBack = true := by decide +kernel
theorem ok_mX8_comeBack : mv_mok sysX mX8_comeBack := mv_mok_of (hc := 995) (h2 := 994) (h3 := 42) (hi := 124) okD_mX8_comeBack (mv_Tok_of okT8) (by decide +kernel)
theorem okD_mX8_beginPart : mv_dchk mX8_beginPart = true := by decide +kernel
theorem ok_mX8_beginPart : mv_mok sysX mX8_beginPart := mv_mok_of (hc := 1026) (h2 := 1025) (h3 := 46) (hi := 124) okD_mX8_beginPart (mv_Tok_of okT8) (by decide +kernel)
theorem okD_mX8_choice : mv_dchk mX8_choice = true := by decide +kernel
theorem ok_mX8_choice : mv_mok sysX mX8_choice := mv_mok_of (hc := 1022) (h2 := 1021) (h3 := 45) (hi := 124) okD_mX8_choice (mv_Tok_of okT8) (by decide +kernel)
theorem okD_mX8_repetition : mv_dchk mX8_repetition = true := by decide +kernel
theorem ok_mX8_repetition : mv_mok sysX mX8_repetition := mv_mok_of (hc := 1048) (h2 := 1047) (h3 := 50) (hi := 124) okD_mX8_repetition (mv_Tok_of okT8) (by decide +kernel)
theorem okD_mX8_eachKey : mv_dchk mX8_eachKey = true := by decide +kernel
theorem ok_mX8_eachKey : mv_mok sysX mX8_eachKey := mv_mok_of (hc := 1052) (h2 := 1051) (h3 := 51) (hi := 124) okD_mX8_eachKey (mv_Tok_of okT8) (by decide +kernel)
theorem okD_mX8_comeToKey : mv_dchk mX8_comeToKey = true := by decide +kernel
theorem ok_mX8_comeToKey : mv_mok sysX mX8_comeToKey := mv_mok_of (hc := 1058) (h2 := 1057) (h3 := 52) (hi := 124) okD_mX8_comeToKey (mv_Tok_of okT8) (by decide +kernel)
theorem okD_mX8_answer : mv_dchk mX8_answer = true := by decide +kernel
theorem ok_mX8_answer : mv_mok sysX mX8_answer := mv_mok_of (hc := 1065) (h2 := 1064) (h3 := 53) (hi := 124) okD_mX8_answer (mv_Tok_of okT8) (by decide +kernel)
theorem okD_mX8_call : mv_dchk mX8_call = true := by decide +kernel
theorem ok_mX8_call : mv_mok sysX mX8_call := mv_mok_of (hc := 1069) (h2 := 1068) (h3 := 54) (hi := 124) okD_mX8_call (mv_Tok_of okT8) (by decide +kernel)
theorem okD_mX8_enter : mv_dchk mX8_enter = true := by decide +kernel
theorem ok_mX8_enter : mv_mok sysX mX8_enter := mv_mok_of (hc := 1074) (h2 := 1073) (h3 := 55) (hi := 124) okD_mX8_enter (mv_Tok_of okT8) (by decide +kernel)
theorem okD_mX8_shortcut : mv_dchk mX8_shortcut = true := by decide +kernel
theorem ok_mX8_shortcut : mv_mok sysX mX8_shortcut := mv_mok_of (hc := 1083) (h2 := 1082) (h3 := 56) (hi := 124) okD_mX8_shortcut (mv_Tok_of okT8) (by decide +kernel)
theorem okD_mX8_plain : mv_dchk mX8_plain = true := by decide +kernel
theorem ok_mX8_plain : mv_mok sysX mX8_plain := mv_mok_of (hc := 1088) (h2 := 1087) (h3 := 57) (hi := 124) okD_mX8_plain (mv_Tok_of okT8) (by decide +kernel)
theorem okD_mX9_length : mv_dchk mX9_length = true := by decide +kernel
theorem ok_mX9_length : mv_mok sysX mX9_length := mv_mok_of (hc := 729) (h2 := 728) (h3 := 0) (hi := 128) okD_mX9_length (mv_Tok_of okT9) (by decide +kernel)
theorem okD_mX10_init_ : mv_dchk mX10_init_ = true := by decide +kernel
theorem ok_mX10_init_ : mv_mok sysX mX10_init_ := mv_mok_of (hc := 424) (h2 := 422) (h3 := 423) (hi := 117) okD_mX10_init_ (mv_Tok_of okT10) (by decide +kernel)
theorem okD_mX10_feed : mv_dchk mX10_feed = true := by decide +kernel
theorem ok_mX10_feed : mv_mok sysX mX10_feed := mv_mok_of (hc := 451) (h2 := 449) (h3 := 450) (hi := 117) okD_mX10_feed (mv_Tok_of okT10) (by decide +kernel)
theorem okD_mX10_compile : mv_dchk mX10_compile = true := by decide +kernel
theorem ok_mX10_compile : mv_mok sysX mX10_compile := mv_mok_of (hc := 471) (h2 := 469) (h3 := 470) (hi := 117) okD_mX10_compile (mv_Tok_of okT10) (by decide +kernel)
theorem okD_mX10_place : mv_dchk mX10_place = true := by decide +kernel
theorem ok_mX10_place : mv_mok sysX mX10_place := mv_mok_of (hc := 655) (h2 := 653) (h3 := 654) (hi := 117) okD_mX10_place (mv_Tok_of okT10) (by decide +kernel)
theorem okD_mX10_code : mv_dchk mX10_code = true := by decide +kernel
theorem ok_mX10_code : mv_mok sysX mX10_code := mv_mok_of (hc := 663) (h2 := 661) (h3 := 662) (hi := 117) okD_mX10_code (mv_Tok_of okT10) (by decide +kernel)
theorem okD_mX10_start : mv_dchk mX10_start = true := by decide +kernel
theorem ok_mX10_start : mv_mok sysX mX10_start := mv_mok_of (hc := 672) (h2 := 670) (h3 := 671) (hi := 117) okD_mX10_start (mv_Tok_of okT10) (by decide +kernel)
theorem okD_mX10_run : mv_dchk mX10_run = true := by decide +kernel
theorem ok_mX10_run : mv_mok sysX mX10_run := mv_mok_of (hc := 706) (h2 := 704) (h3 := 705) (hi := 117) okD_mX10_run (mv_Tok_of okT10) (by decide +kernel)
theorem okD_mX10_interpret : mv_dchk mX10_interpret = true := by decide +kernel
theorem ok_mX10_interpret : mv_mok sysX mX10_interpret := mv_mok_of (hc := 971) (h2 := 969) (h3 := 970) (hi := 117) okD_mX10_interpret (mv_Tok_of okT10) (by decide +kernel)
theorem okD_mX10_outSize : mv_dchk mX10_outSize = true := by decide +kernel
theorem ok_mX10_outSize : mv_mok sysX mX10_outSize := mv_mok_of (hc := 1096) (h2 := 1094) (h3 := 1095) (hi := 117) okD_mX10_outSize (mv_Tok_of okT10) (by decide +kernel)
theorem okD_mX10_out : mv_dchk mX10_out = true := by decide +kernel
theorem ok_mX10_out : mv_mok sysX mX10_out := mv_mok_of (hc := 1104) (h2 := 1102) (h3 := 1103) (hi := 117) okD_mX10_out (mv_Tok_of okT10) (by decide +kernel)
theorem okD_mX10_variable : mv_dchk mX10_variable = true := by decide +kernel
theorem ok_mX10_variable : mv_mok sysX mX10_variable := mv_mok_of (hc := 1112) (h2 := 1110) (h3 := 1111) (hi := 117) okD_mX10_variable (mv_Tok_of okT10) (by decide +kernel)
theorem okD_mX10_map : mv_dchk mX10_map = true := by decide +kernel
theorem ok_mX10_map : mv_mok sysX mX10_map := mv_mok_of (hc := 1117) (h2 := 1115) (h3 := 1116) (hi := 117) okD_mX10_map (mv_Tok_of okT10) (by decide +kernel)
theorem okD_mX10_count : mv_dchk mX10_count = true := by decide +kernel
theorem ok_mX10_count : mv_mok sysX mX10_count := mv_mok_of (hc := 1131) (h2 := 1129) (h3 := 1130) (hi := 117) okD_mX10_count (mv_Tok_of okT10) (by decide +kernel)
theorem okD_mX10_mayBeGranted : mv_dchk mX10_mayBeGranted = true := by decide +kernel
theorem ok_mX10_mayBeGranted : mv_mok sysX mX10_mayBeGranted := mv_mok_of (hc := 709) (h2 := 708) (h3 := 0) (hi := 117) okD_mX10_mayBeGranted (mv_Tok_of okT10) (by decide +kernel)
theorem okD_mX10_leaveRun : mv_dchk mX10_leaveRun = true := by decide +kernel
theorem ok_mX10_leaveRun : mv_mok sysX mX10_leaveRun := mv_mok_of (hc := 462) (h2 := 461) (h3 := 0) (hi := 117) okD_mX10_leaveRun (mv_Tok_of okT10) (by decide +kernel)
end
section
theorem okT11 : mv_Tchk RX11 tT11 sysY [1161, 1162, 1163, 1164, 1165, 1166, 1167, 1168, 1169, 1170, 1171, 1172, 1173, 1174, 1175, 1176, 1177, 1178, 1179, 1180, 1181, 1182, 1183, 1184, 1185, 1186, 1187, 1188, 1189, 1190, 1191, 1192, 1193, 1194, 1195, 1196, 1197, 1198, 1199, 1200, 1201, 1202, 1203, 1204, 1205, 1206, 1207, 1208, 1209, 1210, 1211, 1212, 1213, 1214, 1215, 1216, 1217, 1218, 1219, 1220, 1221, 1222, 1223, 1224, 1225, 1226] [1582, 1583, 1584] [] [1365, 1368, 1372, 1384, 1388, 1392, 1396, 1400, 1404, 1408, 1412, 1416, 1420, 1424, 1428, 1432, 1436, 1440, 1444, 1448, 1452, 1456, 1460, 1464, 1468, 1488, 1492, 1496, 1500, 1504, 1508, 1512, 1516, 1520, 1524, 1528, 1532, 1536, 1539, 1543, 1547, 1551, 1555, 1559, 1563, 1567, 1571, 1575, 1579, 1585, 1589, 1593, 1597, 1601, 1605, 1609, 1613, 1617, 1621, 1625, 1629] = true := by decide +kernel
theorem okD_mX11_in : mv_dchk mX11_in = true := by decide +kernel
theorem ok_mX11_in : mv_mok sysY mX11_in := mv_mok_of (hc := 1367) (h2 := 1366) (h3 := 0) (hi := 125) okD_mX11_in (mv_Tok_of okT11) (by decide +kernel)
theorem okD_mX11_init_ : mv_dchk mX11_init_ = true := by decide +kernel
theorem ok_mX11_init_ : mv_mok sysY mX11_init_ := mv_mok_of (hc := 1364) (h2 := 1362) (h3 := 1363) (hi := 125) okD_mX11_init_ (mv_Tok_of okT11) (by decide +kernel)
theorem okD_mX11_feed : mv_dchk mX11_feed = true := by decide +kernel
theorem ok_mX11_feed : mv_mok sysY mX11_feed := mv_mok_of (hc := 1379) (h2 := 1377) (h3 := 1378) (hi := 125) okD_mX11_feed (mv_Tok_of okT11) (by decide +kernel)
theorem okD_mX11_token : mv_dchk mX11_token = true := by decide +kernel
theorem ok_mX11_token : mv_mok sysY mX11_token := mv_mok_of (hc := 1387) (h2 := 1386) (h3 := 60) (hi := 125) okD_mX11_token (mv_Tok_of okT11) (by decide +kernel)
theorem okD_mX11_wrong : mv_dchk mX11_wrong = true := by decide +kernel
theorem ok_mX11_wrong : mv_mok sysY mX11_wrong := mv_mok_of (hc := 1395) (h2 := 1394) (h3 := 62) (hi := 125) okD_mX11_wrong (mv_Tok_of okT11) (by decide +kernel)
theorem okD_mX11_number : mv_dchk mX11_number = true := by decide +kernel
theorem ok_mX11_number : mv_mok sysY mX11_number := mv_mok_of (hc := 1399) (h2 := 1398) (h3 := 63) (hi := 125) okD_mX11_number (mv_Tok_of okT11) (by decide +kernel)
theorem okD_mX11_known : mv_dchk mX11_known = true := by decide +kernel
theorem ok_mX11_known : mv_mok sysY mX11_known := mv_mok_of (hc := 1455) (h2 := 1454) (h3 := 77) (hi := 125) okD_mX11_known (mv_Tok_of okT11) (by decide +kernel)
theorem okD_mX11_later : mv_dchk mX11_later = true := by decide +kernel
theorem ok_mX11_later : mv_mok sysY mX11_later := mv_mok_of (hc := 1403) (h2 := 1402) (h3 := 64) (hi := 125) okD_mX11_later (mv_Tok_of okT11) (by decide +kernel)
theorem okD_mX11_lay : mv_dchk mX11_lay = true := by decide +kernel
theorem ok_mX11_lay : mv_mok sysY mX11_lay := mv_mok_of (hc := 1423) (h2 := 1422) (h3 := 69) (hi := 125) okD_mX11_lay (mv_Tok_of okT11) (by decide +kernel)
theorem okD_mX11_mark : mv_dchk mX11_mark = true := by decide +kernel
theorem ok_mX11_mark : mv_mok sysY mX11_mark := mv_mok_of (hc := 1435) (h2 := 1434) (h3 := 72) (hi := 125) okD_mX11_mark (mv_Tok_of okT11) (by decide +kernel)
theorem okD_mX11_newHole : mv_dchk mX11_newHole = true := by decide +kernel
theorem ok_mX11_newHole : mv_mok sysY mX11_newHole := mv_mok_of (hc := 1419) (h2 := 1418) (h3 := 68) (hi := 125) okD_mX11_newHole (mv_Tok_of okT11) (by decide +kernel)
theorem okD_mX11_layHole : mv_dchk mX11_layHole = true := by decide +kernel
theorem ok_mX11_layHole : mv_mok sysY mX11_layHole := mv_mok_of (hc := 1427) (h2 := 1426) (h3 := 70) (hi := 125) okD_mX11_layHole (mv_Tok_of okT11) (by decide +kernel)
theorem okD_mX11_fill : mv_dchk mX11_fill = true := by decide +kernel
theorem ok_mX11_fill : mv_mok sysY mX11_fill := mv_mok_of (hc := 1415) (h2 := 1414) (h3 := 67) (hi := 125) okD_mX11_fill (mv_Tok_of okT11) (by decide +kernel)
theorem okD_mX11_layBack : mv_dchk mX11_layBack = true := by decide +kernel
theorem ok_mX11_layBack : mv_mok sysY mX11_layBack := mv_mok_of (hc := 1471) (h2 := 1470) (h3 := 81) (hi := 125) okD_mX11_layBack (mv_Tok_of okT11) (by decide +kernel)
theorem okD_mX11_remember : mv_dchk mX11_remember = true := by decide +kernel
theorem ok_mX11_remember : mv_mok sysY mX11_remember := mv_mok_of (hc := 1443) (h2 := 1442) (h3 := 74) (hi := 125) okD_mX11_remember (mv_Tok_of okT11) (by decide +kernel)
theorem okD_mX11_readAll : mv_dchk mX11_readAll = true := by decide +kernel
theorem ok_mX11_readAll : mv_mok sysY mX11_readAll := mv_mok_of (hc := 1407) (h2 := 1406) (h3 := 65) (hi := 125) okD_mX11_readAll (mv_Tok_of okT11) (by decide +kernel)
theorem okD_mX11_isDeep : mv_dchk mX11_isDeep = true := by decide +kernel
theorem ok_mX11_isDeep : mv_mok sysY mX11_isDeep := mv_mok_of (hc := 1431) (h2 := 1430) (h3 := 71) (hi := 125) okD_mX11_isDeep (mv_Tok_of okT11) (by decide +kernel)
theorem okD_mX11_readStatements : mv_dchk mX11_readStatements = true := by decide +kernel
theorem ok_mX11_readStatements : mv_mok sysY mX11_readStatements := mv_mok_of (hc := 1411) (h2 := 1410) (h3 := 66) (hi := 125) okD_mX11_readStatements (mv_Tok_of okT11) (by decide +kernel)
theorem okD_mX11_readStatement : mv_dchk mX11_readStatement = true := by decide +kernel
theorem ok_mX11_readStatement : mv_mok sysY mX11_readStatement := mv_mok_of (hc := 1439) (h2 := 1438) (h3 := 73) (hi := 125) okD_mX11_readStatement (mv_Tok_of okT11) (by decide +kernel)
theorem okD_mX11_readOver : mv_dchk mX11_readOver = true := by decide +kernel
theorem ok_mX11_readOver : mv_mok sysY mX11_readOver := mv_mok_of (hc := 1447) (h2 := 1446) (h3 := 75) (hi := 125) okD_mX11_readOver (mv_Tok_of okT11) (by decide +kernel)
theorem okD_mX11_readCall : mv_dchk mX11_readCall = true := by decide +kernel
theorem ok_mX11_readCall : mv_mok sysY mX11_readCall := mv_mok_of (hc := 1451) (h2 := 1450) (h3 := 76) (hi := 125) okD_mX11_readCall (mv_Tok_of okT11) (by decide +kernel)
theorem okD_mX11_readExpression : mv_dchk mX11_readExpression = true := by decide +kernel
theorem ok_mX11_readExpression : mv_mok sysY mX11_readExpression := mv_mok_of (hc := 1459) (h2 := 1458) (h3 := 78) (hi := 125) okD_mX11_readExpression (mv_Tok_of okT11) (by decide +kernel)
theorem okD_mX11_readEither : mv_dchk mX11_readEither = true := by decide +kernel
theorem ok_mX11_readEither : mv_mok sysY mX11_readEither := mv_mok_of (hc := 1463) (h2 := 1462) (h3 := 79) (hi := 125) okD_mX11_readEither (mv_Tok_of okT11) (by decide +kernel)
theorem okD_mX11_readMap : mv_dchk mX11_readMap = true := by decide +kernel
theorem ok_mX11_readMap : mv_mok sysY mX11_readMap := mv_mok_of (hc := 1467) (h2 := 1466) (h3 := 80) (hi := 125) okD_mX11_readMap (mv_Tok_of okT11) (by decide +kernel)
theorem okD_mX11_readFunction : mv_dchk mX11_readFunction = true := by decide +kernel
theorem ok_mX11_readFunction : mv_mok sysY mX11_readFunction := mv_mok_of (hc := 1391) (h2 := 1390) (h3 := 61) (hi := 125) okD_mX11_readFunction (mv_Tok_of okT11) (by decide +kernel)
theorem okD_mX11_compile : mv_dchk mX11_compile = true := by decide +kernel
theorem ok_mX11_compile : mv_mok sysY mX11_compile := mv_mok_of (hc := 1383) (h2 := 1381) (h3 := 1382) (hi := 125) okD_mX11_compile (mv_Tok_of okT11) (by decide +kernel)
theorem okD_mX11_place : mv_dchk mX11_place = true := by decide +kernel
theorem ok_mX11_place : mv_mok sysY mX11_place := mv_mok_of (hc := 1475) (h2 := 1473) (h3 := 1474) (hi := 125) okD_mX11_place (mv_Tok_of okT11) (by decide +kernel)
theorem okD_mX11_code : mv_dchk mX11_code = true := by decide +kernel
theorem ok_mX11_code : mv_mok sysY mX11_code := mv_mok_of (hc := 1479) (h2 := 1477) (h3 := 1478) (hi := 125) okD_mX11_code (mv_Tok_of okT11) (by decide +kernel)
theorem okD_mX11_rank : mv_dchk mX11_rank = true := by decide +kernel
theorem ok_mX11_rank : mv_mok sysY mX11_rank := mv_mok_of (hc := 1581) (h2 := 1580) (h3 := 0) (hi := 125) okD_mX11_rank (mv_Tok_of okT11) (by decide +kernel)
theorem okD_mX11_rankOf : mv_dchk mX11_rankOf = true := by decide +kernel
theorem ok_mX11_rankOf : mv_mok sysY mX11_rankOf := mv_mok_of (hc := 1588) (h2 := 1587) (h3 := 104) (hi := 125) okD_mX11_rankOf (mv_Tok_of okT11) (by decide +kernel)
theorem okD_mX11_markTree : mv_dchk mX11_markTree = true := by decide +kernel
theorem ok_mX11_markTree : mv_mok sysY mX11_markTree := mv_mok_of (hc := 1574) (h2 := 1573) (h3 := 102) (hi := 125) okD_mX11_markTree (mv_Tok_of okT11) (by decide +kernel)
theorem okD_mX11_findLive : mv_dchk mX11_findLive = true := by decide +kernel
theorem ok_mX11_findLive : mv_mok sysY mX11_findLive := mv_mok_of (hc := 1570) (h2 := 1569) (h3 := 101) (hi := 125) okD_mX11_findLive (mv_Tok_of okT11) (by decide +kernel)
theorem okD_mX11_beginMaking : mv_dchk mX11_beginMaking = true := by decide +kernel
theorem ok_mX11_beginMaking : mv_mok sysY mX11_beginMaking := mv_mok_of (hc := 1566) (h2 := 1565) (h3 := 100) (hi := 125) okD_mX11_beginMaking (mv_Tok_of okT11) (by decide +kernel)
theorem okD_mX11_cell : mv_dchk mX11_cell = true := by decide +kernel
theorem ok_mX11_cell : mv_mok sysY mX11_cell := mv_mok_of (hc := 1592) (h2 := 1591) (h3 := 105) (hi := 125) okD_mX11_cell (mv_Tok_of okT11) (by decide +kernel)
theorem okD_mX11_split : mv_dchk mX11_split = true := by decide +kernel
theorem ok_mX11_split : mv_mok sysY mX11_split := mv_mok_of (hc := 1596) (h2 := 1595) (h3 := 106) (hi := 125) okD_mX11_split (mv_Tok_of okT11) (by decide +kernel)
theorem okD_mX11_climb : mv_dchk mX11_climb = true := by decide +kernel
theorem ok_mX11_climb : mv_mok sysY mX11_climb := mv_mok_of (hc := 1600) (h2 := 1599) (h3 := 107) (hi := 125) okD_mX11_climb (mv_Tok_of okT11) (by decide +kernel)
theorem okD_mX11_put : mv_dchk mX11_put = true := by decide +kernel
theorem ok_mX11_put : mv_mok sysY mX11_put := mv_mok_of (hc := 1578) (h2 := 1577) (h3 := 103) (hi := 125) okD_mX11_put (mv_Tok_of okT11) (by decide +kernel)
theorem okD_mX11_find : mv_dchk mX11_find = true := by decide +kernel
theorem ok_mX11_find : mv_mok sysY mX11_find := mv_mok_of (hc := 1608) (h2 := 1607) (h3 := 109) (hi := 125) okD_mX11_find (mv_Tok_of okT11) (by decide +kernel)
theorem okD_mX11_without : mv_dchk mX11_without = true := by decide +kernel
theorem ok_mX11_without : mv_mok sysY mX11_without := mv_mok_of (hc := 1604) (h2 := 1603) (h3 := 108) (hi := 125) okD_mX11_without (mv_Tok_of okT11) (by decide +kernel)
theorem okD_mX11_union : mv_dchk mX11_union = true := by decide +kernel
theorem ok_mX11_union : mv_mok sysY mX11_union := mv_mok_of (hc := 1612) (h2 := 1611) (h3 := 110) (hi := 125) okD_mX11_union (mv_Tok_of okT11) (by decide +kernel)
theorem okD_mX11_isMade : mv_dchk mX11_isMade = true := by decide +kernel
theorem ok_mX11_isMade : mv_mok sysY mX11_isMade := mv_mok_of (hc := 1616) (h2 := 1615) (h3 := 111) (hi := 125) okD_mX11_isMade (mv_Tok_of okT11) (by decide +kernel)
theorem okD_mX11_sizeOf : mv_dchk mX11_sizeOf = true := by decide +kernel
theorem ok_mX11_sizeOf : mv_mok sysY mX11_sizeOf := mv_mok_of (hc := 1628) (h2 := 1627) (h3 := 114) (hi := 125) okD_mX11_sizeOf (mv_Tok_of okT11) (by decide +kernel)
theorem okD_mX11_above : mv_dchk mX11_above = true := by decide +kernel
theorem ok_mX11_above : mv_mok sysY mX11_above := mv_mok_of (hc := 1507) (h2 := 1506) (h3 := 86) (hi := 125) okD_mX11_above (mv_Tok_of okT11) (by decide +kernel)
theorem okD_mX11_floor : mv_dchk mX11_floor = true := by decide +kernel
theorem ok_mX11_floor : mv_mok sysY mX11_floor := mv_mok_of (hc := 1632) (h2 := 1631) (h3 := 115) (hi := 125) okD_mX11_floor (mv_Tok_of okT11) (by decide +kernel)
theorem okD_mX11_clear : mv_dchk mX11_clear = true := by decide +kernel
theorem ok_mX11_clear : mv_mok sysY mX11_clear := mv_mok_of (hc := 1371) (h2 := 1370) (h3 := 58) (hi := 125) okD_mX11_clear (mv_Tok_of okT11) (by decide +kernel)
theorem okD_mX11_clearOwn : mv_dchk mX11_clearOwn = true := by decide +kernel
theorem ok_mX11_clearOwn : mv_mok sysY mX11_clearOwn := mv_mok_of (hc := 1375) (h2 := 1374) (h3 := 59) (hi := 125) okD_mX11_clearOwn (mv_Tok_of okT11) (by decide +kernel)
theorem okD_mX11_start : mv_dchk mX11_start = true := by decide +kernel
theorem ok_mX11_start : mv_mok sysY mX11_start := mv_mok_of (hc := 1483) (h2 := 1481) (h3 := 1482) (hi := 125) okD_mX11_start (mv_Tok_of okT11) (by decide +kernel)
theorem okD_mX11_run : mv_dchk mX11_run = true := by decide +kernel
theorem ok_mX11_run : mv_mok sysY mX11_run := mv_mok_of (hc := 1487) (h2 := 1485) (h3 := 1486) (hi := 125) okD_mX11_run (mv_Tok_of okT11) (by decide +kernel)
theorem okD_mX11_interpret : mv_dchk mX11_interpret = true := by decide +kernel
theorem ok_mX11_interpret : mv_mok sysY mX11_interpret := mv_mok_of (hc := 1636) (h2 := 1634) (h3 := 1635) (hi := 125) okD_mX11_interpret (mv_Tok_of okT11) (by decide +kernel)
theorem okD_mX11_word : mv_dchk mX11_word = true := by decide +kernel
theorem ok_mX11_word : mv_mok sysY mX11_word := mv_mok_of (hc := 1499) (h2 := 1498) (h3 := 84) (hi := 125) okD_mX11_word (mv_Tok_of okT11) (by decide +kernel)
theorem okD_mX11_isStep : mv_dchk mX11_isStep = true := by decide +kernel
theorem ok_mX11_isStep : mv_mok sysY mX11_isStep := mv_mok_of (hc := 1495) (h2 := 1494) (h3 := 83) (hi := 125) okD_mX11_isStep (mv_Tok_of okT11) (by decide +kernel)
theorem okD_mX11_nextKey : mv_dchk mX11_nextKey = true := by decide +kernel
theorem ok_mX11_nextKey : mv_mok sysY mX11_nextKey := mv_mok_of (hc := 1503) (h2 := 1502) (h3 := 85) (hi := 125) okD_mX11_nextKey (mv_Tok_of okT11) (by decide +kernel)
theorem okD_mX11_go : mv_dchk mX11_go = true := by decide +kernel
theorem ok_mX11_go : mv_mok sysY mX11_go := mv_mok_of (hc := 1491) (h2 := 1490) (h3 := 82) (hi := 125) okD_mX11_go (mv_Tok_of okT11) (by decide +kernel)
theorem okD_mX11_push : mv_dchk mX11_push = true := by decide +kernel
theorem ok_mX11_push : mv_mok sysY mX11_push := mv_mok_of (hc := 1523) (h2 := 1522) (h3 := 90) (hi := 125) okD_mX11_push (mv_Tok_of okT11) (by decide +kernel)
theorem okD_mX11_pushMap : mv_dchk mX11_pushMap = true := by decide +kernel
theorem ok_mX11_pushMap : mv_mok sysY mX11_pushMap := mv_mok_of (hc := 1558) (h2 := 1557) (h3 := 98) (hi := 125) okD_mX11_pushMap (mv_Tok_of okT11) (by decide +kernel)
theorem okD_mX11_pop : mv_dchk mX11_pop = true := by decide +kernel
theorem ok_mX11_pop : mv_mok sysY mX11_pop := mv_mok_of (hc := 1531) (h2 := 1530) (h3 := 92) (hi := 125) okD_mX11_pop (mv_Tok_of okT11) (by decide +kernel)
theorem okD_mX11_variable : mv_dchk mX11_variable = true := by decide +kernel
theorem ok_mX11_variable : mv_mok sysY mX11_variable := mv_mok_of (hc := 1527) (h2 := 1526) (h3 := 91) (hi := 125) okD_mX11_variable (mv_Tok_of okT11) (by decide +kernel)
theorem okD_mX11_setVariable : mv_dchk mX11_setVariable = true := by decide +kernel
theorem ok_mX11_setVariable : mv_mok sysY mX11_setVariable := mv_mok_of (hc := 1535) (h2 := 1534) (h3 := 93) (hi := 125) okD_mX11_setVariable (mv_Tok_of okT11) (by decide +kernel)
theorem okD_mX11_perform : mv_dchk mX11_perform = true := by decide +kernel
theorem ok_mX11_perform : mv_mok sysY mX11_perform := mv_mok_of (hc := 1511) (h2 := 1510) (h3 := 87) (hi := 125) okD_mX11_perform (mv_Tok_of okT11) (by decide +kernel)
theorem okD_mX11_end : mv_dchk mX11_end = true := by decide +kernel
theorem ok_mX11_end : mv_mok sysY mX11_end := mv_mok_of (hc := 1519) (h2 := 1518) (h3 := 89) (hi := 125) okD_mX11_end (mv_Tok_of okT11) (by decide +kernel)
theorem okD_mX11_reckon : mv_dchk mX11_reckon = true := by decide +kernel
theorem ok_mX11_reckon : mv_mok sysY mX11_reckon := mv_mok_of (hc := 1515) (h2 := 1514) (h3 := 88) (hi := 125) okD_mX11_reckon (mv_Tok_of okT11) (by decide +kernel)
theorem okD_mX11_of : mv_dchk mX11_of = true := by decide +kernel
theorem ok_mX11_of : mv_mok sysY mX11_of := mv_mok_of (hc := 1538) (h2 := 1537) (h3 := 0) (hi := 125) okD_mX11_of (mv_Tok_of okT11) (by decide +kernel)
theorem okD_mX11_turn : mv_dchk mX11_turn = true := by decide +kernel
theorem ok_mX11_turn : mv_mok sysY mX11_turn := mv_mok_of (hc := 1542) (h2 := 1541) (h3 := 94) (hi := 125) okD_mX11_turn (mv_Tok_of okT11) (by decide +kernel)
theorem okD_mX11_call : mv_dchk mX11_call = true := by decide +kernel
theorem ok_mX11_call : mv_mok sysY mX11_call := mv_mok_of (hc := 1546) (h2 := 1545) (h3 := 95) (hi := 125) okD_mX11_call (mv_Tok_of okT11) (by decide +kernel)
theorem okD_mX11_mapOf : mv_dchk mX11_mapOf = true := by decide +kernel
theorem ok_mX11_mapOf : mv_mok sysY mX11_mapOf := mv_mok_of (hc := 1554) (h2 := 1553) (h3 := 97) (hi := 125) okD_mX11_mapOf (mv_Tok_of okT11) (by decide +kernel)
theorem okD_mX11_withMaps : mv_dchk mX11_withMaps = true := by decide +kernel
theorem ok_mX11_withMaps : mv_mok sysY mX11_withMaps := mv_mok_of (hc := 1550) (h2 := 1549) (h3 := 96) (hi := 125) okD_mX11_withMaps (mv_Tok_of okT11) (by decide +kernel)
theorem okD_mX11_make : mv_dchk mX11_make = true := by decide +kernel
theorem ok_mX11_make : mv_mok sysY mX11_make := mv_mok_of (hc := 1562) (h2 := 1561) (h3 := 99) (hi := 125) okD_mX11_make (mv_Tok_of okT11) (by decide +kernel)
theorem okD_mX11_look : mv_dchk mX11_look = true := by decide +kernel
theorem ok_mX11_look : mv_mok sysY mX11_look := mv_mok_of (hc := 1624) (h2 := 1623) (h3 := 113) (hi := 125) okD_mX11_look (mv_Tok_of okT11) (by decide +kernel)
theorem okD_mX11_goOver : mv_dchk mX11_goOver = true := by decide +kernel
theorem ok_mX11_goOver : mv_mok sysY mX11_goOver := mv_mok_of (hc := 1620) (h2 := 1619) (h3 := 112) (hi := 125) okD_mX11_goOver (mv_Tok_of okT11) (by decide +kernel)
theorem okD_mX11_outSize : mv_dchk mX11_outSize = true := by decide +kernel
theorem ok_mX11_outSize : mv_mok sysY mX11_outSize := mv_mok_of (hc := 1640) (h2 := 1638) (h3 := 1639) (hi := 125) okD_mX11_outSize (mv_Tok_of okT11) (by decide +kernel)
theorem okD_mX11_out : mv_dchk mX11_out = true := by decide +kernel
theorem ok_mX11_out : mv_mok sysY mX11_out := mv_mok_of (hc := 1644) (h2 := 1642) (h3 := 1643) (hi := 125) okD_mX11_out (mv_Tok_of okT11) (by decide +kernel)
theorem okD_mX11_variable_ : mv_dchk mX11_variable_ = true := by decide +kernel
theorem ok_mX11_variable_ : mv_mok sysY mX11_variable_ := mv_mok_of (hc := 1648) (h2 := 1646) (h3 := 1647) (hi := 125) okD_mX11_variable_ (mv_Tok_of okT11) (by decide +kernel)
theorem okD_mX11_map : mv_dchk mX11_map = true := by decide +kernel
theorem ok_mX11_map : mv_mok sysY mX11_map := mv_mok_of (hc := 1652) (h2 := 1650) (h3 := 1651) (hi := 125) okD_mX11_map (mv_Tok_of okT11) (by decide +kernel)
theorem okD_mX11_count : mv_dchk mX11_count = true := by decide +kernel
theorem ok_mX11_count : mv_mok sysY mX11_count := mv_mok_of (hc := 1656) (h2 := 1654) (h3 := 1655) (hi := 125) okD_mX11_count (mv_Tok_of okT11) (by decide +kernel)
end
section
theorem okC0 : mv_cok 0 := mv_cok_of (C := RX0) (T := TX0) (N := 16) (ty := tyX0) (hs := [225, 227, 229, 231, 233, 235, 237, 239, 241, 243, 245, 247, 249, 251, 253, 255]) rfl (by decide +kernel) tyX0_ok nmX0
theorem okC1 : mv_cok 1 := mv_cok_of (C := RX1) (T := TX1) (N := 4) (ty := tyX1) (hs := [194, 196, 198, 200]) rfl (by decide +kernel) tyX1_ok nmX1
theorem okC2 : mv_cok 2 := mv_cok_of (C := RX2) (T := TX2) (N := 13) (ty := tyX2) (hs := [156, 158, 160, 162, 164, 166, 168, 170, 172, 174, 176, 178, 180]) rfl (by decide +kernel) tyX2_ok nmX2
theorem okC3 : mv_cok 3 := mv_cok_of (C := RX4) (T := TX4) (N := 5) (ty := tyX4) (hs := [353, 355, 357, 359, 361]) rfl (by decide +kernel) tyX4_ok nmX4
theorem okC4 : mv_cok 4 := mv_cok_of (C := RX5) (T := TX5) (N := 17) (ty := tyX5) (hs := [307, 309, 311, 313, 315, 317, 319, 321, 323, 325, 327, 329, 331, 333, 335, 337, 339]) rfl (by decide +kernel) tyX5_ok nmX5
theorem okC5 : mv_cok 5 := mv_cok_of (C := RX7) (T := TX7) (N := 6) (ty := tyX7) (hs := [276, 278, 280, 282, 284, 286]) rfl (by decide +kernel) tyX7_ok nmX7
theorem okC6 : mv_cok 6 := mv_cok_of (C := RX8) (T := TX8) (N := 9) (ty := tyX8) (hs := [379, 381, 383, 385, 387, 389, 391, 393, 395]) rfl (by decide +kernel) tyX8_ok nmX8
theorem okC7 : mv_cok 7 := mv_cok_of (C := RX10) (T := TX10) (N := 6) (ty := tyX10) (hs := [408, 410, 412, 414, 416, 418]) rfl (by decide +kernel) tyX10_ok nmX10
theorem okC8 : mv_cok 8 := mv_cok_of (C := RX11) (T := TX11) (N := 66) (ty := tyX11) (hs := [1227, 1229, 1231, 1233, 1235, 1237, 1239, 1241, 1243, 1245, 1247, 1249, 1251, 1253, 1255, 1257, 1259, 1261, 1263, 1265, 1267, 1269, 1271, 1273, 1275, 1277, 1279, 1281, 1283, 1285, 1287, 1289, 1291, 1293, 1295, 1297, 1299, 1301, 1303, 1305, 1307, 1309, 1311, 1313, 1315, 1317, 1319, 1321, 1323, 1325, 1327, 1329, 1331, 1333, 1335, 1337, 1339, 1341, 1343, 1345, 1347, 1349, 1351, 1353, 1355, 1357]) rfl (by decide +kernel) tyX11_ok nmX11
theorem okC : ∀ ci < 9, mv_cok ci := fun ci h => match ci, h with
  | 0, _ => okC0
  | 1, _ => okC1
  | 2, _ => okC2
  | 3, _ => okC3
  | 4, _ => okC4
  | 5, _ => okC5
  | 6, _ => okC6
  | 7, _ => okC7
  | 8, _ => okC8
  | n + 9, h => absurd h (by omega)
theorem okLX : mv_lok layX := mv_lok_of okC (by decide +kernel)
theorem okLY : mv_lok layY := mv_lok_of okC (by decide +kernel)
end
section
set_option maxRecDepth 100000 in
theorem ok_sysX : ∀ (j : Nat) (M : mv_M), sysX[j]? = some M → mv_mok sysX M := fun j M h => ((show ∀ M ∈ sysX, mv_mok sysX M from List.forall_mem_cons.mpr ⟨ok_mX0_furnish, List.forall_mem_cons.mpr ⟨ok_mX0_giveBackAll, List.forall_mem_cons.mpr ⟨ok_mX0_key, List.forall_mem_cons.mpr ⟨ok_mX0_value, List.forall_mem_cons.mpr ⟨ok_mX0_rank, List.forall_mem_cons.mpr ⟨ok_mX0_lesser, List.forall_mem_cons.mpr ⟨ok_mX0_greater, List.forall_mem_cons.mpr ⟨ok_mX0_rankOf, List.forall_mem_cons.mpr ⟨ok_mX0_beginMaking, List.forall_mem_cons.mpr ⟨ok_mX0_copy, List.forall_mem_cons.mpr ⟨ok_mX0_make, List.forall_mem_cons.mpr ⟨ok_mX0_hang, List.forall_mem_cons.mpr ⟨ok_mX0_over, List.forall_mem_cons.mpr ⟨ok_mX0_made, List.forall_mem_cons.mpr ⟨ok_mX0_surelyFits, List.forall_mem_cons.mpr ⟨ok_mX0_fits, List.forall_mem_cons.mpr ⟨ok_mX0_undo, List.forall_mem_cons.mpr ⟨ok_mX0_beginReaching, List.forall_mem_cons.mpr ⟨ok_mX0_reached, List.forall_mem_cons.mpr ⟨ok_mX0_reach, List.forall_mem_cons.mpr ⟨ok_mX0_giveBackUnreached, List.forall_mem_cons.mpr ⟨ok_mX0_size, List.forall_mem_cons.mpr ⟨ok_mX0_find, List.forall_mem_cons.mpr ⟨ok_mX0_least, List.forall_mem_cons.mpr ⟨ok_mX0_floor, List.forall_mem_cons.mpr ⟨ok_mX0_nth, List.forall_mem_cons.mpr ⟨ok_mX1_translate, List.forall_mem_cons.mpr ⟨ok_mX1_fail, List.forall_mem_cons.mpr ⟨ok_mX1_functions, List.forall_mem_cons.mpr ⟨ok_mX1_mainPart, List.forall_mem_cons.mpr ⟨ok_mX1_passEnd, List.forall_mem_cons.mpr ⟨ok_mX1_bare, List.forall_mem_cons.mpr ⟨ok_mX1_anyNumber, List.forall_mem_cons.mpr ⟨ok_mX1_newFunction, List.forall_mem_cons.mpr ⟨ok_mX1_knownFunction, List.forall_mem_cons.mpr ⟨ok_mX1_block, List.forall_mem_cons.mpr ⟨ok_mX1_statement, List.forall_mem_cons.mpr ⟨ok_mX1_finishStatement, List.forall_mem_cons.mpr ⟨ok_mX1_choice, List.forall_mem_cons.mpr ⟨ok_mX1_repetition, List.forall_mem_cons.mpr ⟨ok_mX1_eachKey, List.forall_mem_cons.mpr ⟨ok_mX1_loopRest, List.forall_mem_cons.mpr ⟨ok_mX1_numberPart, List.forall_mem_cons.mpr ⟨ok_mX1_mapPart, List.forall_mem_cons.mpr ⟨ok_mX1_shortcut, List.forall_mem_cons.mpr ⟨ok_mX1_plain, List.forall_mem_cons.mpr ⟨ok_mX1_argument, List.forall_mem_cons.mpr ⟨ok_mX1_parts, List.forall_mem_cons.mpr ⟨ok_mX2_clear, List.forall_mem_cons.mpr ⟨ok_mX2_add, List.forall_mem_cons.mpr ⟨ok_mX2_forgetCode, List.forall_mem_cons.mpr ⟨ok_mX2_accept, List.forall_mem_cons.mpr ⟨ok_mX2_refuse, List.forall_mem_cons.mpr ⟨ok_mX2_size, List.forall_mem_cons.mpr ⟨ok_mX2_ready, List.forall_mem_cons.mpr ⟨ok_mX2_faultPlace, List.forall_mem_cons.mpr ⟨ok_mX2_hasToken, List.forall_mem_cons.mpr ⟨ok_mX2_token, List.forall_mem_cons.mpr ⟨ok_mX2_behind, List.forall_mem_cons.mpr ⟨ok_mX2_setBehind, List.forall_mem_cons.mpr ⟨ok_mX2_turn, List.forall_mem_cons.mpr ⟨ok_mX2_setTurn, List.forall_mem_cons.mpr ⟨ok_mX2_hasFunction, List.forall_mem_cons.mpr ⟨ok_mX2_addFunction, List.forall_mem_cons.mpr ⟨ok_mX2_addMain, List.forall_mem_cons.mpr ⟨ok_mX2_parameters, List.forall_mem_cons.mpr ⟨ok_mX2_firstWord, List.forall_mem_cons.mpr ⟨ok_mX2_firstToken, List.forall_mem_cons.mpr ⟨ok_mX2_mainWord, List.forall_mem_cons.mpr ⟨ok_mX2_mainToken, List.forall_mem_cons.mpr ⟨ok_mX2_numbers, List.forall_mem_cons.mpr ⟨ok_mX2_emit, List.forall_mem_cons.mpr ⟨ok_mX2_emitHole, List.forall_mem_cons.mpr ⟨ok_mX2_fillHole, List.forall_mem_cons.mpr ⟨ok_mX2_emitted, List.forall_mem_cons.mpr ⟨ok_mX2_wordCount, List.forall_mem_cons.mpr ⟨ok_mX2_word, List.forall_mem_cons.mpr ⟨ok_mX3_at, List.forall_mem_cons.mpr ⟨ok_mX3_at_, List.forall_mem_cons.mpr ⟨ok_mX3_set, List.forall_mem_cons.mpr ⟨ok_mX3_set_, List.forall_mem_cons.mpr ⟨ok_mX3_zero, List.forall_mem_cons.mpr ⟨ok_mX4_begin, List.forall_mem_cons.mpr ⟨ok_mX4_drop, List.forall_mem_cons.mpr ⟨ok_mX4_there, List.forall_mem_cons.mpr ⟨ok_mX4_nextWord, List.forall_mem_cons.mpr ⟨ok_mX4_end, List.forall_mem_cons.mpr ⟨ok_mX4_goOn, List.forall_mem_cons.mpr ⟨ok_mX4_step, List.forall_mem_cons.mpr ⟨ok_mX4_goIf, List.forall_mem_cons.mpr ⟨ok_mX4_call, List.forall_mem_cons.mpr ⟨ok_mX4_nextKey, List.forall_mem_cons.mpr ⟨ok_mX5_clear, List.forall_mem_cons.mpr ⟨ok_mX5_begin, List.forall_mem_cons.mpr ⟨ok_mX5_forgetCalls, List.forall_mem_cons.mpr ⟨ok_mX5_steps, List.forall_mem_cons.mpr ⟨ok_mX5_addStep, List.forall_mem_cons.mpr ⟨ok_mX5_calls, List.forall_mem_cons.mpr ⟨ok_mX5_mostMade, List.forall_mem_cons.mpr ⟨ok_mX5_toldCount, List.forall_mem_cons.mpr ⟨ok_mX5_told, List.forall_mem_cons.mpr ⟨ok_mX5_variablePlace, List.forall_mem_cons.mpr ⟨ok_mX5_mapPlace, List.forall_mem_cons.mpr ⟨ok_mX5_number, List.forall_mem_cons.mpr ⟨ok_mX5_setNumber, List.forall_mem_cons.mpr ⟨ok_mX5_tree, List.forall_mem_cons.mpr ⟨ok_mX5_push, List.forall_mem_cons.mpr ⟨ok_mX5_pop, List.forall_mem_cons.mpr ⟨ok_mX5_pushMap, List.forall_mem_cons.mpr ⟨ok_mX5_popMap, List.forall_mem_cons.mpr ⟨ok_mX5_comingCell, List.forall_mem_cons.mpr ⟨ok_mX5_comeTo, List.forall_mem_cons.mpr ⟨ok_mX5_enter, List.forall_mem_cons.mpr ⟨ok_mX5_leave, List.forall_mem_cons.mpr ⟨ok_mX5_apply, List.forall_mem_cons.mpr ⟨ok_mX5_tell, List.forall_mem_cons.mpr ⟨ok_mX5_applyToNumbers, List.forall_mem_cons.mpr ⟨ok_mX5_askMap, List.forall_mem_cons.mpr ⟨ok_mX5_pushFloor, List.forall_mem_cons.mpr ⟨ok_mX5_changeMap, List.forall_mem_cons.mpr ⟨ok_mX5_takeParts, List.forall_mem_cons.mpr ⟨ok_mX5_keep, List.forall_mem_cons.mpr ⟨ok_mX5_live, List.forall_mem_cons.mpr ⟨ok_mX5_reachAll, List.forall_mem_cons.mpr ⟨ok_mX6_isStatement, List.forall_mem_cons.mpr ⟨ok_mX6_isNumber, List.forall_mem_cons.mpr ⟨ok_mX6_isMap, List.forall_mem_cons.mpr ⟨ok_mX6_arguments, List.forall_mem_cons.mpr ⟨ok_mX6_maps, List.forall_mem_cons.mpr ⟨ok_mX6_numbers, List.forall_mem_cons.mpr ⟨ok_mX6_word, List.forall_mem_cons.mpr ⟨ok_mX7_put, List.forall_mem_cons.mpr ⟨ok_mX7_without, List.forall_mem_cons.mpr ⟨ok_mX7_union, List.forall_mem_cons.mpr ⟨ok_mX7_unite, List.forall_mem_cons.mpr ⟨ok_mX7_copyTowards, List.forall_mem_cons.mpr ⟨ok_mX7_split, List.forall_mem_cons.mpr ⟨ok_mX7_join, List.forall_mem_cons.mpr ⟨ok_mX8_walk, List.forall_mem_cons.mpr ⟨ok_mX8_openAt, List.forall_mem_cons.mpr ⟨ok_mX8_close, List.forall_mem_cons.mpr ⟨ok_mX8_closeBehind, List.forall_mem_cons.mpr ⟨ok_mX8_setStage, List.forall_mem_cons.mpr ⟨ok_mX8_mayStep, List.forall_mem_cons.mpr ⟨ok_mX8_beginNext, List.forall_mem_cons.mpr ⟨ok_mX8_body, List.forall_mem_cons.mpr ⟨ok_mX8_comeBack, List.forall_mem_cons.mpr ⟨ok_mX8_beginPart, List.forall_mem_cons.mpr ⟨ok_mX8_choice, List.forall_mem_cons.mpr ⟨ok_mX8_repetition, List.forall_mem_cons.mpr ⟨ok_mX8_eachKey, List.forall_mem_cons.mpr ⟨ok_mX8_comeToKey, List.forall_mem_cons.mpr ⟨ok_mX8_answer, List.forall_mem_cons.mpr ⟨ok_mX8_call, List.forall_mem_cons.mpr ⟨ok_mX8_enter, List.forall_mem_cons.mpr ⟨ok_mX8_shortcut, List.forall_mem_cons.mpr ⟨ok_mX8_plain, List.forall_mem_cons.mpr ⟨ok_mX9_length, List.forall_mem_cons.mpr ⟨ok_mX10_init_, List.forall_mem_cons.mpr ⟨ok_mX10_feed, List.forall_mem_cons.mpr ⟨ok_mX10_compile, List.forall_mem_cons.mpr ⟨ok_mX10_place, List.forall_mem_cons.mpr ⟨ok_mX10_code, List.forall_mem_cons.mpr ⟨ok_mX10_start, List.forall_mem_cons.mpr ⟨ok_mX10_run, List.forall_mem_cons.mpr ⟨ok_mX10_interpret, List.forall_mem_cons.mpr ⟨ok_mX10_outSize, List.forall_mem_cons.mpr ⟨ok_mX10_out, List.forall_mem_cons.mpr ⟨ok_mX10_variable, List.forall_mem_cons.mpr ⟨ok_mX10_map, List.forall_mem_cons.mpr ⟨ok_mX10_count, List.forall_mem_cons.mpr ⟨ok_mX10_mayBeGranted, List.forall_mem_cons.mpr ⟨ok_mX10_leaveRun, fun _ h => absurd h List.not_mem_nil⟩⟩⟩⟩⟩⟩⟩⟩⟩⟩⟩⟩⟩⟩⟩⟩⟩⟩⟩⟩⟩⟩⟩⟩⟩⟩⟩⟩⟩⟩⟩⟩⟩⟩⟩⟩⟩⟩⟩⟩⟩⟩⟩⟩⟩⟩⟩⟩⟩⟩⟩⟩⟩⟩⟩⟩⟩⟩⟩⟩⟩⟩⟩⟩⟩⟩⟩⟩⟩⟩⟩⟩⟩⟩⟩⟩⟩⟩⟩⟩⟩⟩⟩⟩⟩⟩⟩⟩⟩⟩⟩⟩⟩⟩⟩⟩⟩⟩⟩⟩⟩⟩⟩⟩⟩⟩⟩⟩⟩⟩⟩⟩⟩⟩⟩⟩⟩⟩⟩⟩⟩⟩⟩⟩⟩⟩⟩⟩⟩⟩⟩⟩⟩⟩⟩⟩⟩⟩⟩⟩⟩⟩⟩⟩⟩⟩⟩⟩⟩⟩⟩⟩⟩⟩⟩⟩⟩⟩⟩⟩⟩⟩⟩⟩⟩⟩⟩⟩⟩⟩⟩⟩⟩)) M (List.mem_of_getElem? h)
set_option maxRecDepth 100000 in
theorem ok_sysY : ∀ (j : Nat) (M : mv_M), sysY[j]? = some M → mv_mok sysY M := fun j M h => ((show ∀ M ∈ sysY, mv_mok sysY M from List.forall_mem_cons.mpr ⟨ok_mX11_in, List.forall_mem_cons.mpr ⟨ok_mX11_init_, List.forall_mem_cons.mpr ⟨ok_mX11_feed, List.forall_mem_cons.mpr ⟨ok_mX11_token, List.forall_mem_cons.mpr ⟨ok_mX11_wrong, List.forall_mem_cons.mpr ⟨ok_mX11_number, List.forall_mem_cons.mpr ⟨ok_mX11_known, List.forall_mem_cons.mpr ⟨ok_mX11_later, List.forall_mem_cons.mpr ⟨ok_mX11_lay, List.forall_mem_cons.mpr ⟨ok_mX11_mark, List.forall_mem_cons.mpr ⟨ok_mX11_newHole, List.forall_mem_cons.mpr ⟨ok_mX11_layHole, List.forall_mem_cons.mpr ⟨ok_mX11_fill, List.forall_mem_cons.mpr ⟨ok_mX11_layBack, List.forall_mem_cons.mpr ⟨ok_mX11_remember, List.forall_mem_cons.mpr ⟨ok_mX11_readAll, List.forall_mem_cons.mpr ⟨ok_mX11_isDeep, List.forall_mem_cons.mpr ⟨ok_mX11_readStatements, List.forall_mem_cons.mpr ⟨ok_mX11_readStatement, List.forall_mem_cons.mpr ⟨ok_mX11_readOver, List.forall_mem_cons.mpr ⟨ok_mX11_readCall, List.forall_mem_cons.mpr ⟨ok_mX11_readExpression, List.forall_mem_cons.mpr ⟨ok_mX11_readEither, List.forall_mem_cons.mpr ⟨ok_mX11_readMap, List.forall_mem_cons.mpr ⟨ok_mX11_readFunction, List.forall_mem_cons.mpr ⟨ok_mX11_compile, List.forall_mem_cons.mpr ⟨ok_mX11_place, List.forall_mem_cons.mpr ⟨ok_mX11_code, List.forall_mem_cons.mpr ⟨ok_mX11_rank, List.forall_mem_cons.mpr ⟨ok_mX11_rankOf, List.forall_mem_cons.mpr ⟨ok_mX11_markTree, List.forall_mem_cons.mpr ⟨ok_mX11_findLive, List.forall_mem_cons.mpr ⟨ok_mX11_beginMaking, List.forall_mem_cons.mpr ⟨ok_mX11_cell, List.forall_mem_cons.mpr ⟨ok_mX11_split, List.forall_mem_cons.mpr ⟨ok_mX11_climb, List.forall_mem_cons.mpr ⟨ok_mX11_put, List.forall_mem_cons.mpr ⟨ok_mX11_find, List.forall_mem_cons.mpr ⟨ok_mX11_without, List.forall_mem_cons.mpr ⟨ok_mX11_union, List.forall_mem_cons.mpr ⟨ok_mX11_isMade, List.forall_mem_cons.mpr ⟨ok_mX11_sizeOf, List.forall_mem_cons.mpr ⟨ok_mX11_above, List.forall_mem_cons.mpr ⟨ok_mX11_floor, List.forall_mem_cons.mpr ⟨ok_mX11_clear, List.forall_mem_cons.mpr ⟨ok_mX11_clearOwn, List.forall_mem_cons.mpr ⟨ok_mX11_start, List.forall_mem_cons.mpr ⟨ok_mX11_run, List.forall_mem_cons.mpr ⟨ok_mX11_interpret, List.forall_mem_cons.mpr ⟨ok_mX11_word, List.forall_mem_cons.mpr ⟨ok_mX11_isStep, List.forall_mem_cons.mpr ⟨ok_mX11_nextKey, List.forall_mem_cons.mpr ⟨ok_mX11_go, List.forall_mem_cons.mpr ⟨ok_mX11_push, List.forall_mem_cons.mpr ⟨ok_mX11_pushMap, List.forall_mem_cons.mpr ⟨ok_mX11_pop, List.forall_mem_cons.mpr ⟨ok_mX11_variable, List.forall_mem_cons.mpr ⟨ok_mX11_setVariable, List.forall_mem_cons.mpr ⟨ok_mX11_perform, List.forall_mem_cons.mpr ⟨ok_mX11_end, List.forall_mem_cons.mpr ⟨ok_mX11_reckon, List.forall_mem_cons.mpr ⟨ok_mX11_of, List.forall_mem_cons.mpr ⟨ok_mX11_turn, List.forall_mem_cons.mpr ⟨ok_mX11_call, List.forall_mem_cons.mpr ⟨ok_mX11_mapOf, List.forall_mem_cons.mpr ⟨ok_mX11_withMaps, List.forall_mem_cons.mpr ⟨ok_mX11_make, List.forall_mem_cons.mpr ⟨ok_mX11_look, List.forall_mem_cons.mpr ⟨ok_mX11_goOver, List.forall_mem_cons.mpr ⟨ok_mX11_outSize, List.forall_mem_cons.mpr ⟨ok_mX11_out, List.forall_mem_cons.mpr ⟨ok_mX11_variable_, List.forall_mem_cons.mpr ⟨ok_mX11_map, List.forall_mem_cons.mpr ⟨ok_mX11_count, fun _ h => absurd h List.not_mem_nil⟩⟩⟩⟩⟩⟩⟩⟩⟩⟩⟩⟩⟩⟩⟩⟩⟩⟩⟩⟩⟩⟩⟩⟩⟩⟩⟩⟩⟩⟩⟩⟩⟩⟩⟩⟩⟩⟩⟩⟩⟩⟩⟩⟩⟩⟩⟩⟩⟩⟩⟩⟩⟩⟩⟩⟩⟩⟩⟩⟩⟩⟩⟩⟩⟩⟩⟩⟩⟩⟩⟩⟩⟩⟩)) M (List.mem_of_getElem? h)
end
section
/-! THE CONSTRUCTORS: a second small machine, straight on, that makes cells. Its store is the list of the cells. -/
/-- a cell: an object (its class, its fields), or a row of zeros (0 ints, 1 booleans, 2 longs; its length) -/
abbrev mc_X : Type := (Nat × List Value) ⊕ (Nat × Nat)
abbrev mc_M : Type := List mc_X
def mc_e (cy : Nat → ClassId) (ad : Nat → Nat) : mc_X → va_E
  | .inl (ci, fs) => .inr (ci, fs.map (mv_k ad))
  | .inr (0, n) => .inl (cy 0, n, .inl (fun _ => 0))
  | .inr (1, n) => .inl (cy 1, n, .inl (fun _ => 0))
  | .inr (_ + 2, n) => .inl (cy 2, n, .inr (.inl (fun _ => 0)))
def mc_w (cy : Nat → ClassId) (ad : Nat → Nat) : Nat → mc_M → va_W
  | _, [] => []
  | q, e :: r => (ad q, mc_e cy ad e) :: mc_w cy ad (q + 1) r
def mc_v (n : Nat) : Value → Bool
  | .ref i => Nat.blt i n
  | _ => true
def mc_cv (n : Nat) : mc_X → Bool
  | .inl (_, fs) => fs.all (mc_v n)
  | .inr _ => true
/-- name, bytes, locals, number of parameters, (fields, callees: index, kind, number; classes that are made), instructions; kinds: 0 Object's, 1 a constructor, 2 a nest mate's, 3 a method -/
abbrev mc_C : Type := MethodName × ByteArray × Nat × Nat × (List (Nat × Nat × Nat) × List (Nat × Nat × Nat) × List (Nat × Nat)) × List (Nat × Instr)
abbrev mc_Call : Type := Nat → List Value → mc_M → Option (mc_M × Nat × Nat)
def mc_nx (pc : Nat) : List (Nat × Instr) → Bool
  | (q, _) :: _ => Nat.beq q pc
  | [] => false
def mc_df : List (List Value) := [[.null, .null, .null, .null, .null, .null, .null, .null, .int 0, .int 0, .int 0, .int 0, .int 0, .int 0, .int 0, .int 0], [.null, .int 0, .int 0, .int 0], [.null, .null, .null, .null, .null, .null, .null, .int 0, .int 0, .int 0, .int 0, .int 0, .int 0], [.null, .null, .int 0, .int 0, .int 0], [.null, .null, .null, .null, .null, .null, .null, .null, .null, .null, .null, .int 0, .int 0, .int 0, .int 0, .int 0, .int 0], [.null, .null, .null, .null, .int 0, .int 0], [.null, .null, .null, .null, .int 0, .int 0, .int 0, .int 0, .int 0], [.null, .null, .null, .null, .null, .null]]
def mc_at2 (ty : Jvm.ClassFile.ArrayType) (n : Nat) : Option mc_X := match ty with
  | .int => some (.inr (0, n))
  | .boolean => some (.inr (1, n))
  | .long => some (.inr (2, n))
  | _ => none
def mc_pok (ci k : Nat) : Value → Bool
  | .int x => (match vwCl[ci]? with
    | some (_, T, _) => decide (parseFieldDescriptor (T k).2.2.1 = some .int)
    | none => false)
  | .ref _ => (match vwCl[ci]? with
    | some (_, T, _) => (match parseFieldDescriptor (T k).2.2.1 with
      | some (.array _) => true
      | some (.object _) => true
      | _ => false)
    | none => false)
  | _ => false
def mc_go (df : List (List Value)) (ctors : List mc_C) (Call : mc_Call) (T : List (Nat × Nat × Nat) × List (Nat × Nat × Nat) × List (Nat × Nat)) (lv : List (Nat × Value)) : List (Nat × Instr) → List Value → mc_M → Nat → Nat → Option (mc_M × Nat × Nat)
  | [], _, _, _, _ => none
  | (pc, i) :: r, st, M, k, n => match i with
    | .return_ => match st with
      | [] => some (M, k, n)
      | _ => none
    | .aload_n j => match mv_at j.val lv with
      | some (.ref q) => bif mc_nx (pc + 1) r then mc_go df ctors Call T lv r (.ref q :: st) M k n else none
      | _ => none
    | .iload_n j => match mv_at j.val lv with
      | some (.int q) => bif mc_nx (pc + 1) r then mc_go df ctors Call T lv r (.int q :: st) M k n else none
      | _ => none
    | .iconst x => bif mc_nx (pc + 1) r then mc_go df ctors Call T lv r (.int (Int32.ofInt x) :: st) M k n else none
    | .bipush x => bif mc_nx (pc + 2) r then mc_go df ctors Call T lv r (.int (Int8.ofInt x).toInt32 :: st) M k n else none
    | .sipush x => bif mc_nx (pc + 3) r then mc_go df ctors Call T lv r (.int (Int16.ofInt x).toInt32 :: st) M k n else none
    | .dup => match st with
      | .ref q :: s2 => bif mc_nx (pc + 1) r then mc_go df ctors Call T lv r (.ref q :: .ref q :: s2) M k n else none
      | _ => none
    | .newarray ty => match st with
      | .int x :: s2 => match mc_at2 ty x.toNatClampNeg with
        | some e => bif mc_nx (pc + 2) r && decide (¬ x < 0) && Nat.blt x.toNatClampNeg 60000000 && M.all (mc_cv M.length) && (s2.all (mc_v M.length) && lv.all (fun q => mc_v M.length q.2)) then mc_go df ctors Call T lv r (.ref M.length :: s2) (M ++ [e]) (k + 1) (n + x.toNatClampNeg) else none
        | none => none
      | _ => none
    | .new j => match mv_at j T.2.2 with
      | some ci => match df[ci]? with
        | some fs => bif mc_nx (pc + 3) r && M.all (mc_cv M.length) && (st.all (mc_v M.length) && lv.all (fun q => mc_v M.length q.2)) && fs.all (mc_v 0) then mc_go df ctors Call T lv r (.ref M.length :: st) (M ++ [.inl (ci, fs)]) (k + 1) (n + fs.length) else none
        | none => none
      | none => none
    | .getfield j => match st with
      | .ref q :: s2 => match mv_at j T.1 with
        | some (ci, f) => match M[q]? with
          | some (.inl (cj, fs)) => match fs[f]? with
            | some v => bif Nat.beq cj ci && mc_nx (pc + 3) r then mc_go df ctors Call T lv r (v :: s2) M k n else none
            | none => none
          | _ => none
        | none => none
      | _ => none
    | .putfield j => match st with
      | v :: .ref q :: s2 => match mv_at j T.1 with
        | some (ci, f) => match M[q]? with
          | some (.inl (cj, fs)) => bif Nat.beq cj ci && Nat.blt f fs.length && mc_pok ci f v && mc_nx (pc + 3) r then mc_go df ctors Call T lv r s2 (M.set q (.inl (ci, fs.set f v))) k n else none
          | _ => none
        | none => none
      | _ => none
    | .invokespecial j => match mv_at j T.2.1 with
      | some (0, _) => match st with
        | .ref _ :: s2 => bif mc_nx (pc + 3) r && Nat.ble (mv_cat s2) 8 then mc_go df ctors Call T lv r s2 M k n else none
        | _ => none
      | some (t + 1, c) => match ctors[c]? with
        | some C => match st.drop C.2.2.2.1 with
          | .ref q :: s2 => match Call c (.ref q :: (st.take C.2.2.2.1).reverse) M with
            | some (M2, k2, n2) => bif mc_nx (pc + 3) r && Nat.blt t 2 && Nat.beq (st.take C.2.2.2.1).length C.2.2.2.1 && Nat.ble (mv_cat s2) 8 && Nat.ble M.length M2.length && (s2.all (mc_v M.length) && lv.all (fun q => mc_v M.length q.2)) then mc_go df ctors Call T lv r s2 M2 (k + k2) (n + n2) else none
            | none => none
          | _ => none
        | none => none
      | none => none
    | .invokevirtual j => match mv_at j T.2.1 with
      | some (3, c) => match ctors[c]? with
        | some C => match st.drop C.2.2.2.1 with
          | .ref q :: s2 => match M[q]? with
            | some (.inl (ci, _)) => match Call c (.ref q :: (st.take C.2.2.2.1).reverse) M with
              | some (M2, k2, n2) => bif mc_nx (pc + 3) r && decide ((vwCl[ci]?).map (fun q => q.1) = some C.1.cls) && Nat.beq (st.take C.2.2.2.1).length C.2.2.2.1 && Nat.ble (mv_cat s2) 8 && Nat.ble M.length M2.length && (s2.all (mc_v M.length) && lv.all (fun q => mc_v M.length q.2)) then mc_go df ctors Call T lv r s2 M2 (k + k2) (n + n2) else none
              | none => none
            | _ => none
          | _ => none
        | none => none
      | _ => none
    | _ => none
def mc_big (df : List (List Value)) (ctors : List mc_C) : Nat → mc_Call
  | 0, _, _, _ => none
  | d + 1, j, a, M => match ctors[j]? with
    | none => none
    | some C => bif Nat.ble (lg_sl a).length C.2.2.1 && a.all (mc_v M.length) && mc_nx 0 C.2.2.2.2.2 then mc_go df ctors (mc_big df ctors d) C.2.2.2.2.1 (lv_args 0 a) C.2.2.2.2.2 [] M 0 0 else none
/-! rows of it -/
theorem mc_w_at (cy : Nat → ClassId) (ad : Nat → Nat) : ∀ (l : mc_M) (q0 q : Nat), (mc_w cy ad q0 l)[q]? = (l[q]?).map (fun e => (ad (q0 + q), mc_e cy ad e))
  | [], q0, q => by simp [mc_w]
  | d :: r, q0, 0 => by simp [mc_w]
  | d :: r, q0, q + 1 => by
    simp only [mc_w, List.getElem?_cons_succ]
    rw [mc_w_at cy ad r (q0 + 1) q, show q0 + 1 + q = q0 + (q + 1) by omega]
theorem mc_w_get {cy : Nat → ClassId} {ad : Nat → Nat} {M : mc_M} {q : Nat} {e : mc_X} (h : M[q]? = some e) : (mc_w cy ad 0 M)[q]? = some (ad q, mc_e cy ad e) := by
  rw [mc_w_at, h, Nat.zero_add]; rfl
theorem mc_w_len (cy : Nat → ClassId) (ad : Nat → Nat) : ∀ (l : mc_M) (q0 : Nat), (mc_w cy ad q0 l).length = l.length
  | [], _ => rfl
  | _ :: r, q0 => by simp [mc_w, mc_w_len cy ad r]
theorem mc_w_set (cy : Nat → ClassId) (ad : Nat → Nat) (M : mc_M) (q : Nat) (e : mc_X) : (mc_w cy ad 0 M).set q (ad q, mc_e cy ad e) = mc_w cy ad 0 (M.set q e) := by
  apply List.ext_getElem?
  intro p
  rw [List.getElem?_set, mc_w_at, mc_w_at, List.getElem?_set, mc_w_len]
  by_cases hp : q = p
  · subst hp
    rw [if_pos rfl, if_pos rfl]
    by_cases hl : q < M.length
    · rw [if_pos hl, if_pos hl, Nat.zero_add]; rfl
    · rw [if_neg hl, if_neg hl]; rfl
  · rw [if_neg hp, if_neg hp]
theorem mc_k_up {ad ad' : Nat → Nat} {n : Nat} (hu : ∀ q, q < n → ad' q = ad q) {v : Value} (h : mc_v n v = true) : mv_k ad' v = mv_k ad v := by
  cases v <;> try rfl
  next i =>
    simp only [mv_k]
    rw [hu i (Nat.le_of_ble_eq_true h)]
theorem mc_ks_up {ad ad' : Nat → Nat} {n : Nat} (hu : ∀ q, q < n → ad' q = ad q) {l : List Value} (h : l.all (mc_v n) = true) : l.map (mv_k ad') = l.map (mv_k ad) := List.map_congr_left (fun v hv => mc_k_up hu (List.all_eq_true.mp h v hv))
theorem mc_lv_up {ad ad' : Nat → Nat} {n : Nat} (hu : ∀ q, q < n → ad' q = ad q) {l : List (Nat × Value)} (h : l.all (fun q => mc_v n q.2) = true) : mv_ks ad' l = mv_ks ad l := List.map_congr_left (fun v hv => by rw [mc_k_up hu (List.all_eq_true.mp h v hv)])
theorem mc_e_up {cy : Nat → ClassId} {ad ad' : Nat → Nat} {n : Nat} (hu : ∀ q, q < n → ad' q = ad q) {e : mc_X} (h : mc_cv n e = true) : mc_e cy ad' e = mc_e cy ad e := by
  match e with
  | .inl (ci, fs) => simp only [mc_e]; rw [mc_ks_up hu h]
  | .inr (0, n) => rfl
  | .inr (1, n) => rfl
  | .inr (_ + 2, n) => rfl
theorem mc_w_up {cy : Nat → ClassId} {ad ad' : Nat → Nat} {M : mc_M} (hu : ∀ q, q < M.length → ad' q = ad q) (h : M.all (mc_cv M.length) = true) : mc_w cy ad' 0 M = mc_w cy ad 0 M := by
  apply List.ext_getElem?
  intro p
  rw [mc_w_at, mc_w_at]
  cases hp : M[p]? with
  | none => rfl
  | some e =>
    simp only [Option.map, Nat.zero_add]
    rw [hu p (mv_lt hp), mc_e_up hu (List.all_eq_true.mp h e (List.mem_of_getElem? hp))]
theorem mc_w_push {cy : Nat → ClassId} {ad : Nat → Nat} {M : mc_M} {a : Nat} {e : mc_X} {e2 : va_E} (h : M.all (mc_cv M.length) = true) (he : ∀ ad', mc_e cy ad' e = e2) : mc_w cy ad 0 M ++ [(a, e2)] = mc_w cy (va_up ad M.length a) 0 (M ++ [e]) := by
  have hu : ∀ q, q < M.length → va_up ad M.length a q = ad q := fun q hq => va_up_ne _ _ (Nat.ne_of_lt hq)
  rw [← mc_w_up hu h]
  apply List.ext_getElem?
  intro p
  rw [List.getElem?_append, mc_w_at, mc_w_at, mc_w_len, List.getElem?_append]
  by_cases hp : p < M.length
  · rw [if_pos hp, if_pos hp]
  · rw [if_neg hp, if_neg hp]
    by_cases h0 : p = M.length
    · subst h0
      simp [va_up, he]
    · have : p - M.length ≠ 0 := by omega
      obtain ⟨z, hz⟩ := Nat.exists_eq_succ_of_ne_zero this
      rw [hz]; simp
theorem mc_grow {df : List (List Value)} {ctors : List mc_C} {Call : mc_Call} {T : List (Nat × Nat × Nat) × List (Nat × Nat × Nat) × List (Nat × Nat)} {lv : List (Nat × Value)} {M' : mc_M} {k' n' : Nat} : ∀ (il : List (Nat × Instr)) (st : List Value) (M : mc_M) (k n : Nat), mc_go df ctors Call T lv il st M k n = some (M', k', n') → k ≤ k' ∧ n ≤ n'
  | [], st, M, k, n, h => by simp [mc_go] at h
  | (pc, i) :: r, st, M, k, n, h => by
    have ih := mc_grow (df := df) (ctors := ctors) (Call := Call) (T := T) (lv := lv) (M' := M') (k' := k') (n' := n') r
    have cd : ∀ {b : Bool} {X : Option (mc_M × Nat × Nat)}, (bif b then X else none) = some (M', k', n') → X = some (M', k', n') := fun {b X} h => by cases b <;> simp_all
    unfold mc_go at h
    split at h
    · split at h
      · cases h; exact ⟨Nat.le_refl _, Nat.le_refl _⟩
      · cases h
    · split at h
      · exact ih _ _ _ _ (cd h)
      · cases h
    · split at h
      · exact ih _ _ _ _ (cd h)
      · cases h
    · exact ih _ _ _ _ (cd h)
    · exact ih _ _ _ _ (cd h)
    · exact ih _ _ _ _ (cd h)
    · split at h
      · exact ih _ _ _ _ (cd h)
      · cases h
    · split at h
      · split at h
        · obtain ⟨a, b⟩ := ih _ _ _ _ (cd h); omega
        · cases h
      · cases h
    · split at h
      · split at h
        · obtain ⟨a, b⟩ := ih _ _ _ _ (cd h); omega
        · cases h
      · cases h
    · split at h
      · split at h
        · split at h
          · split at h
            · exact ih _ _ _ _ (cd h)
            · cases h
          · cases h
        · cases h
      · cases h
    · split at h
      · split at h
        · split at h
          · exact ih _ _ _ _ (cd h)
          · cases h
        · cases h
      · cases h
    · split at h
      · split at h
        · exact ih _ _ _ _ (cd h)
        · cases h
      · split at h
        · split at h
          · split at h
            · obtain ⟨a, b⟩ := ih _ _ _ _ (cd h); omega
            · cases h
          · cases h
        · cases h
      · cases h
    · split at h
      · split at h
        · split at h
          · split at h
            · split at h
              · obtain ⟨a, b⟩ := ih _ _ _ _ (cd h); omega
              · cases h
            · cases h
          · cases h
        · cases h
      · cases h
    · cases h
end
section
/-! THE CONSTRUCTORS' MACHINE IS SOUND -/
def mc_N (U : State) : Prop := va_Nw (.methodLinkNest "MapMachine" 11 ⟨"MapMachine$Program", "<init>", "()V"⟩ "MapMachine") U ∧ va_Nw (.methodLinkNest "MapMachine" 27 ⟨"MapMachine$Cells", "<init>", "()V"⟩ "MapMachine") U
theorem mc_N.moved {s U : State} (hW : s.WarmedH U.vm) (h : mc_N s) : mc_N U := ⟨h.1.warmM hW, h.2.warmM hW⟩
theorem mc_N.same {s U : State} (e : s.vm = U.vm) (h : mc_N s) : mc_N U := ⟨h.1.same rfl e, h.2.same rfl e⟩
def mc_A (cy : Nat → ClassId) (ad : Nat → Nat) (M : mc_M) (sz : Nat) : Nat → Prop := va_A (mc_w cy ad 0 M) sz
def mc_Pc (D : va_G) (cy : Nat → ClassId) (ad : Nat → Nat) (a : List Value) (M : mc_M) (sz : Nat) : Array Value → State → Prop := va_Pc (a.map (mv_k ad)) (fun U => U.heap.size = sz ∧ va_P D vwCl (mc_w cy ad 0 M) U.heap ∧ va_K D vwCl (mv_tys cy) U ∧ va_D (fun _ => True) (mc_w cy ad 0 M) ∧ mc_N U)
def mc_Qc (D : va_G) (cy : Nat → ClassId) (ad : Nat → Nat) (M M' : mc_M) (sz : Nat) : Array Value → State → Outcome → State → Prop := fun _ st oc t => (∃ ad' : Nat → Nat, oc = .returned none ∧ (∀ q, q < M.length → ad' q = ad q) ∧ va_P D vwCl (mc_w cy ad' 0 M') t.heap ∧ va_K D vwCl (mv_tys cy) t ∧ va_D (mc_A cy ad M sz) (mc_w cy ad' 0 M')) ∧ va_F (mc_A cy ad M sz) st t
def mc_rm (d k n : Nat) : Room := { frames := d, cells := k, slots := n, locals := 40 * d }
/-- what a constructor's links must be -/
def mc_cok (df : List (List Value)) (ctors : List mc_C) (C : mc_C) : Prop :=
  plainName C.1.cls = true ∧ Cond.code C.1 C.2.1 C.2.2.1 none ∈ mv_Ts ∧ (∀ q ∈ C.2.2.2.2.2, decode C.2.1 q.1 = .ok (q.2, if q.2 = .newarray .int ∨ q.2 = .newarray .boolean ∨ q.2 = .newarray .long then 2 else match q.2 with
    | .new _ => 3
    | .invokespecial _ => 3
    | i => mv_len q.1 i)) ∧
  (∀ i ci k, (i, ci, k) ∈ C.2.2.2.2.1.1 → mv_fok C.1.cls i ci k ∧ mv_cok ci ∧ ∀ (Cn : String) (T : u_T) (N : Nat), vwCl[ci]? = some (Cn, T, N) → (T k).2.2.2 = true → (T k).1 = C.1.cls ∧ C.1.name = "<init>") ∧
  (∀ (i t c : Nat), (i, t, c) ∈ C.2.2.2.2.1.2.1 → (t = 0 → Cond.methodLink C.1.cls i objectInit ∈ mv_Ts ∧ Cond.instanceMethod objectInit ∈ mv_Ts ∧ Cond.code objectInit ⟨#[0xb1]⟩ 1 none ∈ mv_Ts) ∧
    ∀ C' : mc_C, ctors[c]? = some C' → (t = 1 → Cond.methodLink C.1.cls i C'.1 ∈ mv_Ts ∧ C'.1.name = "<init>" ∧ Cond.instanceMethod C'.1 ∈ mv_Ts) ∧ (t = 2 → (∀ U : State, mc_N U → va_Nw (.methodLinkNest C.1.cls i C'.1 "MapMachine") U) ∧ C'.1.name = "<init>" ∧ Cond.instanceMethod C'.1 ∈ mv_Ts) ∧ (t = 3 → Cond.methodLink C.1.cls i C'.1 ∈ mv_Ts ∧ Cond.instanceMethod C'.1 ∈ mv_Ts ∧ Cond.selects C'.1.cls C'.1 C'.1 ∈ mv_Ts)) ∧
  (∀ (i ci : Nat), (i, ci) ∈ C.2.2.2.2.1.2.2 → mv_cok ci ∧ ∃ (Cn : String) (T : u_T) (N : Nat) (fs : List Value), vwCl[ci]? = some (Cn, T, N) ∧ df[ci]? = some fs ∧ fs.length = N ∧ Cond.classLink C.1.cls i Cn ∈ mv_Ts ∧ Cond.instantiable Cn N ∈ mv_Ts ∧ Cond.initialized Cn ∈ mv_Ts ∧ ∀ j, j < N → ∀ t, parseFieldDescriptor (T j).2.2.1 = some t → defaultValue t = vp_V fs j) ∧
  (C.1.cls ≠ "java/lang/invoke/MethodHandle" ∧ C.1.cls ≠ "java/lang/invoke/VarHandle" ∧ (parseMethodDescriptor C.1.desc).map (fun d => d.parameters.length) = some C.2.2.2.1) ∧ C.2.2.1 ≤ 21 ∧ Cond.initialized C.1.cls ∈ mv_Ts
theorem mc_bif {b : Bool} {X : Option (mc_M × Nat × Nat)} {r : mc_M × Nat × Nat} (h : (bif b then X else none) = some r) : b = true ∧ X = some r := by cases b <;> simp_all
theorem mc_nx_of {pc : Nat} {r : List (Nat × Instr)} (h : mc_nx pc r = true) : ∃ i t, r = (pc, i) :: t := by
  match r, h with
  | (q, i) :: t, h => exact ⟨i, t, by rw [Nat.eq_of_beq_eq_true h]⟩
theorem mc_ty {D : va_G} {cy : Nat → ClassId} {s : State} {cA : ClassId} {t : Nat} {ty : FieldType} (ht : (mv_tys cy)[t]? = some (cy t, ty)) (hob : ∀ C, ty ≠ .object C) (h : va_K D vwCl (mv_tys cy ++ [(cA, ty)]) s) : cA = cy t := by
  have h1 := (h.2 3 (cA, ty) (by simp [mv_tys])).2
  have hlt : t < 3 := mv_lt ht
  have h2 := (h.2 t (cy t, ty) (by rw [List.getElem?_append_left (by simpa [mv_tys] using hlt)]; exact ht)).2
  unfold va_RA at h1 h2
  cases ty with
  | object C => exact absurd rfl (hob C)
  | _ => exact Option.some.inj (h1.symm.trans h2)
section MC
variable {p : Program} {l : Launch} {e : Env} {R : Room} {s : State} {m : MethodId} {args : Array Value} {below : List Frame} {meth : Method} {c : Code}
variable {D : va_G} {cy : Nat → ClassId} {ad0 : Nat → Nat} {M0 M' : mc_M} {k' n' : Nat} {df : List (List Value)} {ctors : List mc_C} {Call : mc_Call} {C : mc_C} {lv : List (Nat × Value)} {Q : State → Prop}
def mc_W (D : va_G) (cy : Nat → ClassId) (ad0 : Nat → Nat) (M0 : mc_M) (s : State) (ad : Nat → Nat) (M : mc_M) (H : Heap) (locs : List Loc) : Prop := (∀ q, q < M0.length → ad q = ad0 q) ∧ M0.length ≤ M.length ∧ va_P D vwCl (mc_w cy ad 0 M) H ∧ va_D (mc_A cy ad0 M0 s.heap.size) (mc_w cy ad 0 M) ∧ va_S (mc_A cy ad0 M0 s.heap.size) s.heap H locs
/-- a call's row -/
def mc_Row (p : Program) (l : Launch) (e : Env) (R : Room) (s : State) (m : MethodId) (args : Array Value) (below : List Frame) (meth : Method) (c : Code) (Q : State → Prop) (D : va_G) (cy : Nat → ClassId) (ad0 : Nat → Nat) (M0 : mc_M) (nL pc : Nat) (a rest : List Value) (M M2 : mc_M) (k2 n2 : Nat) : Prop :=
  ∀ (ad : Nat → Nat) (H : Heap) (locs : List Loc) (ls : Array Slot) (st : List Value) (k n : Nat), (∃ (q : Nat) (As : List Value), a = .ref q :: As ∧ st = As.reverse ++ .ref q :: rest) → mv_cat rest ≤ 8 → k + k2 ≤ R.cells → n + n2 ≤ R.slots → mc_W D cy ad0 M0 s ad M H locs → ls.size = nL →
    (∀ (ad2 : Nat → Nat) (H' : Heap) (locs' : List Loc), (∀ q, q < M.length → ad2 q = ad q) → va_P D vwCl (mc_w cy ad2 0 M2) H' → va_D (mc_A cy ad0 M0 s.heap.size) (mc_w cy ad2 0 M2) → va_S (mc_A cy ad0 M0 s.heap.size) s.heap H' locs' → W p l e R s m args below meth c H' locs' (k + k2) (n + n2) Q (F0 m (pc + 3) ls (rest.map (mv_k ad)))) →
    W p l e R s m args below meth c H locs k n Q (F0 m pc ls (st.map (mv_k ad)))
theorem mc_push {cy : Nat → ClassId} {ad0 ad : Nat → Nat} {M0 M : mc_M} {s : State} {H1 : Heap} {locs : List Loc} {D : va_G} {q : Nat} {e : mc_X} {e2 : va_E} {A : Nat → Prop} (hu : ∀ q, q < M0.length → ad q = ad0 q) (hm : M0.length ≤ M.length) (hg : M.all (mc_cv M.length) = true) (he : ∀ ad', mc_e cy ad' e = e2) (hA : A = mc_A cy ad0 M0 s.heap.size) (hP : va_P D vwCl (mc_w cy ad 0 M ++ [(q, e2)]) H1) (hD : va_D A (mc_w cy ad 0 M ++ [(q, e2)])) (hS : va_S A s.heap H1 locs) : mc_W D cy ad0 M0 s (va_up ad M.length q) (M ++ [e]) H1 locs := by
  subst hA
  rw [mc_w_push hg he] at hP hD
  exact ⟨fun q' hq' => by rw [va_up_ne _ _ (Nat.ne_of_lt (Nat.lt_of_lt_of_le hq' hm))]; exact hu q' hq', by rw [List.length_append]; omega, hP, hD, hS⟩
theorem mc_frame {ad : Nat → Nat} {n q : Nat} {m : MethodId} {pc : Nat} {ls : Array Slot} {st : List Value} (h : st.all (mc_v n) = true) : F0 m pc ls (.ref q :: st.map (mv_k ad)) = F0 m pc ls ((Value.ref n :: st).map (mv_k (va_up ad n q))) := by
  have e1 : st.map (mv_k (va_up ad n q)) = st.map (mv_k ad) := mc_ks_up (fun q' hq' => va_up_ne _ _ (Nat.ne_of_lt hq')) h
  rw [List.map_cons, e1]
  simp only [mv_k, va_up_self]
set_option maxHeartbeats 4000000 in
theorem mc_snd {Qc : Array Value → State → Outcome → State → Prop} (hx : p.tables.exec = Jvm.exec) (hb : c.code = C.2.1) (hml : c.maxLocals = C.2.2.1) (hown : s.vm.findClass C.1.cls = some m.cls) (hname : meth.name = C.1.name) (hr : meth.sig.returnType = none) (hlocks : meth.locks = false) (hts : ∀ w ∈ mv_Ts, w.before args s = true) (hK : va_K D vwCl (mv_tys cy) s) (hC : mc_cok df ctors C)
    (hAr : ∀ ty : FieldType, ty = .int ∨ ty = .boolean ∨ ty = .long → Cond.arrayClass ty ∈ mv_Ts) (hRk : k' ≤ R.cells) (hRn : n' ≤ R.slots) (hRf : 1 ≤ R.frames) (hRl : 20 ≤ R.locals)
    (hQ : ∀ (ad : Nat → Nat) (H : Heap) (locs : List Loc) (t : State), mc_W D cy ad0 M0 s ad M' H locs → t.heap = H → s.WarmedH t.vm → Qc args s (.returned none) t)
    (hI : ∀ (pc i t j : Nat) (C' : mc_C) (a rest : List Value) (M M2 : mc_M) (k2 n2 : Nat), decode C.2.1 pc = .ok (.invokespecial i, 3) → (i, t + 1, j) ∈ C.2.2.2.2.1.2.1 → t < 2 → ctors[j]? = some C' → a.length = C'.2.2.2.1 + 1 → Call j a M = some (M2, k2, n2) → mc_Row p l e R s m args below meth c (MQ below Qc args s k' n' (mc_A cy ad0 M0 s.heap.size)) D cy ad0 M0 C.2.2.1 pc a rest M M2 k2 n2)
    (hV : ∀ (pc i j q ci : Nat) (fs : List Value) (C' : mc_C) (As rest : List Value) (M M2 : mc_M) (k2 n2 : Nat), decode C.2.1 pc = .ok (.invokevirtual i, 3) → (i, 3, j) ∈ C.2.2.2.2.1.2.1 → ctors[j]? = some C' → As.length = C'.2.2.2.1 → M[q]? = some (.inl (ci, fs)) → (vwCl[ci]?).map (fun q => q.1) = some C'.1.cls → Call j (.ref q :: As) M = some (M2, k2, n2) → mc_Row p l e R s m args below meth c (MQ below Qc args s k' n' (mc_A cy ad0 M0 s.heap.size)) D cy ad0 M0 C.2.2.1 pc (.ref q :: As) rest M M2 k2 n2) :
    ∀ (il : List (Nat × Instr)), (∀ q ∈ il, q ∈ C.2.2.2.2.2) → ∀ (pc : Nat) (i : Instr) (r : List (Nat × Instr)), il = (pc, i) :: r → ∀ (st : List Value) (M : mc_M) (k n : Nat), mc_go df ctors Call C.2.2.2.2.1 lv il st M k n = some (M', k', n') → ∀ (ad : Nat → Nat) (H : Heap) (locs : List Loc) (ls : Array Slot), mc_W D cy ad0 M0 s ad M H locs → lv_has ls C.2.2.1 (mv_ks ad lv) → W p l e R s m args below meth c H locs k n (MQ below Qc args s k' n' (mc_A cy ad0 M0 s.heap.size)) (F0 m pc ls (st.map (mv_k ad))) := by
  obtain ⟨-, -, hdec, hfl, hcl, hnl, -, -, -⟩ := hC
  have hA : ∀ q : Nat, s.heap.size ≤ q → mc_A cy ad0 M0 s.heap.size q := fun q h => Or.inr h
  intro il
  induction il with
  | nil => intro _ pc i r h; cases h
  | cons x r ih =>
    intro hsub pc i r2 hil st M k n h ad H locs ls hW hl
    cases hil
    have hsub2 : ∀ q ∈ r, q ∈ C.2.2.2.2.2 := fun q hq => hsub q (List.mem_cons_of_mem _ hq)
    have hd := hdec _ (hsub _ List.mem_cons_self)
    have go : ∀ {pc' : Nat} {st' : List Value} {M1 : mc_M} {k1 n1 : Nat} {ad' : Nat → Nat} {H' : Heap} {locs' : List Loc} {ls' : Array Slot}, mc_nx pc' r = true → mc_go df ctors Call C.2.2.2.2.1 lv r st' M1 k1 n1 = some (M', k', n') → mc_W D cy ad0 M0 s ad' M1 H' locs' → lv_has ls' C.2.2.1 (mv_ks ad' lv) → W p l e R s m args below meth c H' locs' k1 n1 (MQ below Qc args s k' n' (mc_A cy ad0 M0 s.heap.size)) (F0 m pc' ls' (st'.map (mv_k ad'))) := by
      intro pc' st' M1 k1 n1 ad' H' locs' ls' hn hg hW' hl'
      obtain ⟨i', t', e1⟩ := mc_nx_of hn
      exact ih hsub2 pc' i' t' e1 st' M1 k1 n1 hg ad' H' locs' ls' hW' hl'
    dsimp only at hd
    unfold mc_go at h
    split at h
    · -- return
      split at h
      · cases h
        exact W.vret (Qc := Qc) hx hb hr (fun t ht hw => hQ ad H locs t hW ht hw) hW.2.2.2.2.2.2 hd
      · cases h
    · -- aload
      split at h
      · next q hm =>
        obtain ⟨h1, h2⟩ := mc_bif h
        exact lv_aload_n hx hb hd rfl (mv_ks_at hl hm) (go h1 h2 hW hl)
      · cases h
    · split at h
      · next q hm =>
        obtain ⟨h1, h2⟩ := mc_bif h
        exact lv_iload_n hx hb hd rfl (mv_ks_at hl hm) (go h1 h2 hW hl)
      · cases h
    · obtain ⟨h1, h2⟩ := mc_bif h
      exact lv_iconst hx hb hd rfl (go h1 h2 hW hl)
    · obtain ⟨h1, h2⟩ := mc_bif h
      exact lv_bipush hx hb hd rfl (go h1 h2 hW hl)
    · obtain ⟨h1, h2⟩ := mc_bif h
      exact lv_sipush hx hb hd rfl (go h1 h2 hW hl)
    · split at h
      · obtain ⟨h1, h2⟩ := mc_bif h
        exact lv_dup hx hb hd rfl (go h1 h2 hW hl)
      · cases h
    · rename_i ty
      split at h
      · next x s2 =>
        split at h
        · next ex hat =>
          obtain ⟨hg, h2⟩ := mc_bif h
          simp only [Bool.and_eq_true, decide_eq_true_eq] at hg
          obtain ⟨⟨⟨⟨g1, g2⟩, g3⟩, g4⟩, g5, g6⟩ := hg
          have g33 : x.toNatClampNeg + 1 ≤ 60000000 := Nat.le_of_ble_eq_true g3
          obtain ⟨gk, gn⟩ := mc_grow _ _ _ _ _ h2
          cases ty <;> simp only [mc_at2] at hat <;> cases hat
          case int =>
            refine va_newa (atype := .int) (tys := mv_tys cy) (ty := .int) (a0 := (x.toNatClampNeg, .inl (fun _ => 0))) hx hb (hts _ (hAr .int (Or.inl rfl))) rfl hK hW.2.2.1 hW.2.2.2.1 hW.2.2.2.2 hA (fun cA => rfl) g2 rfl (by show _ * 4 ≤ _; omega) (by omega) (by omega) (by simpa using hd) (fun q cA H1 hK1 hP1 hD1 hS1 => ?_)
            have hcA : cA = cy 0 := mc_ty (t := 0) rfl (by intro C h; cases h) hK1
            subst hcA
            exact W.eq (mc_frame g5) (go g1 h2 (mc_push hW.1 hW.2.1 g4 (fun _ => rfl) rfl hP1 hD1 hS1) (by rw [mc_lv_up (fun q' hq' => va_up_ne _ _ (Nat.ne_of_lt hq')) g6]; exact hl))
          case boolean =>
            refine va_newa (atype := .boolean) (tys := mv_tys cy) (ty := .boolean) (a0 := (x.toNatClampNeg, .inl (fun _ => 0))) hx hb (hts _ (hAr .boolean (Or.inr (Or.inl rfl)))) rfl hK hW.2.2.1 hW.2.2.2.1 hW.2.2.2.2 hA (fun cA => rfl) g2 rfl (by show _ * 1 ≤ _; omega) (by omega) (by omega) (by simpa using hd) (fun q cA H1 hK1 hP1 hD1 hS1 => ?_)
            have hcA : cA = cy 1 := mc_ty (t := 1) rfl (by intro C h; cases h) hK1
            subst hcA
            exact W.eq (mc_frame g5) (go g1 h2 (mc_push hW.1 hW.2.1 g4 (fun _ => rfl) rfl hP1 hD1 hS1) (by rw [mc_lv_up (fun q' hq' => va_up_ne _ _ (Nat.ne_of_lt hq')) g6]; exact hl))
          case long =>
            refine va_newa (atype := .long) (tys := mv_tys cy) (ty := .long) (a0 := (x.toNatClampNeg, .inr (.inl (fun _ => 0)))) hx hb (hts _ (hAr .long (Or.inr (Or.inr rfl)))) rfl hK hW.2.2.1 hW.2.2.2.1 hW.2.2.2.2 hA (fun cA => rfl) g2 rfl (by show _ * 8 ≤ _; omega) (by omega) (by omega) (by simpa using hd) (fun q cA H1 hK1 hP1 hD1 hS1 => ?_)
            have hcA : cA = cy 2 := mc_ty (t := 2) rfl (by intro C h; cases h) hK1
            subst hcA
            exact W.eq (mc_frame g5) (go g1 h2 (mc_push hW.1 hW.2.1 g4 (fun _ => rfl) rfl hP1 hD1 hS1) (by rw [mc_lv_up (fun q' hq' => va_up_ne _ _ (Nat.ne_of_lt hq')) g6]; exact hl))
        · cases h
      · cases h
    · split at h
      · next ci hm =>
        split at h
        · next fs hfs =>
          obtain ⟨hg, h2⟩ := mc_bif h
          simp only [Bool.and_eq_true] at hg
          obtain ⟨⟨⟨g1, g4⟩, g5, g6⟩, g7⟩ := hg
          obtain ⟨gk, gn⟩ := mc_grow _ _ _ _ _ h2
          obtain ⟨⟨C', T', N', ty, hc', hin, hty, hnm⟩, Cn, Tt, N, fs', hc, hfs', hlen, w1, w2, w3, hdf⟩ := hnl _ _ (mv_at_mem hm)
          have he : (C', T', N') = (Cn, Tt, N) := Option.some.inj (hc'.symm.trans hc)
          cases he
          have hf : fs' = fs := Option.some.inj (hfs'.symm.trans hfs)
          subst hf
          rw [hlen] at gn h2
          refine va_new (tys := mv_tys cy) (ci := ci) (fs := fs') hx hb hts hin ty hty hown (hts _ w1) (hts _ w2) (hts _ w3) hK hW.2.2.1 hW.2.2.2.1 hW.2.2.2.2 hA hc (fun j hj => hdf j hj _ (hty j hj)) (by omega) (by omega) (by simpa using hd) (fun q H1 hP1 hD1 hS1 => ?_)
          exact W.eq (mc_frame g5) (go g1 h2 (mc_push hW.1 hW.2.1 g4 (fun ad' => by
            simp only [mc_e]
            rw [mc_ks_up (ad := fun q => q) (n := 0) (fun q hq => absurd hq (Nat.not_lt_zero q)) g7]
            congr 2
            conv => rhs; rw [← List.map_id fs']
            exact List.map_congr_left (fun v _ => by cases v <;> rfl)) rfl hP1 hD1 hS1) (by rw [mc_lv_up (fun q' hq' => va_up_ne _ _ (Nat.ne_of_lt hq')) g6]; exact hl))
        · cases h
      · cases h
    · split at h
      · next q s2 =>
        split at h
        · next ci f hm =>
          split at h
          · next cj fs hq =>
            split at h
            · next v hv =>
              obtain ⟨hg, h2⟩ := mc_bif h
              simp only [Bool.and_eq_true] at hg
              have e1 : cj = ci := Nat.eq_of_beq_eq_true hg.1
              subst e1
              obtain ⟨⟨Cn, Tt, N, hc, hkN, hlink, hCn⟩, ⟨C', T', N', ty, hc', hin, hty, hnm⟩, -⟩ := hfl _ _ _ (mv_at_mem hm)
              have he : (C', T', N') = (Cn, Tt, N) := Option.some.inj (hc'.symm.trans hc)
              cases he
              refine va_get (D := D) (cl := vwCl) (tys := mv_tys cy) (ci := cj) (fs := fs.map (mv_k ad)) hx hb hts hin hown hK hW.2.2.1 q (mc_w_get hq) hc f hkN (hts _ hlink) (fun x hxx => by rw [hCn] at hxx; exact hxx) (v := mv_k ad v) (by rw [List.getElem?_map, hv]; rfl) hd ?_
              exact go hg.2 h2 hW hl
            · cases h
          · cases h
        · cases h
      · cases h
    · split at h
      · next v q s2 =>
        split at h
        · next ci f hm =>
          split at h
          · next cj fs hq =>
            obtain ⟨hg, h2⟩ := mc_bif h
            simp only [Bool.and_eq_true] at hg
            obtain ⟨⟨⟨g1, g2⟩, g3⟩, g4⟩ := hg
            have e1 : cj = ci := Nat.eq_of_beq_eq_true g1
            subst e1
            obtain ⟨⟨Cn, Tt, N, hc, hkN, hlink, hCn⟩, ⟨C', T', N', ty, hc', hin, hty, hnm⟩, hfin⟩ := hfl _ _ _ (mv_at_mem hm)
            have he : (C', T', N') = (Cn, Tt, N) := Option.some.inj (hc'.symm.trans hc)
            cases he
            have hlen : f < (fs.map (mv_k ad)).length := by rw [List.length_map]; exact Nat.le_of_ble_eq_true g2
            obtain ⟨t1, hp1, hn1, hf1⟩ : ∃ t1 : FieldType, parseFieldDescriptor (Tt f).2.2.1 = some t1 ∧ narrow t1 (mv_k ad v) = mv_k ad v ∧ fits t1 (mv_k ad v) = true := by
              unfold mc_pok at g3
              split at g3
              · rw [hc] at g3
                exact ⟨.int, of_decide_eq_true g3, rfl, rfl⟩
              · rw [hc] at g3
                dsimp only at g3
                split at g3
                · next hp => exact ⟨_, hp, rfl, rfl⟩
                · next hp => exact ⟨_, hp, rfl, rfl⟩
                · cases g3
              · cases g3
            have fin : ∀ (H1 : Heap) (locs1 : List Loc), va_P D vwCl ((mc_w cy ad 0 M).set q (ad q, .inr (cj, (fs.map (mv_k ad)).set f (mv_k ad v)))) H1 → va_D (mc_A cy ad0 M0 s.heap.size) ((mc_w cy ad 0 M).set q (ad q, .inr (cj, (fs.map (mv_k ad)).set f (mv_k ad v)))) → va_S (mc_A cy ad0 M0 s.heap.size) s.heap H1 locs1 → W p l e R s m args below meth c H1 locs1 k n (MQ below Qc args s k' n' (mc_A cy ad0 M0 s.heap.size)) (F0 m (pc + 3) ls (s2.map (mv_k ad))) := by
              intro H1 locs1 hP1 hD1 hS1
              rw [show (Sum.inr (cj, (fs.map (mv_k ad)).set f (mv_k ad v)) : va_E) = mc_e cy ad (.inl (cj, fs.set f v)) by simp only [mc_e, List.map_set]] at hP1 hD1
              rw [mc_w_set] at hP1 hD1
              exact go g4 h2 ⟨hW.1, by rw [List.length_set]; exact hW.2.1, hP1, hD1, hS1⟩ hl
            by_cases hfn : (Tt f).2.2.2 = true
            · obtain ⟨z1, z2⟩ := hfin _ _ _ hc hfn
              exact va_putF (D := D) (cl := vwCl) (tys := mv_tys cy) (ci := cj) (fs := fs.map (mv_k ad)) hx hb hts hin ty hty hnm hown hK hW.2.2.1 hW.2.2.2.1 hW.2.2.2.2 q (mc_w_get hq) hc f hkN (hts _ hlink) (fun x hxx => by rw [hCn] at hxx; exact hxx) hfn (by rw [hname]; exact z2) z1 hp1 hn1 hf1 hlen hd fin
            · exact va_put (D := D) (cl := vwCl) (tys := mv_tys cy) (ci := cj) (fs := fs.map (mv_k ad)) hx hb hts hin ty hty hnm hown hK hW.2.2.1 hW.2.2.2.1 hW.2.2.2.2 q (mc_w_get hq) hc f hkN (hts _ hlink) (fun x hxx => by rw [hCn] at hxx; exact hxx) (by cases hz : (Tt f).2.2.2 <;> simp_all) hp1 hn1 hf1 hlen hd fin
          · cases h
        · cases h
      · cases h
    · split at h
      · next hm =>
        split at h
        · next q s2 =>
          obtain ⟨hg, h2⟩ := mc_bif h
          simp only [Bool.and_eq_true] at hg
          obtain ⟨w1, w2, w3⟩ := (hcl _ _ _ (mv_at_mem hm)).1 rfl
          refine W.objInit hx hb hown (hts _ w1) (hts _ w2) (hts _ w3) (g := F0 m pc ls ((Value.ref q :: s2).map (mv_k ad))) rfl (by rw [hml]; exact hl.1) rfl (by simpa using hd) hRf ?_ (go hg.1 h2 hW hl)
          have hq1 := lv_room (m := m) (pc := pc) (ls := ls) (rest := (Value.ref q :: s2).map (mv_k ad)) (st := s2.map (mv_k ad)) (by rw [mv_cat_k]; exact Nat.le_of_ble_eq_true hg.2)
          omega
        · cases h
      · next t j hm =>
        split at h
        · next C' hC' =>
          split at h
          · next q s2 hdr =>
            split at h
            · next M2 k2 n2 hcall =>
              obtain ⟨hg, h2⟩ := mc_bif h
              simp only [Bool.and_eq_true] at hg
              obtain ⟨⟨⟨⟨⟨g1, g2⟩, g3⟩, g4⟩, g5⟩, g6, g7⟩ := hg
              obtain ⟨gk, gn⟩ := mc_grow _ _ _ _ _ h2
              have e3 : (st.take C'.2.2.2.1).length = C'.2.2.2.1 := Nat.eq_of_beq_eq_true g3
              refine hI pc _ t j C' _ s2 M M2 k2 n2 (by simpa using hd) (mv_at_mem hm) (Nat.le_of_ble_eq_true g2) hC' (by simp [e3]) hcall ad H locs ls st k n ⟨q, (st.take C'.2.2.2.1).reverse, rfl, ?_⟩ (Nat.le_of_ble_eq_true g4) (by omega) (by omega) hW hl.1 (fun ad2 H' locs' hu hP1 hD1 hS1 => ?_)
              · rw [List.reverse_reverse, ← hdr, List.take_append_drop]
              · rw [← mc_ks_up hu g6]
                exact go g1 h2 ⟨fun q' hq' => by rw [hu q' (Nat.lt_of_lt_of_le hq' hW.2.1)]; exact hW.1 q' hq', Nat.le_trans hW.2.1 (Nat.le_of_ble_eq_true g5), hP1, hD1, hS1⟩ (by rw [mc_lv_up hu g7]; exact hl)
            · cases h
          · cases h
        · cases h
      · cases h
    · split at h
      · next j hm =>
        split at h
        · next C' hC' =>
          split at h
          · next q s2 hdr =>
            split at h
            · next ci fs hq =>
              split at h
              · next M2 k2 n2 hcall =>
                obtain ⟨hg, h2⟩ := mc_bif h
                simp only [Bool.and_eq_true] at hg
                obtain ⟨⟨⟨⟨⟨g1, g2⟩, g3⟩, g4⟩, g5⟩, g6, g7⟩ := hg
                obtain ⟨gk, gn⟩ := mc_grow _ _ _ _ _ h2
                have e3 : (st.take C'.2.2.2.1).length = C'.2.2.2.1 := Nat.eq_of_beq_eq_true g3
                refine hV pc _ j q ci fs C' _ s2 M M2 k2 n2 hd (mv_at_mem hm) hC' (by simp [e3]) hq (of_decide_eq_true g2) hcall ad H locs ls st k n ⟨q, (st.take C'.2.2.2.1).reverse, rfl, ?_⟩ (Nat.le_of_ble_eq_true g4) (by omega) (by omega) hW hl.1 (fun ad2 H' locs' hu hP1 hD1 hS1 => ?_)
                · rw [List.reverse_reverse, ← hdr, List.take_append_drop]
                · rw [← mc_ks_up hu g6]
                  exact go g1 h2 ⟨fun q' hq' => by rw [hu q' (Nat.lt_of_lt_of_le hq' hW.2.1)]; exact hW.1 q' hq', Nat.le_trans hW.2.1 (Nat.le_of_ble_eq_true g5), hP1, hD1, hS1⟩ (by rw [mc_lv_up hu g7]; exact hl)
              · cases h
            · cases h
          · cases h
        · cases h
      · cases h
    · cases h
end MC
end
section
/-! THE CONSTRUCTORS' MACHINE IS SOUND: calls, levels -/
theorem mc_blind {D : va_G} {cy : Nat → ClassId} {ad : Nat → Nat} {a : List Value} {M : mc_M} {sz : Nat} : FrameBlind (mc_Pc D cy ad a M sz) := fun a U g mk q => by
  obtain ⟨q0, qz, qP, qK, qD, qN⟩ := q
  exact ⟨q0, qz, qP, va_K.moved (u := U) (U := U.calling g mk a) (Vm.Alike.refl U.vm) qK, qD, qN.same rfl⟩
section MCB
variable {p : Program} {l : Launch} {e : Env} {R : Room} {s : State} {m : MethodId} {args : Array Value} {below : List Frame} {meth : Method} {c : Code}
variable {D : va_G} {cy : Nat → ClassId} {ad0 : Nat → Nat} {M0 : mc_M} {Q : State → Prop}
theorem mc_run {ad : Nat → Nat} {M M2 : mc_M} {k n k2 n2 pc : Nat} {ls : Array Slot} {st0 rest : List Value} {a : Array Value} {H : Heap} {locs : List Loc} (hr : va_Run p l e R s m args below meth c H locs k n k2 n2 (F0 m pc ls st0) (rest.map (mv_k ad)) (mc_Qc D cy ad M M2 H.size a) (mc_A cy ad M H.size)) (hW : mc_W D cy ad0 M0 s ad M H locs)
    (kk : ∀ (ad2 : Nat → Nat) (H' : Heap) (locs' : List Loc), (∀ q, q < M.length → ad2 q = ad q) → va_P D vwCl (mc_w cy ad2 0 M2) H' → va_D (mc_A cy ad0 M0 s.heap.size) (mc_w cy ad2 0 M2) → va_S (mc_A cy ad0 M0 s.heap.size) s.heap H' locs' → W p l e R s m args below meth c H' locs' (k + k2) (n + n2) Q (F0 m (pc + 3) ls (rest.map (mv_k ad)))) : W p l e R s m args below meth c H locs k n Q (F0 m pc ls st0) := by
  intro U hU X
  obtain ⟨v, st₀, t, T', L, h0, X', hL, e1, e2, ⟨⟨ad2, hv, hu, hP1, hK1, hD1⟩, hz, hk⟩, st⟩ := hr U hU X
  rw [h0] at hz hk
  obtain ⟨hu0, hm0, hP, hD, hS⟩ := hW
  have hA : ∀ q, mc_A cy ad M H.size q → mc_A cy ad0 M0 s.heap.size q := by
    intro q hq
    rcases hq with ⟨k1, e1, hk1⟩ | hq
    · exact hD.2 k1 _ hk1
    · exact Or.inr (Nat.le_trans hS.1 hq)
  cases hv
  obtain ⟨t2, a1, b1⟩ := kk ad2 T'.heap (locs ++ L) hu (by rw [e1]; exact hP1) (hD1.weaken (fun _ q _ h => hA q.1 h)) ⟨Nat.le_trans hS.1 (by rw [e1]; exact hz), fun q h1 h2 => by rw [e1, hk q (Nat.lt_of_lt_of_le h1 hS.1) (fun z => h2 (hA q z))]; exact hS.2.1 q h1 h2, fun q hq => by
      rcases List.mem_append.mp hq with h | h
      · exact hS.2.2 q h
      · exact hA _ (hL q h)⟩ T' rfl X'
  exact ⟨t2, st t2 a1, b1⟩
end MCB
set_option maxHeartbeats 4000000 in
theorem mc_met {l : Launch} {D : va_G} {cy : Nat → ClassId} {df : List (List Value)} {ctors : List mc_C} (hct : ∀ (j : Nat) (C : mc_C), ctors[j]? = some C → mc_cok df ctors C) (hAr : ∀ ty : FieldType, ty = .int ∨ ty = .boolean ∨ ty = .long → Cond.arrayClass ty ∈ mv_Ts) :
    ∀ (d j : Nat) (a : List Value) (M M' : mc_M) (k' n' : Nat) (C : mc_C) (ad : Nat → Nat) (sz : Nat), ctors[j]? = some C → mc_big df ctors d j a M = some (M', k', n') → Met l C.1 (Cond.code C.1 C.2.1 C.2.2.1 none :: mv_Ts) (mc_rm d k' n') (mc_Pc D cy ad a M sz) (mc_Qc D cy ad M M' sz) k' n' (mc_A cy ad M sz) := by
  intro d
  induction d with
  | zero => intro j a M M' k' n' C ad sz _ h; cases h
  | succ d ih =>
    intro j a M M' k' n' C ad sz hC h
    unfold mc_big at h
    rw [hC] at h
    obtain ⟨hg, h⟩ := mc_bif h
    simp only [Bool.and_eq_true] at hg
    obtain ⟨⟨hlen, hall⟩, hnx⟩ := hg
    obtain ⟨i0, r0, hil⟩ := mc_nx_of hnx
    have hok := hct j C hC
    refine Met.ofW (cc := C.2.1) (maxL := C.2.2.1) (ret := none) hok.1 rfl ?_
    intro p e s m args below meth c s₁ B hml hv
    obtain ⟨rfl, hsz, hP, hK, hD0, hN⟩ := hv
    subst hsz
    have hx := B.exec
    have hb := B.bytes
    have hr := B.returns
    have hts0 := atoms_spec (ws := Cond.code C.1 C.2.1 C.2.2.1 none :: mv_Ts) B.pre
    have hts : ∀ w ∈ mv_Ts, w.before (a.map (mv_k ad)).toArray s = true := fun w hw => hts0 w (List.mem_cons_of_mem _ hw)
    have hown : s.vm.findClass C.1.cls = some m.cls := findClass_of_methodNamed B.named
    have hname : meth.name = C.1.name := (name_of_methodNamed B.named B.method).1
    have hlocks := B.notSynchronized
    have hl := lv_entry (a.map (mv_k ad)) (n := C.2.2.1) (by rw [mv_sl_len]; exact Nat.le_of_ble_eq_true hlen)
    rw [mv_ks_args] at hl
    rw [lg_entry_eq]
    generalize (lg_sl (a.map (mv_k ad)) ++ List.replicate (C.2.2.1 - (lg_sl (a.map (mv_k ad))).length) Slot.unset).toArray = ls at hl ⊢
    have hgood : ∀ (j' : Nat) (C' : mc_C), ctors[j']? = some C' → GoodIn mv_Ts (Cond.code C'.1 C'.2.1 C'.2.2.1 none :: mv_Ts) := fun j' C' h' => mv_goodIn (hct j' C' h').2.1
    have hroom : ∀ (j' : Nat) (C' : mc_C), ctors[j']? = some C' → ∀ k2 n2 : Nat, (mc_rm d k2 n2).frames + 1 ≤ (headSpec (Cond.code C.1 C.2.1 C.2.2.1 none :: mv_Ts) (mc_rm (d + 1) k' n')).room.frames ∧ 8 + (C'.2.2.1 + 11) + (mc_rm d k2 n2).locals ≤ (headSpec (Cond.code C.1 C.2.1 C.2.2.1 none :: mv_Ts) (mc_rm (d + 1) k' n')).room.locals := fun j' C' h' k2 n2 => ⟨Nat.le_refl _, by
      have := (hct j' C' h').2.2.2.2.2.2.2.1
      show 8 + (C'.2.2.1 + 11) + 40 * d ≤ 40 * (d + 1)
      omega⟩
    refine mc_snd (df := df) (ctors := ctors) (Call := mc_big df ctors d) (C := C) (ad0 := ad) (M0 := M) (M' := M') (lv := lv_args 0 a) (Qc := mc_Qc D cy ad M M' s.heap.size) hx hb hml hown hname hr hlocks hts hK hok hAr (Nat.le_refl _) (Nat.le_refl _) (by show 1 ≤ d + 1; omega) (by show 20 ≤ 40 * (d + 1); omega) ?_ ?_ ?_ C.2.2.2.2.2 (fun _ h => h) 0 i0 r0 hil [] M 0 0 h ad s.heap [] ls ⟨fun _ _ => rfl, Nat.le_refl _, hP, hD0.self, va_S.rf⟩ hl
    · intro ad' H locs t hW ht hwm
      exact ⟨⟨ad', rfl, hW.1, by rw [ht]; exact hW.2.2.1, va_K.moved hwm.alike hK, hW.2.2.2.1⟩, hW.2.2.2.2.F ht⟩
    · intro pc i t j' C' a' rest M1 M2 k2 n2 hd hm ht hC' hlen' hcall ad1 H locs ls' st k n hst hcat hk hn hW hsz kk
      obtain ⟨q, As, rfl, rfl⟩ := hst
      have hM' := ih j' _ M1 M2 k2 n2 C' ad1 H.size hC' hcall
      obtain ⟨-, g2, -, -, -, -, g6, g7, g8⟩ := hct j' C' hC'
      have hAs : (As.map (mv_k ad1)).length = C'.2.2.2.1 := by rw [List.length_map]; simpa using hlen'
      have hpre : PreS s H (mc_Pc D cy ad1 (Value.ref q :: As) M1 H.size) (.ref (ad1 q) :: As.map (mv_k ad1)) := ⟨mc_blind, fun U hU hWm => ⟨rfl, by rw [hU], by rw [hU]; exact hW.2.2.1, va_K.moved hWm.alike hK, hW.2.2.2.1.weaken (fun _ _ _ _ => trivial), hN.moved hWm⟩⟩
      have hstk : (F0 m pc ls' ((As.reverse ++ Value.ref q :: rest).map (mv_k ad1))).stack = (As.map (mv_k ad1)).reverse ++ .ref (ad1 q) :: rest.map (mv_k ad1) := by simp [mv_k]
      match t, ht with
      | 0, _ =>
        obtain ⟨w1, w2, w3⟩ := ((hok.2.2.2.2.1 _ _ _ hm).2 C' hC').1 rfl
        exact mc_run (va_runI (b := ad1 q) (As := As.map (mv_k ad1)) (rest := rest.map (mv_k ad1)) ⟨hx, hb, hml, hown, hts⟩ hM' ⟨callB_of C'.2.2.2.1 hts (hgood j' C' hC') rfl rfl rfl (hts _ g8) (hts _ w1) g6 (hroom j' C' hC' k2 n2), w2, hts _ w3⟩ hpre rfl hAs hsz hstk (lv_room (by rw [mv_cat_k]; exact hcat)) hd ⟨hk, hn⟩) hW kk
      | 1, _ =>
        obtain ⟨w1, w2, w3⟩ := ((hok.2.2.2.2.1 _ _ _ hm).2 C' hC').2.1 rfl
        exact mc_run (va_runIN (host := "MapMachine") (b := ad1 q) (As := As.map (mv_k ad1)) (rest := rest.map (mv_k ad1)) ⟨hx, hb, hml, hown, hts⟩ hM' ⟨va_cnB C'.2.2.2.1 hts (hgood j' C' hC') rfl rfl rfl (w1 s hN) (hts _ g8) g6 (hroom j' C' hC' k2 n2), w2, hts _ w3⟩ hpre rfl hAs hsz hstk (lv_room (by rw [mv_cat_k]; exact hcat)) hd ⟨hk, hn⟩) hW kk
    · intro pc i j' q ci fs C' As0 rest M1 M2 k2 n2 hd hm hC' hlen' hq hcls hcall ad1 H locs ls' st k n hst hcat hk hn hW hsz kk
      obtain ⟨q', As, e1, rfl⟩ := hst
      cases e1
      have hM' := ih j' _ M1 M2 k2 n2 C' ad1 H.size hC' hcall
      obtain ⟨-, g2, -, -, -, -, g6, g7, g8⟩ := hct j' C' hC'
      have hAs : (As0.map (mv_k ad1)).length = C'.2.2.2.1 := by rw [List.length_map]; exact hlen'
      have hstk : (F0 m pc ls' ((As0.reverse ++ Value.ref q :: rest).map (mv_k ad1))).stack = (As0.map (mv_k ad1)).reverse ++ .ref (ad1 q) :: rest.map (mv_k ad1) := by simp [mv_k]
      obtain ⟨w1, w2, w3⟩ := ((hok.2.2.2.2.1 _ _ _ hm).2 C' hC').2.2 rfl
      obtain ⟨qc, hqc, hqe⟩ := Option.map_eq_some_iff.mp hcls
      have hrecv := va_recv hK hW.2.2.1 hqc (mc_w_get hq)
      rw [hqe] at hrecv
      exact mc_run (va_runV (C := C'.1.cls) (b := ad1 q) (As := As0.map (mv_k ad1)) (rest := rest.map (mv_k ad1)) ⟨hx, hb, hml, hown, hts⟩ hM' ⟨callB_of C'.2.2.2.1 hts (hgood j' C' hC') rfl rfl rfl (hts _ g8) (hts _ w1) g6 (hroom j' C' hC' k2 n2), hts _ w2, hts _ w3⟩ ⟨mc_blind, hrecv, fun U hU hWm => ⟨rfl, by rw [hU], by rw [hU]; exact hW.2.2.1, va_K.moved hWm.alike hK, hW.2.2.2.1.weaken (fun _ _ _ _ => trivial), hN.moved hWm⟩⟩ rfl hAs hsz hstk (lv_room (by rw [mv_cat_k]; exact hcat)) hd ⟨hk, hn⟩) hW kk
end
section
def kC0 : mc_C := (yX0_init, cX0_init, 1, 0, ([(11, 0, 0), (15, 0, 1), (18, 0, 2), (21, 0, 3), (24, 0, 4), (27, 0, 5), (30, 0, 6), (33, 0, 7)], [(5, 0, 0)], []), [(0, .aload_n 0), (1, .invokespecial 5), (4, .aload_n 0), (5, .sipush 803), (8, .newarray .int), (10, .putfield 11), (13, .aload_n 0), (14, .sipush 803), (17, .newarray .int), (19, .putfield 15), (22, .aload_n 0), (23, .sipush 803), (26, .newarray .int), (28, .putfield 18), (31, .aload_n 0), (32, .sipush 803), (35, .newarray .int), (37, .putfield 21), (40, .aload_n 0), (41, .sipush 803), (44, .newarray .int), (46, .putfield 24), (49, .aload_n 0), (50, .sipush 803), (53, .newarray .int), (55, .putfield 27), (58, .aload_n 0), (59, .sipush 803), (62, .newarray .int), (64, .putfield 30), (67, .aload_n 0), (68, .sipush 803), (71, .newarray .int), (73, .putfield 33), (76, .return_)])
def kC1 : mc_C := (yX1_init, cX1_init, 2, 1, ([(9, 1, 0)], [(3, 0, 0)], []), [(0, .aload_n 0), (1, .invokespecial 3), (4, .aload_n 0), (5, .aload_n 1), (6, .putfield 9), (9, .return_)])
def kC2 : mc_C := (yX2_init, cX2_init, 1, 0, ([(9, 2, 0), (15, 2, 1), (18, 2, 2), (21, 2, 3), (24, 2, 4), (27, 2, 5), (30, 2, 6), (33, 2, 12)], [(3, 0, 0)], []), [(0, .aload_n 0), (1, .invokespecial 3), (4, .aload_n 0), (5, .sipush 700), (8, .newarray .int), (10, .putfield 9), (13, .aload_n 0), (14, .sipush 700), (17, .newarray .int), (19, .putfield 15), (22, .aload_n 0), (23, .sipush 700), (26, .newarray .int), (28, .putfield 18), (31, .aload_n 0), (32, .sipush 1500), (35, .newarray .int), (37, .putfield 21), (40, .aload_n 0), (41, .bipush 8), (43, .newarray .int), (45, .putfield 24), (48, .aload_n 0), (49, .bipush 8), (51, .newarray .int), (53, .putfield 27), (56, .aload_n 0), (57, .bipush 8), (59, .newarray .int), (61, .putfield 30), (64, .aload_n 0), (65, .iconst (-1)), (66, .putfield 33), (69, .return_)])
def kC3 : mc_C := (yX4_init, cX4_init, 3, 2, ([(15, 3, 0), (19, 3, 1), (9, 3, 4)], [(3, 0, 0)], []), [(0, .aload_n 0), (1, .invokespecial 3), (4, .aload_n 0), (5, .iconst 1), (6, .putfield 9), (9, .aload_n 0), (10, .aload_n 1), (11, .putfield 15), (14, .aload_n 0), (15, .aload_n 2), (16, .putfield 19), (19, .return_)])
def kC4 : mc_C := (yX5_init, cX5_init, 2, 1, ([(40, 4, 0), (49, 4, 1), (11, 4, 2), (15, 4, 3), (18, 4, 4), (21, 4, 5), (24, 4, 6), (28, 4, 7), (31, 4, 8), (34, 4, 9), (37, 4, 10)], [(5, 0, 0), (46, 1, 5)], [(44, 5)]), [(0, .aload_n 0), (1, .invokespecial 5), (4, .aload_n 0), (5, .sipush 158), (8, .newarray .int), (10, .putfield 11), (13, .aload_n 0), (14, .bipush 54), (16, .newarray .int), (18, .putfield 15), (21, .aload_n 0), (22, .sipush 850), (25, .newarray .int), (27, .putfield 18), (30, .aload_n 0), (31, .sipush 425), (34, .newarray .int), (36, .putfield 21), (39, .aload_n 0), (40, .sipush 425), (43, .newarray .long), (45, .putfield 24), (48, .aload_n 0), (49, .bipush 25), (51, .newarray .int), (53, .putfield 28), (56, .aload_n 0), (57, .bipush 25), (59, .newarray .int), (61, .putfield 31), (64, .aload_n 0), (65, .bipush 25), (67, .newarray .int), (69, .putfield 34), (72, .aload_n 0), (73, .sipush 300), (76, .newarray .int), (78, .putfield 37), (81, .aload_n 0), (82, .aload_n 1), (83, .putfield 40), (86, .aload_n 0), (87, .new 44), (90, .dup), (91, .aload_n 1), (92, .invokespecial 46), (95, .putfield 49), (98, .return_)])
def kC5 : mc_C := (yX7_init, cX7_init, 2, 1, ([(21, 5, 0), (11, 5, 1), (15, 5, 2), (18, 5, 3)], [(3, 0, 0)], []), [(0, .aload_n 0), (1, .invokespecial 3), (4, .aload_n 0), (5, .sipush 402), (8, .newarray .int), (10, .putfield 11), (13, .aload_n 0), (14, .sipush 402), (17, .newarray .int), (19, .putfield 15), (22, .aload_n 0), (23, .sipush 402), (26, .newarray .int), (28, .putfield 18), (31, .aload_n 0), (32, .aload_n 1), (33, .putfield 21), (36, .return_)])
def kC6 : mc_C := (yX8_init, cX8_init, 3, 2, ([(18, 6, 0), (22, 6, 1), (11, 6, 2), (15, 6, 3)], [(3, 0, 0)], []), [(0, .aload_n 0), (1, .invokespecial 3), (4, .aload_n 0), (5, .sipush 425), (8, .newarray .int), (10, .putfield 11), (13, .aload_n 0), (14, .sipush 425), (17, .newarray .int), (19, .putfield 15), (22, .aload_n 0), (23, .aload_n 1), (24, .putfield 18), (27, .aload_n 0), (28, .aload_n 2), (29, .putfield 22), (32, .return_)])
def kC7 : mc_C := (yX10_init, cX10_init, 1, 0, ([(12, 7, 0), (21, 7, 1), (28, 7, 2), (37, 7, 3), (46, 7, 4), (53, 7, 5)], [(3, 0, 0), (11, 2, 2), (18, 1, 1), (27, 2, 0), (34, 1, 4), (43, 1, 3), (52, 1, 6), (57, 3, 9)], [(9, 2), (16, 1), (25, 0), (32, 4), (41, 3), (50, 6)]), [(0, .aload_n 0), (1, .invokespecial 3), (4, .aload_n 0), (5, .new 9), (8, .dup), (9, .invokespecial 11), (12, .putfield 12), (15, .aload_n 0), (16, .new 16), (19, .dup), (20, .aload_n 0), (21, .getfield 12), (24, .invokespecial 18), (27, .putfield 21), (30, .aload_n 0), (31, .new 25), (34, .dup), (35, .invokespecial 27), (38, .putfield 28), (41, .aload_n 0), (42, .new 32), (45, .dup), (46, .aload_n 0), (47, .getfield 28), (50, .invokespecial 34), (53, .putfield 37), (56, .aload_n 0), (57, .new 41), (60, .dup), (61, .aload_n 0), (62, .getfield 12), (65, .aload_n 0), (66, .getfield 37), (69, .invokespecial 43), (72, .putfield 46), (75, .aload_n 0), (76, .new 50), (79, .dup), (80, .aload_n 0), (81, .getfield 12), (84, .aload_n 0), (85, .getfield 37), (88, .invokespecial 52), (91, .putfield 53), (94, .aload_n 0), (95, .getfield 28), (98, .iconst 0), (99, .sipush 300), (102, .invokevirtual 57), (105, .return_)])
def kC8 : mc_C := (yX11_init, cX11_init, 1, 0, ([(7, 8, 0), (13, 8, 4), (17, 8, 6), (20, 8, 8), (23, 8, 13), (27, 8, 14), (30, 8, 15), (33, 8, 16), (36, 8, 17), (39, 8, 18), (42, 8, 19), (45, 8, 21), (48, 8, 22), (51, 8, 24), (54, 8, 25), (57, 8, 26), (60, 8, 27), (63, 8, 28), (66, 8, 29), (129, 8, 35), (69, 8, 36), (72, 8, 37), (75, 8, 38), (78, 8, 39), (81, 8, 40), (84, 8, 41), (87, 8, 42), (90, 8, 44), (93, 8, 45), (96, 8, 46), (99, 8, 47), (102, 8, 49), (105, 8, 53), (108, 8, 56), (111, 8, 60), (114, 8, 61), (117, 8, 62), (120, 8, 63), (123, 8, 64), (126, 8, 65)], [(1, 0, 0)], []), [(0, .aload_n 0), (1, .invokespecial 1), (4, .aload_n 0), (5, .sipush 700), (8, .newarray .int), (10, .putfield 7), (13, .aload_n 0), (14, .iconst (-1)), (15, .putfield 13), (18, .aload_n 0), (19, .sipush 6000), (22, .newarray .int), (24, .putfield 17), (27, .aload_n 0), (28, .sipush 8000), (31, .newarray .int), (33, .putfield 20), (36, .aload_n 0), (37, .bipush 8), (39, .newarray .boolean), (41, .putfield 23), (44, .aload_n 0), (45, .bipush 8), (47, .newarray .int), (49, .putfield 27), (52, .aload_n 0), (53, .bipush 8), (55, .newarray .int), (57, .putfield 30), (60, .aload_n 0), (61, .bipush 8), (63, .newarray .int), (65, .putfield 33), (68, .aload_n 0), (69, .sipush 4000), (72, .newarray .int), (74, .putfield 36), (77, .aload_n 0), (78, .sipush 4000), (81, .newarray .int), (83, .putfield 39), (86, .aload_n 0), (87, .sipush 4000), (90, .newarray .int), (92, .putfield 42), (95, .aload_n 0), (96, .sipush 2000), (99, .newarray .int), (101, .putfield 45), (104, .aload_n 0), (105, .sipush 2000), (108, .newarray .int), (110, .putfield 48), (113, .aload_n 0), (114, .sipush 900), (117, .newarray .int), (119, .putfield 51), (122, .aload_n 0), (123, .sipush 900), (126, .newarray .int), (128, .putfield 54), (131, .aload_n 0), (132, .sipush 900), (135, .newarray .int), (137, .putfield 57), (140, .aload_n 0), (141, .sipush 900), (144, .newarray .int), (146, .putfield 60), (149, .aload_n 0), (150, .sipush 900), (153, .newarray .boolean), (155, .putfield 63), (158, .aload_n 0), (159, .sipush 900), (162, .newarray .int), (164, .putfield 66), (167, .aload_n 0), (168, .sipush 300), (171, .putfield 69), (174, .aload_n 0), (175, .bipush 8), (177, .newarray .int), (179, .putfield 72), (182, .aload_n 0), (183, .iconst 4), (184, .newarray .int), (186, .putfield 75), (189, .aload_n 0), (190, .sipush 150), (193, .newarray .int), (195, .putfield 78), (198, .aload_n 0), (199, .bipush 50), (201, .newarray .int), (203, .putfield 81), (206, .aload_n 0), (207, .bipush 25), (209, .newarray .int), (211, .putfield 84), (214, .aload_n 0), (215, .bipush 25), (217, .newarray .int), (219, .putfield 87), (222, .aload_n 0), (223, .sipush 4000), (226, .newarray .boolean), (228, .putfield 90), (231, .aload_n 0), (232, .sipush 4000), (235, .newarray .int), (237, .putfield 93), (240, .aload_n 0), (241, .sipush 4000), (244, .newarray .boolean), (246, .putfield 96), (249, .aload_n 0), (250, .sipush 4000), (253, .newarray .int), (255, .putfield 99), (258, .aload_n 0), (259, .sipush 300), (262, .newarray .int), (264, .putfield 102), (267, .aload_n 0), (268, .bipush 6), (270, .putfield 105), (273, .aload_n 0), (274, .sipush 900), (277, .newarray .int), (279, .putfield 108), (282, .aload_n 0), (283, .sipush 900), (286, .newarray .int), (288, .putfield 111), (291, .aload_n 0), (292, .sipush 900), (295, .newarray .int), (297, .putfield 114), (300, .aload_n 0), (301, .sipush 900), (304, .newarray .int), (306, .putfield 117), (309, .aload_n 0), (310, .sipush 900), (313, .newarray .int), (315, .putfield 120), (318, .aload_n 0), (319, .sipush 900), (322, .newarray .int), (324, .putfield 123), (327, .aload_n 0), (328, .sipush 900), (331, .newarray .boolean), (333, .putfield 126), (336, .aload_n 0), (337, .iconst 0), (338, .putfield 129), (341, .return_)])
def kC9 : mc_C := (yX0_furnish, cX0_furnish, 3, 2, ([(36, 0, 12), (40, 0, 13)], [], []), [(0, .aload_n 0), (1, .iload_n 1), (2, .putfield 36), (5, .aload_n 0), (6, .iload_n 2), (7, .putfield 40), (10, .return_)])
def kCs : List mc_C := [kC0, kC1, kC2, kC3, kC4, kC5, kC6, kC7, kC8, kC9]
def mc_N1 : Cond := .methodLinkNest "MapMachine" 11 ⟨"MapMachine$Program", "<init>", "()V"⟩ "MapMachine"
def mc_N2 : Cond := .methodLinkNest "MapMachine" 27 ⟨"MapMachine$Cells", "<init>", "()V"⟩ "MapMachine"
def mc_lchk (own : String) (ctors : List mc_C) : List (Nat × Nat × Nat) → List (Nat × Nat × Nat) → Bool
  | [], _ => true
  | _ :: _, [] => false
  | (i, t, c) :: r, (a, b, d) :: hs => (match t with
    | 0 => mv_mem a (.methodLink own i objectInit) && mv_mem b (.instanceMethod objectInit) && mv_mem d (.code objectInit ⟨#[0xb1]⟩ 1 none)
    | 1 => (match ctors[c]? with
      | some C => mv_mem a (.methodLink own i C.1) && decide (C.1.name = "<init>") && mv_mem b (.instanceMethod C.1)
      | none => false)
    | 2 => (match ctors[c]? with
      | some C => (decide (Cond.methodLinkNest own i C.1 "MapMachine" = mc_N1) || decide (Cond.methodLinkNest own i C.1 "MapMachine" = mc_N2)) && decide (C.1.name = "<init>") && mv_mem b (.instanceMethod C.1)
      | none => false)
    | 3 => (match ctors[c]? with
      | some C => mv_mem a (.methodLink own i C.1) && mv_mem b (.instanceMethod C.1) && mv_mem d (.selects C.1.cls C.1 C.1)
      | none => false)
    | _ => false) && mc_lchk own ctors r hs
theorem mc_lchk_of {own : String} {ctors : List mc_C} : ∀ {l hs : List (Nat × Nat × Nat)}, mc_lchk own ctors l hs = true → ∀ (i t c : Nat), (i, t, c) ∈ l → (t = 0 → Cond.methodLink own i objectInit ∈ mv_Ts ∧ Cond.instanceMethod objectInit ∈ mv_Ts ∧ Cond.code objectInit ⟨#[0xb1]⟩ 1 none ∈ mv_Ts) ∧
    ∀ C' : mc_C, ctors[c]? = some C' → (t = 1 → Cond.methodLink own i C'.1 ∈ mv_Ts ∧ C'.1.name = "<init>" ∧ Cond.instanceMethod C'.1 ∈ mv_Ts) ∧ (t = 2 → (∀ U : State, mc_N U → va_Nw (.methodLinkNest own i C'.1 "MapMachine") U) ∧ C'.1.name = "<init>" ∧ Cond.instanceMethod C'.1 ∈ mv_Ts) ∧ (t = 3 → Cond.methodLink own i C'.1 ∈ mv_Ts ∧ Cond.instanceMethod C'.1 ∈ mv_Ts ∧ Cond.selects C'.1.cls C'.1 C'.1 ∈ mv_Ts)
  | [], _, _, _, _, _, h => by cases h
  | _ :: _, [], h, _, _, _, _ => by simp [mc_lchk] at h
  | (i, t, c) :: r, (a, b, d) :: hs, q, i', t', c', hm => by
    simp only [mc_lchk, Bool.and_eq_true] at q
    rcases List.mem_cons.mp hm with e | hm
    · cases e
      obtain ⟨q1, -⟩ := q
      constructor
      · rintro rfl
        simp only [Bool.and_eq_true] at q1
        exact ⟨mv_mem_of q1.1.1, mv_mem_of q1.1.2, mv_mem_of q1.2⟩
      · intro C' hC
        refine ⟨?_, ?_, ?_⟩
        · rintro rfl
          simp only [hC, Bool.and_eq_true, decide_eq_true_eq] at q1
          exact ⟨mv_mem_of q1.1.1, q1.1.2, mv_mem_of q1.2⟩
        · rintro rfl
          simp only [hC, Bool.and_eq_true, Bool.or_eq_true, decide_eq_true_eq] at q1
          refine ⟨fun U hU => ?_, q1.1.2, mv_mem_of q1.2⟩
          rcases q1.1.1 with e | e
          · rw [e]; exact hU.1
          · rw [e]; exact hU.2
        · rintro rfl
          simp only [hC, Bool.and_eq_true] at q1
          exact ⟨mv_mem_of q1.1.1, mv_mem_of q1.1.2, mv_mem_of q1.2⟩
    · exact mc_lchk_of q.2 i' t' c' hm
def mc_nchk (df : List (List Value)) (own : String) : List (Nat × Nat) → List (Nat × Nat × Nat) → Bool
  | [], _ => true
  | _ :: _, [] => false
  | (i, ci) :: r, (a, b, d) :: hs => (match vwCl[ci]? with
    | some (Cn, T, N) => (match df[ci]? with
      | some fs => decide (ci < 9) && decide (fs.length = N) && mv_mem a (.classLink own i Cn) && mv_mem b (.instantiable Cn N) && mv_mem d (.initialized Cn) && (List.range N).all (fun j => match parseFieldDescriptor (T j).2.2.1 with
        | some t => decide (defaultValue t = vp_V fs j)
        | none => false)
      | none => false)
    | none => false) && mc_nchk df own r hs
theorem mc_nchk_of {df : List (List Value)} {own : String} : ∀ {l : List (Nat × Nat)} {hs : List (Nat × Nat × Nat)}, mc_nchk df own l hs = true → ∀ (i ci : Nat), (i, ci) ∈ l → mv_cok ci ∧ ∃ (Cn : String) (T : u_T) (N : Nat) (fs : List Value), vwCl[ci]? = some (Cn, T, N) ∧ df[ci]? = some fs ∧ fs.length = N ∧ Cond.classLink own i Cn ∈ mv_Ts ∧ Cond.instantiable Cn N ∈ mv_Ts ∧ Cond.initialized Cn ∈ mv_Ts ∧ ∀ j, j < N → ∀ t, parseFieldDescriptor (T j).2.2.1 = some t → defaultValue t = vp_V fs j
  | [], _, _, _, _, h => by cases h
  | _ :: _, [], h, _, _, _ => by simp [mc_nchk] at h
  | (i, ci) :: r, (a, b, d) :: hs, q, i', ci', hm => by
    simp only [mc_nchk, Bool.and_eq_true] at q
    rcases List.mem_cons.mp hm with e | hm
    · cases e
      obtain ⟨q1, -⟩ := q
      split at q1
      · next Cn T N hc =>
        split at q1
        · next fs hf =>
          simp only [Bool.and_eq_true, decide_eq_true_eq] at q1
          obtain ⟨⟨⟨⟨⟨a1, a2⟩, a3⟩, a4⟩, a5⟩, a6⟩ := q1
          refine ⟨okC ci a1, Cn, T, N, fs, hc, hf, a2, mv_mem_of a3, mv_mem_of a4, mv_mem_of a5, ?_⟩
          intro j hj t ht
          have h1 := List.all_eq_true.mp a6 j (List.mem_range.mpr hj)
          rw [ht] at h1
          exact of_decide_eq_true h1
        · cases q1
      · cases q1
    · exact mc_nchk_of q.2 i' ci' hm
def mc_gchk (C : mc_C) : Bool := C.2.2.2.2.1.1.all (fun q => decide (q.2.1 < 9) && (match vwCl[q.2.1]? with
  | some (_, T, _) => !(T q.2.2).2.2.2 || (decide ((T q.2.2).1 = C.1.cls) && decide (C.1.name = "<init>"))
  | none => false))
def mc_dchk (C : mc_C) : Bool := C.2.2.2.2.2.all (fun q => decide (decode C.2.1 q.1 = .ok (q.2, if q.2 = .newarray .int ∨ q.2 = .newarray .boolean ∨ q.2 = .newarray .long then 2 else match q.2 with
    | .new _ => 3
    | .invokespecial _ => 3
    | i => mv_len q.1 i)))
def mc_c2 (hc hi : Nat) (C : mc_C) : Bool := plainName C.1.cls && mv_mem hc (.code C.1 C.2.1 C.2.2.1 none) && decide (C.1.cls ≠ "java/lang/invoke/MethodHandle") && decide (C.1.cls ≠ "java/lang/invoke/VarHandle") && decide ((parseMethodDescriptor C.1.desc).map (fun d => d.parameters.length) = some C.2.2.2.1) && decide (C.2.2.1 ≤ 21) && mv_mem hi (.initialized C.1.cls)
theorem mc_cok_of {df : List (List Value)} {ctors : List mc_C} {C : mc_C} {hc hi : Nat} {h1 : List Nat} {h2 h3 : List (Nat × Nat × Nat)} (a1 : mc_c2 hc hi C = true) (a2 : mc_dchk C = true) (a3 : (mv_fchk C.1.cls C.2.2.2.2.1.1 h1 && mc_gchk C) = true) (a4 : (mc_lchk C.1.cls ctors C.2.2.2.2.1.2.1 h2 && mc_nchk df C.1.cls C.2.2.2.2.1.2.2 h3) = true) : mc_cok df ctors C := by
  simp only [mc_c2, Bool.and_eq_true, decide_eq_true_eq] at a1 a3 a4
  obtain ⟨⟨⟨⟨⟨⟨b1, b2⟩, b3⟩, b4⟩, b5⟩, b6⟩, b7⟩ := a1
  refine ⟨b1, mv_mem_of b2, ?_, ?_, mc_lchk_of a4.1, mc_nchk_of a4.2, ⟨b3, b4, b5⟩, b6, mv_mem_of b7⟩
  · intro q hq
    exact of_decide_eq_true (List.all_eq_true.mp a2 q hq)
  · intro i ci k hm
    have h9 := List.all_eq_true.mp a3.2 _ hm
    simp only [Bool.and_eq_true, decide_eq_true_eq] at h9
    refine ⟨mv_fchk_of a3.1 i ci k hm, okC ci h9.1, ?_⟩
    intro Cn T N hcl hfin
    have h8 := h9.2
    rw [hcl] at h8
    simp only [hfin, Bool.not_true, Bool.false_or, Bool.and_eq_true, decide_eq_true_eq] at h8
    exact h8
end
section
theorem okK0 : mc_cok mc_df kCs kC0 := mc_cok_of (hc := 207) (hi := 120) (h1 := [209, 210, 211, 212, 213, 214, 215, 216]) (h2 := [(208, 135, 136)]) (h3 := []) (by decide +kernel) (by decide +kernel) (by decide +kernel) (by decide +kernel)
theorem okK1 : mc_cok mc_df kCs kC1 := mc_cok_of (hc := 188) (hi := 119) (h1 := [190]) (h2 := [(189, 135, 136)]) (h3 := []) (by decide +kernel) (by decide +kernel) (by decide +kernel) (by decide +kernel)
theorem okK2 : mc_cok mc_df kCs kC2 := mc_cok_of (hc := 141) (hi := 118) (h1 := [143, 144, 145, 146, 147, 148, 149, 155]) (h2 := [(142, 135, 136)]) (h3 := []) (by decide +kernel) (by decide +kernel) (by decide +kernel) (by decide +kernel)
theorem okK3 : mc_cok mc_df kCs kC3 := mc_cok_of (hc := 346) (hi := 123) (h1 := [348, 349, 352]) (h2 := [(347, 135, 136)]) (h3 := []) (by decide +kernel) (by decide +kernel) (by decide +kernel) (by decide +kernel)
theorem okK4 : mc_cok mc_df kCs kC4 := mc_cok_of (hc := 262) (hi := 121) (h1 := [290, 291, 292, 293, 294, 295, 296, 297, 298, 299, 300]) (h2 := [(263, 135, 136), (266, 267, 0)]) (h3 := [(264, 265, 122)]) (by decide +kernel) (by decide +kernel) (by decide +kernel) (by decide +kernel)
theorem okK5 : mc_cok mc_df kCs kC5 := mc_cok_of (hc := 268) (hi := 122) (h1 := [270, 271, 272, 273]) (h2 := [(269, 135, 136)]) (h3 := []) (by decide +kernel) (by decide +kernel) (by decide +kernel) (by decide +kernel)
theorem okK6 : mc_cok mc_df kCs kC6 := mc_cok_of (hc := 368) (hi := 124) (h1 := [370, 371, 372, 373]) (h2 := [(369, 135, 136)]) (h3 := []) (by decide +kernel) (by decide +kernel) (by decide +kernel) (by decide +kernel)
theorem okK7 : mc_cok mc_df kCs kC7 := mc_cok_of (hc := 133) (hi := 117) (h1 := [402, 403, 404, 405, 406, 407]) (h2 := [(134, 135, 136), (0, 140, 0), (186, 187, 0), (0, 206, 0), (260, 261, 0), (344, 345, 0), (366, 367, 0), (398, 399, 400)]) (h3 := [(137, 138, 118), (184, 185, 119), (203, 204, 120), (258, 259, 121), (342, 343, 123), (364, 365, 124)]) (by decide +kernel) (by decide +kernel) (by decide +kernel) (by decide +kernel)
theorem okK8 : mc_cok mc_df kCs kC8 := mc_cok_of (hc := 1159) (hi := 125) (h1 := [1161, 1165, 1167, 1169, 1174, 1175, 1176, 1177, 1178, 1179, 1180, 1182, 1183, 1185, 1186, 1187, 1188, 1189, 1190, 1196, 1197, 1198, 1199, 1200, 1201, 1202, 1203, 1205, 1206, 1207, 1208, 1210, 1214, 1217, 1221, 1222, 1223, 1224, 1225, 1226]) (h2 := [(1160, 135, 136)]) (h3 := []) (by decide +kernel) (by decide +kernel) (by decide +kernel) (by decide +kernel)
theorem okK9 : mc_cok mc_df kCs kC9 := mc_cok_of (hc := 401) (hi := 120) (h1 := [221, 222]) (h2 := []) (h3 := []) (by decide +kernel) (by decide +kernel) (by decide +kernel) (by decide +kernel)
theorem okK : ∀ (j : Nat) (C : mc_C), kCs[j]? = some C → mc_cok mc_df kCs C := fun j C h => (show ∀ C ∈ kCs, mc_cok mc_df kCs C from List.forall_mem_cons.mpr ⟨okK0, List.forall_mem_cons.mpr ⟨okK1, List.forall_mem_cons.mpr ⟨okK2, List.forall_mem_cons.mpr ⟨okK3, List.forall_mem_cons.mpr ⟨okK4, List.forall_mem_cons.mpr ⟨okK5, List.forall_mem_cons.mpr ⟨okK6, List.forall_mem_cons.mpr ⟨okK7, List.forall_mem_cons.mpr ⟨okK8, List.forall_mem_cons.mpr ⟨okK9, fun _ h => absurd h List.not_mem_nil⟩⟩⟩⟩⟩⟩⟩⟩⟩⟩) C (List.mem_of_getElem? h)
theorem okAr : ∀ ty : FieldType, ty = .int ∨ ty = .boolean ∨ ty = .long → Cond.arrayClass ty ∈ mv_Ts := fun ty h => by
  rcases h with rfl | rfl | rfl
  · exact mv_mem_of (h := 183) (by decide +kernel)
  · exact mv_mem_of (h := 1360) (by decide +kernel)
  · exact mv_mem_of (h := 289) (by decide +kernel)
end
section
def sX0 : mv_S := (fun q k => if q = 1 ∧ k = 12 then -1 else if q = 3 ∧ k = 13 then 300 else if q = 6 ∧ k = 4 then 1 else 0, fun _ _ => 0, fun _ _ => 0)
def sY0 : mv_S := (fun q k => if q = 0 ∧ k = 4 then -1 else if q = 0 ∧ k = 36 then 300 else if q = 0 ∧ k = 53 then 6 else 0, fun _ _ => 0, fun _ _ => 0)
def dfX : List Value := [.null, .null, .null, .null, .null, .null]
def dfY : List Value := [.null, .int 0, .int 0, .int 0, .int 0, .int 0, .null, .int 0, .null, .int 0, .int 0, .int 0, .int 0, .null, .null, .null, .null, .null, .null, .null, .int 0, .null, .null, .int 0, .null, .null, .null, .null, .null, .null, .int 0, .int 0, .int 0, .int 0, .int 0, .int 0, .int 0, .null, .null, .null, .null, .null, .null, .int 0, .null, .null, .null, .null, .int 0, .null, .int 0, .int 0, .int 0, .int 0, .int 0, .int 0, .null, .int 0, .int 0, .int 0, .null, .null, .null, .null, .null, .null]
def mX : mc_M := [.inl (7, [.ref 1, .ref 9, .ref 10, .ref 19, .ref 33, .ref 34]), .inl (2, [.ref 2, .ref 3, .ref 4, .ref 5, .ref 6, .ref 7, .ref 8, .int 0, .int 0, .int 0, .int 0, .int 0, .int (-1)]), .inr (0, 700), .inr (0, 700), .inr (0, 700), .inr (0, 1500), .inr (0, 8), .inr (0, 8), .inr (0, 8), .inl (1, [.ref 1, .int 0, .int 0, .int 0]), .inl (0, [.ref 11, .ref 12, .ref 13, .ref 14, .ref 15, .ref 16, .ref 17, .ref 18, .int 0, .int 0, .int 0, .int 0, .int 0, .int 300, .int 0, .int 0]), .inr (0, 803), .inr (0, 803), .inr (0, 803), .inr (0, 803), .inr (0, 803), .inr (0, 803), .inr (0, 803), .inr (0, 803), .inl (4, [.ref 10, .ref 29, .ref 20, .ref 21, .ref 22, .ref 23, .ref 24, .ref 25, .ref 26, .ref 27, .ref 28, .int 0, .int 0, .int 0, .int 0, .int 0, .int 0]), .inr (0, 158), .inr (0, 54), .inr (0, 850), .inr (0, 425), .inr (2, 425), .inr (0, 25), .inr (0, 25), .inr (0, 25), .inr (0, 300), .inl (5, [.ref 10, .ref 30, .ref 31, .ref 32, .int 0, .int 0]), .inr (0, 402), .inr (0, 402), .inr (0, 402), .inl (3, [.ref 1, .ref 19, .int 0, .int 0, .int 1]), .inl (6, [.ref 1, .ref 19, .ref 35, .ref 36, .int 0, .int 0, .int 0, .int 0, .int 0]), .inr (0, 425), .inr (0, 425)]
def mY : mc_M := [.inl (8, [.ref 1, .int 0, .int 0, .int 0, .int (-1), .int 0, .ref 2, .int 0, .ref 3, .int 0, .int 0, .int 0, .int 0, .ref 4, .ref 5, .ref 6, .ref 7, .ref 8, .ref 9, .ref 10, .int 0, .ref 11, .ref 12, .int 0, .ref 13, .ref 14, .ref 15, .ref 16, .ref 17, .ref 18, .int 0, .int 0, .int 0, .int 0, .int 0, .int 0, .int 300, .ref 19, .ref 20, .ref 21, .ref 22, .ref 23, .ref 24, .int 0, .ref 25, .ref 26, .ref 27, .ref 28, .int 0, .ref 29, .int 0, .int 0, .int 0, .int 6, .int 0, .int 0, .ref 30, .int 0, .int 0, .int 0, .ref 31, .ref 32, .ref 33, .ref 34, .ref 35, .ref 36]), .inr (0, 700), .inr (0, 6000), .inr (0, 8000), .inr (1, 8), .inr (0, 8), .inr (0, 8), .inr (0, 8), .inr (0, 4000), .inr (0, 4000), .inr (0, 4000), .inr (0, 2000), .inr (0, 2000), .inr (0, 900), .inr (0, 900), .inr (0, 900), .inr (0, 900), .inr (1, 900), .inr (0, 900), .inr (0, 8), .inr (0, 4), .inr (0, 150), .inr (0, 50), .inr (0, 25), .inr (0, 25), .inr (1, 4000), .inr (0, 4000), .inr (1, 4000), .inr (0, 4000), .inr (0, 300), .inr (0, 900), .inr (0, 900), .inr (0, 900), .inr (0, 900), .inr (0, 900), .inr (0, 900), .inr (1, 900)]
def pmX : List Nat := [0, 1, 9, 10, 19, 29, 33, 34, 2, 3, 4, 5, 6, 7, 8, 11, 12, 13, 14, 15, 16, 17, 18, 20, 21, 22, 23, 24, 25, 26, 27, 28, 30, 31, 32, 35, 36]
def pmY : List Nat := [0, 1, 2, 3, 4, 5, 6, 7, 8, 9, 10, 11, 12, 13, 14, 15, 16, 17, 18, 19, 20, 21, 22, 23, 24, 25, 26, 27, 28, 29, 30, 31, 32, 33, 34, 35, 36]
theorem mkX : mc_big mc_df kCs 4 7 [.ref 0] [.inl (7, dfX)] = some (mX, 36, 14461) := by decide +kernel
theorem mkY : mc_big mc_df kCs 4 8 [.ref 0] [.inl (8, dfY)] = some (mY, 36, 58994) := by decide +kernel
theorem toX (cy : Nat → ClassId) (ad : Nat → Nat) : pmX.map (fun i => (mc_w cy ad 0 mX)[i]?) = (mv_w cy (fun q => ad (pmX.getD q 0)) sX0 0 layX).map some := rfl
theorem toY (cy : Nat → ClassId) (ad : Nat → Nat) : pmY.map (fun i => (mc_w cy ad 0 mY)[i]?) = (mv_w cy (fun q => ad (pmY.getD q 0)) sY0 0 layY).map some := rfl
end
section
/-! THE CLAIM OUT OF ONE WALK OF THE LAW'S BODY. Your part is whole_start (and what it stands on); all else here is the same for every law, but numbers. -/
def R_law : String := "MapMachineLaw"
def lw_P (b : Addr) (xs : List Int32) (args : Array Value) (s : State) : Prop := args = #[.ref b] ∧ s.IntsAt b xs ∧ xs.length ≤ 2048 ∧ (Jvm.Cond.and given_1 narrow_1).before args s = true
def lw_Q (_ : Array Value) (s : State) (o : Outcome) (t : State) : Prop := o = .returned (some (.int 1)) ∧ Framed s o t [] 600000 7302250
def lw_Z (below : List Frame) (a : Array Value) (s : State) : State → Prop := fun t => ∃ o, t.status = .running ∧ Ended t below o ∧ lw_Q a s o t
/-- the law's own end, with 1 on the stack, nothing written that was there before, its room as the claim has it -/
theorem lw_ret {p : Program} {l : Launch} {e : Env} {s : State} {m : MethodId} {below : List Frame} {meth : Method} {c : Code} {b : Nat} (hx : p.tables.exec = Jvm.exec) (hb : c.code = code) (hr : meth.sig.returnType = ret) (hlocks : meth.locks = false) {pc : Nat} {H : Heap} {ls : Array Slot} (hdg : decode code pc = .ok (.ireturn, 1)) : W p l e room_1 s m #[Value.ref b] below meth c H [] 600000 7302250 (lw_Z below #[Value.ref b] s) (F0 m pc ls [.int 1]) := by
  intro T hT X
  obtain ⟨fs, hret, hrun, hended, hW, hframe⟩ := X.leave (v := some (.int 1)) (hlocks := hlocks) (fun h => by rw [hr] at h; cases h)
  have hmeth' : T.vm.method? m = some meth := X.method'
  refine ⟨T.setFrames fs, ?_, .returned (some (.int 1)), hrun, hended, rfl, ⟨_, rfl⟩, hW, hframe⟩
  jvm_step X.here [X.here.top, hx, hb, hdg, hmeth', hr, ret, narrow_b1]
  (try refine ⟨rfl, ?_⟩); (try refine ⟨rfl, ?_⟩)
  first | (intro acts; rw [hret _ acts rfl rfl rfl]) | rw [hret _ _ rfl rfl rfl]
  exact Steps.refl _
/-- what holds at the law's entry: the machine, the code, the tables' words (any of lw_tbl by 'hts w (by decide +kernel)'), the script of L ints xs at the cell b, what the Statement gives of the start (any of its parts by flat_of_before) -/
def lw_At (p : Program) (s : State) (m : MethodId) (meth : Method) (c : Code) (b L : Nat) (xs : Nat → Int32) : Prop :=
  p.tables.exec = Jvm.exec ∧ c.code = code ∧ meth.sig.returnType = ret ∧ c.maxLocals = 4 ∧ s.vm.findClass R_law = some m.cls ∧ (∀ w ∈ lw_tbl, w.before #[Value.ref b] s = true) ∧ va_X b L xs s s.heap ∧ b < s.heap.size ∧ meth.locks = false ∧ (Jvm.Cond.and given_1 narrow_1).before #[Value.ref b] s = true
theorem dL_law_0 : decode cL_law 0 = .ok (.new 7, 3) := by decide +kernel
theorem dL_law_3 : decode cL_law 3 = .ok (.dup, 1) := by decide +kernel
theorem dL_law_4 : decode cL_law 4 = .ok (.invokespecial 9, 3) := by decide +kernel
theorem dL_law_7 : decode cL_law 7 = .ok (.astore_n 1, 1) := by decide +kernel
theorem dL_law_8 : decode cL_law 8 = .ok (.new 10, 3) := by decide +kernel
theorem dL_law_11 : decode cL_law 11 = .ok (.dup, 1) := by decide +kernel
theorem dL_law_12 : decode cL_law 12 = .ok (.invokespecial 12, 3) := by decide +kernel
theorem dL_law_15 : decode cL_law 15 = .ok (.astore_n 2, 1) := by decide +kernel
theorem dL_law_16 : decode cL_law 16 = .ok (.iconst 0, 1) := by decide +kernel
theorem dL_law_17 : decode cL_law 17 = .ok (.istore_n 3, 1) := by decide +kernel
theorem dL_law_18 : decode cL_law 18 = .ok (.iload_n 3, 1) := by decide +kernel
theorem dL_law_19 : decode cL_law 19 = .ok (.aload_n 0, 1) := by decide +kernel
theorem dL_law_20 : decode cL_law 20 = .ok (.arraylength, 1) := by decide +kernel
theorem dL_law_21 : decode cL_law 21 = .ok (.iconst 4, 1) := by decide +kernel
theorem dL_law_22 : decode cL_law 22 = .ok (.isub, 1) := by decide +kernel
theorem dL_law_23 : decode cL_law 23 = .ok (.if_icmp .gt 392, 3) := by decide +kernel
theorem dL_law_26 : decode cL_law 26 = .ok (.aload_n 0, 1) := by decide +kernel
theorem dL_law_27 : decode cL_law 27 = .ok (.iload_n 3, 1) := by decide +kernel
theorem dL_law_28 : decode cL_law 28 = .ok (.iaload, 1) := by decide +kernel
theorem dL_law_29 : decode cL_law 29 = .ok (.bipush 15, 2) := by decide +kernel
theorem dL_law_31 : decode cL_law 31 = .ok (.iand, 1) := by decide +kernel
theorem dL_law_32 : decode cL_law 32 = .ok (.tableswitch 377 0 12 #[68, 101, 124, 137, 150, 173, 196, 219, 252, 265, 288, 311, 354], 68) := by decide +kernel
theorem dL_law_100 : decode cL_law 100 = .ok (.aload_n 1, 1) := by decide +kernel
theorem dL_law_101 : decode cL_law 101 = .ok (.aload_n 0, 1) := by decide +kernel
theorem dL_law_102 : decode cL_law 102 = .ok (.iload_n 3, 1) := by decide +kernel
theorem dL_law_103 : decode cL_law 103 = .ok (.iconst 1, 1) := by decide +kernel
theorem dL_law_104 : decode cL_law 104 = .ok (.iadd, 1) := by decide +kernel
theorem dL_law_105 : decode cL_law 105 = .ok (.iaload, 1) := by decide +kernel
theorem dL_law_106 : decode cL_law 106 = .ok (.aload_n 0, 1) := by decide +kernel
theorem dL_law_107 : decode cL_law 107 = .ok (.iload_n 3, 1) := by decide +kernel
theorem dL_law_108 : decode cL_law 108 = .ok (.iconst 2, 1) := by decide +kernel
theorem dL_law_109 : decode cL_law 109 = .ok (.iadd, 1) := by decide +kernel
theorem dL_law_110 : decode cL_law 110 = .ok (.iaload, 1) := by decide +kernel
theorem dL_law_111 : decode cL_law 111 = .ok (.invokevirtual 13, 3) := by decide +kernel
theorem dL_law_114 : decode cL_law 114 = .ok (.aload_n 2, 1) := by decide +kernel
theorem dL_law_115 : decode cL_law 115 = .ok (.aload_n 0, 1) := by decide +kernel
theorem dL_law_116 : decode cL_law 116 = .ok (.iload_n 3, 1) := by decide +kernel
theorem dL_law_117 : decode cL_law 117 = .ok (.iconst 1, 1) := by decide +kernel
theorem dL_law_118 : decode cL_law 118 = .ok (.iadd, 1) := by decide +kernel
theorem dL_law_119 : decode cL_law 119 = .ok (.iaload, 1) := by decide +kernel
theorem dL_law_120 : decode cL_law 120 = .ok (.aload_n 0, 1) := by decide +kernel
theorem dL_law_121 : decode cL_law 121 = .ok (.iload_n 3, 1) := by decide +kernel
theorem dL_law_122 : decode cL_law 122 = .ok (.iconst 2, 1) := by decide +kernel
theorem dL_law_123 : decode cL_law 123 = .ok (.iadd, 1) := by decide +kernel
theorem dL_law_124 : decode cL_law 124 = .ok (.iaload, 1) := by decide +kernel
theorem dL_law_125 : decode cL_law 125 = .ok (.invokevirtual 17, 3) := by decide +kernel
theorem dL_law_128 : decode cL_law 128 = .ok (.if_icmp .eq 281, 3) := by decide +kernel
theorem dL_law_131 : decode cL_law 131 = .ok (.iconst 0, 1) := by decide +kernel
theorem dL_law_132 : decode cL_law 132 = .ok (.ireturn, 1) := by decide +kernel
theorem dL_law_133 : decode cL_law 133 = .ok (.aload_n 1, 1) := by decide +kernel
theorem dL_law_134 : decode cL_law 134 = .ok (.aload_n 0, 1) := by decide +kernel
theorem dL_law_135 : decode cL_law 135 = .ok (.iload_n 3, 1) := by decide +kernel
theorem dL_law_136 : decode cL_law 136 = .ok (.iconst 1, 1) := by decide +kernel
theorem dL_law_137 : decode cL_law 137 = .ok (.iadd, 1) := by decide +kernel
theorem dL_law_138 : decode cL_law 138 = .ok (.iaload, 1) := by decide +kernel
theorem dL_law_139 : decode cL_law 139 = .ok (.invokevirtual 18, 3) := by decide +kernel
theorem dL_law_142 : decode cL_law 142 = .ok (.aload_n 2, 1) := by decide +kernel
theorem dL_law_143 : decode cL_law 143 = .ok (.aload_n 0, 1) := by decide +kernel
theorem dL_law_144 : decode cL_law 144 = .ok (.iload_n 3, 1) := by decide +kernel
theorem dL_law_145 : decode cL_law 145 = .ok (.iconst 1, 1) := by decide +kernel
theorem dL_law_146 : decode cL_law 146 = .ok (.iadd, 1) := by decide +kernel
theorem dL_law_147 : decode cL_law 147 = .ok (.iaload, 1) := by decide +kernel
theorem dL_law_148 : decode cL_law 148 = .ok (.invokevirtual 22, 3) := by decide +kernel
theorem dL_law_151 : decode cL_law 151 = .ok (.if_icmp .eq 258, 3) := by decide +kernel
theorem dL_law_154 : decode cL_law 154 = .ok (.iconst 0, 1) := by decide +kernel
theorem dL_law_155 : decode cL_law 155 = .ok (.ireturn, 1) := by decide +kernel
theorem dL_law_156 : decode cL_law 156 = .ok (.aload_n 1, 1) := by decide +kernel
theorem dL_law_157 : decode cL_law 157 = .ok (.invokevirtual 23, 3) := by decide +kernel
theorem dL_law_160 : decode cL_law 160 = .ok (.aload_n 2, 1) := by decide +kernel
theorem dL_law_161 : decode cL_law 161 = .ok (.invokevirtual 27, 3) := by decide +kernel
theorem dL_law_164 : decode cL_law 164 = .ok (.if_icmp .eq 245, 3) := by decide +kernel
theorem dL_law_167 : decode cL_law 167 = .ok (.iconst 0, 1) := by decide +kernel
theorem dL_law_168 : decode cL_law 168 = .ok (.ireturn, 1) := by decide +kernel
theorem dL_law_169 : decode cL_law 169 = .ok (.aload_n 1, 1) := by decide +kernel
theorem dL_law_170 : decode cL_law 170 = .ok (.invokevirtual 28, 3) := by decide +kernel
theorem dL_law_173 : decode cL_law 173 = .ok (.aload_n 2, 1) := by decide +kernel
theorem dL_law_174 : decode cL_law 174 = .ok (.invokevirtual 31, 3) := by decide +kernel
theorem dL_law_177 : decode cL_law 177 = .ok (.if_icmp .eq 232, 3) := by decide +kernel
theorem dL_law_180 : decode cL_law 180 = .ok (.iconst 0, 1) := by decide +kernel
theorem dL_law_181 : decode cL_law 181 = .ok (.ireturn, 1) := by decide +kernel
theorem dL_law_182 : decode cL_law 182 = .ok (.aload_n 1, 1) := by decide +kernel
theorem dL_law_183 : decode cL_law 183 = .ok (.aload_n 0, 1) := by decide +kernel
theorem dL_law_184 : decode cL_law 184 = .ok (.iload_n 3, 1) := by decide +kernel
theorem dL_law_185 : decode cL_law 185 = .ok (.iconst 1, 1) := by decide +kernel
theorem dL_law_186 : decode cL_law 186 = .ok (.iadd, 1) := by decide +kernel
theorem dL_law_187 : decode cL_law 187 = .ok (.iaload, 1) := by decide +kernel
theorem dL_law_188 : decode cL_law 188 = .ok (.invokevirtual 32, 3) := by decide +kernel
theorem dL_law_191 : decode cL_law 191 = .ok (.aload_n 2, 1) := by decide +kernel
theorem dL_law_192 : decode cL_law 192 = .ok (.aload_n 0, 1) := by decide +kernel
theorem dL_law_193 : decode cL_law 193 = .ok (.iload_n 3, 1) := by decide +kernel
theorem dL_law_194 : decode cL_law 194 = .ok (.iconst 1, 1) := by decide +kernel
theorem dL_law_195 : decode cL_law 195 = .ok (.iadd, 1) := by decide +kernel
theorem dL_law_196 : decode cL_law 196 = .ok (.iaload, 1) := by decide +kernel
theorem dL_law_197 : decode cL_law 197 = .ok (.invokevirtual 35, 3) := by decide +kernel
theorem dL_law_200 : decode cL_law 200 = .ok (.if_icmp .eq 209, 3) := by decide +kernel
theorem dL_law_203 : decode cL_law 203 = .ok (.iconst 0, 1) := by decide +kernel
theorem dL_law_204 : decode cL_law 204 = .ok (.ireturn, 1) := by decide +kernel
theorem dL_law_205 : decode cL_law 205 = .ok (.aload_n 1, 1) := by decide +kernel
theorem dL_law_206 : decode cL_law 206 = .ok (.aload_n 0, 1) := by decide +kernel
theorem dL_law_207 : decode cL_law 207 = .ok (.iload_n 3, 1) := by decide +kernel
theorem dL_law_208 : decode cL_law 208 = .ok (.iconst 1, 1) := by decide +kernel
theorem dL_law_209 : decode cL_law 209 = .ok (.iadd, 1) := by decide +kernel
theorem dL_law_210 : decode cL_law 210 = .ok (.iaload, 1) := by decide +kernel
theorem dL_law_211 : decode cL_law 211 = .ok (.invokevirtual 36, 3) := by decide +kernel
theorem dL_law_214 : decode cL_law 214 = .ok (.aload_n 2, 1) := by decide +kernel
theorem dL_law_215 : decode cL_law 215 = .ok (.aload_n 0, 1) := by decide +kernel
theorem dL_law_216 : decode cL_law 216 = .ok (.iload_n 3, 1) := by decide +kernel
theorem dL_law_217 : decode cL_law 217 = .ok (.iconst 1, 1) := by decide +kernel
theorem dL_law_218 : decode cL_law 218 = .ok (.iadd, 1) := by decide +kernel
theorem dL_law_219 : decode cL_law 219 = .ok (.iaload, 1) := by decide +kernel
theorem dL_law_220 : decode cL_law 220 = .ok (.invokevirtual 39, 3) := by decide +kernel
theorem dL_law_223 : decode cL_law 223 = .ok (.if_icmp .eq 186, 3) := by decide +kernel
theorem dL_law_226 : decode cL_law 226 = .ok (.iconst 0, 1) := by decide +kernel
theorem dL_law_227 : decode cL_law 227 = .ok (.ireturn, 1) := by decide +kernel
theorem dL_law_228 : decode cL_law 228 = .ok (.aload_n 1, 1) := by decide +kernel
theorem dL_law_229 : decode cL_law 229 = .ok (.aload_n 0, 1) := by decide +kernel
theorem dL_law_230 : decode cL_law 230 = .ok (.iload_n 3, 1) := by decide +kernel
theorem dL_law_231 : decode cL_law 231 = .ok (.iconst 1, 1) := by decide +kernel
theorem dL_law_232 : decode cL_law 232 = .ok (.iadd, 1) := by decide +kernel
theorem dL_law_233 : decode cL_law 233 = .ok (.iaload, 1) := by decide +kernel
theorem dL_law_234 : decode cL_law 234 = .ok (.invokevirtual 40, 3) := by decide +kernel
theorem dL_law_237 : decode cL_law 237 = .ok (.aload_n 2, 1) := by decide +kernel
theorem dL_law_238 : decode cL_law 238 = .ok (.aload_n 0, 1) := by decide +kernel
theorem dL_law_239 : decode cL_law 239 = .ok (.iload_n 3, 1) := by decide +kernel
theorem dL_law_240 : decode cL_law 240 = .ok (.iconst 1, 1) := by decide +kernel
theorem dL_law_241 : decode cL_law 241 = .ok (.iadd, 1) := by decide +kernel
theorem dL_law_242 : decode cL_law 242 = .ok (.iaload, 1) := by decide +kernel
theorem dL_law_243 : decode cL_law 243 = .ok (.invokevirtual 43, 3) := by decide +kernel
theorem dL_law_246 : decode cL_law 246 = .ok (.if_icmp .eq 163, 3) := by decide +kernel
theorem dL_law_249 : decode cL_law 249 = .ok (.iconst 0, 1) := by decide +kernel
theorem dL_law_250 : decode cL_law 250 = .ok (.ireturn, 1) := by decide +kernel
theorem dL_law_251 : decode cL_law 251 = .ok (.aload_n 1, 1) := by decide +kernel
theorem dL_law_252 : decode cL_law 252 = .ok (.aload_n 0, 1) := by decide +kernel
theorem dL_law_253 : decode cL_law 253 = .ok (.iload_n 3, 1) := by decide +kernel
theorem dL_law_254 : decode cL_law 254 = .ok (.iconst 1, 1) := by decide +kernel
theorem dL_law_255 : decode cL_law 255 = .ok (.iadd, 1) := by decide +kernel
theorem dL_law_256 : decode cL_law 256 = .ok (.iaload, 1) := by decide +kernel
theorem dL_law_257 : decode cL_law 257 = .ok (.aload_n 0, 1) := by decide +kernel
theorem dL_law_258 : decode cL_law 258 = .ok (.iload_n 3, 1) := by decide +kernel
theorem dL_law_259 : decode cL_law 259 = .ok (.iconst 2, 1) := by decide +kernel
theorem dL_law_260 : decode cL_law 260 = .ok (.iadd, 1) := by decide +kernel
theorem dL_law_261 : decode cL_law 261 = .ok (.iaload, 1) := by decide +kernel
theorem dL_law_262 : decode cL_law 262 = .ok (.invokevirtual 44, 3) := by decide +kernel
theorem dL_law_265 : decode cL_law 265 = .ok (.aload_n 2, 1) := by decide +kernel
theorem dL_law_266 : decode cL_law 266 = .ok (.aload_n 0, 1) := by decide +kernel
theorem dL_law_267 : decode cL_law 267 = .ok (.iload_n 3, 1) := by decide +kernel
theorem dL_law_268 : decode cL_law 268 = .ok (.iconst 1, 1) := by decide +kernel
theorem dL_law_269 : decode cL_law 269 = .ok (.iadd, 1) := by decide +kernel
theorem dL_law_270 : decode cL_law 270 = .ok (.iaload, 1) := by decide +kernel
theorem dL_law_271 : decode cL_law 271 = .ok (.aload_n 0, 1) := by decide +kernel
theorem dL_law_272 : decode cL_law 272 = .ok (.iload_n 3, 1) := by decide +kernel
theorem dL_law_273 : decode cL_law 273 = .ok (.iconst 2, 1) := by decide +kernel
theorem dL_law_274 : decode cL_law 274 = .ok (.iadd, 1) := by decide +kernel
theorem dL_law_275 : decode cL_law 275 = .ok (.iaload, 1) := by decide +kernel
theorem dL_law_276 : decode cL_law 276 = .ok (.invokevirtual 47, 3) := by decide +kernel
theorem dL_law_279 : decode cL_law 279 = .ok (.if_icmp .eq 130, 3) := by decide +kernel
theorem dL_law_282 : decode cL_law 282 = .ok (.iconst 0, 1) := by decide +kernel
theorem dL_law_283 : decode cL_law 283 = .ok (.ireturn, 1) := by decide +kernel
theorem dL_law_284 : decode cL_law 284 = .ok (.aload_n 1, 1) := by decide +kernel
theorem dL_law_285 : decode cL_law 285 = .ok (.invokevirtual 48, 3) := by decide +kernel
theorem dL_law_288 : decode cL_law 288 = .ok (.aload_n 2, 1) := by decide +kernel
theorem dL_law_289 : decode cL_law 289 = .ok (.invokevirtual 51, 3) := by decide +kernel
theorem dL_law_292 : decode cL_law 292 = .ok (.if_icmp .eq 117, 3) := by decide +kernel
theorem dL_law_295 : decode cL_law 295 = .ok (.iconst 0, 1) := by decide +kernel
theorem dL_law_296 : decode cL_law 296 = .ok (.ireturn, 1) := by decide +kernel
theorem dL_law_297 : decode cL_law 297 = .ok (.aload_n 1, 1) := by decide +kernel
theorem dL_law_298 : decode cL_law 298 = .ok (.aload_n 0, 1) := by decide +kernel
theorem dL_law_299 : decode cL_law 299 = .ok (.iload_n 3, 1) := by decide +kernel
theorem dL_law_300 : decode cL_law 300 = .ok (.iconst 1, 1) := by decide +kernel
theorem dL_law_301 : decode cL_law 301 = .ok (.iadd, 1) := by decide +kernel
theorem dL_law_302 : decode cL_law 302 = .ok (.iaload, 1) := by decide +kernel
theorem dL_law_303 : decode cL_law 303 = .ok (.invokevirtual 52, 3) := by decide +kernel
theorem dL_law_306 : decode cL_law 306 = .ok (.aload_n 2, 1) := by decide +kernel
theorem dL_law_307 : decode cL_law 307 = .ok (.aload_n 0, 1) := by decide +kernel
theorem dL_law_308 : decode cL_law 308 = .ok (.iload_n 3, 1) := by decide +kernel
theorem dL_law_309 : decode cL_law 309 = .ok (.iconst 1, 1) := by decide +kernel
theorem dL_law_310 : decode cL_law 310 = .ok (.iadd, 1) := by decide +kernel
theorem dL_law_311 : decode cL_law 311 = .ok (.iaload, 1) := by decide +kernel
theorem dL_law_312 : decode cL_law 312 = .ok (.invokevirtual 55, 3) := by decide +kernel
theorem dL_law_315 : decode cL_law 315 = .ok (.if_icmp .eq 94, 3) := by decide +kernel
theorem dL_law_318 : decode cL_law 318 = .ok (.iconst 0, 1) := by decide +kernel
theorem dL_law_319 : decode cL_law 319 = .ok (.ireturn, 1) := by decide +kernel
theorem dL_law_320 : decode cL_law 320 = .ok (.aload_n 1, 1) := by decide +kernel
theorem dL_law_321 : decode cL_law 321 = .ok (.aload_n 0, 1) := by decide +kernel
theorem dL_law_322 : decode cL_law 322 = .ok (.iload_n 3, 1) := by decide +kernel
theorem dL_law_323 : decode cL_law 323 = .ok (.iconst 1, 1) := by decide +kernel
theorem dL_law_324 : decode cL_law 324 = .ok (.iadd, 1) := by decide +kernel
theorem dL_law_325 : decode cL_law 325 = .ok (.iaload, 1) := by decide +kernel
theorem dL_law_326 : decode cL_law 326 = .ok (.invokevirtual 56, 3) := by decide +kernel
theorem dL_law_329 : decode cL_law 329 = .ok (.aload_n 2, 1) := by decide +kernel
theorem dL_law_330 : decode cL_law 330 = .ok (.aload_n 0, 1) := by decide +kernel
theorem dL_law_331 : decode cL_law 331 = .ok (.iload_n 3, 1) := by decide +kernel
theorem dL_law_332 : decode cL_law 332 = .ok (.iconst 1, 1) := by decide +kernel
theorem dL_law_333 : decode cL_law 333 = .ok (.iadd, 1) := by decide +kernel
theorem dL_law_334 : decode cL_law 334 = .ok (.iaload, 1) := by decide +kernel
theorem dL_law_335 : decode cL_law 335 = .ok (.invokevirtual 59, 3) := by decide +kernel
theorem dL_law_338 : decode cL_law 338 = .ok (.if_icmp .eq 71, 3) := by decide +kernel
theorem dL_law_341 : decode cL_law 341 = .ok (.iconst 0, 1) := by decide +kernel
theorem dL_law_342 : decode cL_law 342 = .ok (.ireturn, 1) := by decide +kernel
theorem dL_law_343 : decode cL_law 343 = .ok (.aload_n 1, 1) := by decide +kernel
theorem dL_law_344 : decode cL_law 344 = .ok (.aload_n 0, 1) := by decide +kernel
theorem dL_law_345 : decode cL_law 345 = .ok (.iload_n 3, 1) := by decide +kernel
theorem dL_law_346 : decode cL_law 346 = .ok (.iconst 1, 1) := by decide +kernel
theorem dL_law_347 : decode cL_law 347 = .ok (.iadd, 1) := by decide +kernel
theorem dL_law_348 : decode cL_law 348 = .ok (.iaload, 1) := by decide +kernel
theorem dL_law_349 : decode cL_law 349 = .ok (.aload_n 0, 1) := by decide +kernel
theorem dL_law_350 : decode cL_law 350 = .ok (.iload_n 3, 1) := by decide +kernel
theorem dL_law_351 : decode cL_law 351 = .ok (.iconst 2, 1) := by decide +kernel
theorem dL_law_352 : decode cL_law 352 = .ok (.iadd, 1) := by decide +kernel
theorem dL_law_353 : decode cL_law 353 = .ok (.iaload, 1) := by decide +kernel
theorem dL_law_354 : decode cL_law 354 = .ok (.aload_n 0, 1) := by decide +kernel
theorem dL_law_355 : decode cL_law 355 = .ok (.iload_n 3, 1) := by decide +kernel
theorem dL_law_356 : decode cL_law 356 = .ok (.iconst 3, 1) := by decide +kernel
theorem dL_law_357 : decode cL_law 357 = .ok (.iadd, 1) := by decide +kernel
theorem dL_law_358 : decode cL_law 358 = .ok (.iaload, 1) := by decide +kernel
theorem dL_law_359 : decode cL_law 359 = .ok (.invokevirtual 60, 3) := by decide +kernel
theorem dL_law_362 : decode cL_law 362 = .ok (.aload_n 2, 1) := by decide +kernel
theorem dL_law_363 : decode cL_law 363 = .ok (.aload_n 0, 1) := by decide +kernel
theorem dL_law_364 : decode cL_law 364 = .ok (.iload_n 3, 1) := by decide +kernel
theorem dL_law_365 : decode cL_law 365 = .ok (.iconst 1, 1) := by decide +kernel
theorem dL_law_366 : decode cL_law 366 = .ok (.iadd, 1) := by decide +kernel
theorem dL_law_367 : decode cL_law 367 = .ok (.iaload, 1) := by decide +kernel
theorem dL_law_368 : decode cL_law 368 = .ok (.aload_n 0, 1) := by decide +kernel
theorem dL_law_369 : decode cL_law 369 = .ok (.iload_n 3, 1) := by decide +kernel
theorem dL_law_370 : decode cL_law 370 = .ok (.iconst 2, 1) := by decide +kernel
theorem dL_law_371 : decode cL_law 371 = .ok (.iadd, 1) := by decide +kernel
theorem dL_law_372 : decode cL_law 372 = .ok (.iaload, 1) := by decide +kernel
theorem dL_law_373 : decode cL_law 373 = .ok (.aload_n 0, 1) := by decide +kernel
theorem dL_law_374 : decode cL_law 374 = .ok (.iload_n 3, 1) := by decide +kernel
theorem dL_law_375 : decode cL_law 375 = .ok (.iconst 3, 1) := by decide +kernel
theorem dL_law_376 : decode cL_law 376 = .ok (.iadd, 1) := by decide +kernel
theorem dL_law_377 : decode cL_law 377 = .ok (.iaload, 1) := by decide +kernel
theorem dL_law_378 : decode cL_law 378 = .ok (.invokevirtual 64, 3) := by decide +kernel
theorem dL_law_381 : decode cL_law 381 = .ok (.if_icmp .eq 28, 3) := by decide +kernel
theorem dL_law_384 : decode cL_law 384 = .ok (.iconst 0, 1) := by decide +kernel
theorem dL_law_385 : decode cL_law 385 = .ok (.ireturn, 1) := by decide +kernel
theorem dL_law_386 : decode cL_law 386 = .ok (.aload_n 1, 1) := by decide +kernel
theorem dL_law_387 : decode cL_law 387 = .ok (.aload_n 0, 1) := by decide +kernel
theorem dL_law_388 : decode cL_law 388 = .ok (.iload_n 3, 1) := by decide +kernel
theorem dL_law_389 : decode cL_law 389 = .ok (.iconst 1, 1) := by decide +kernel
theorem dL_law_390 : decode cL_law 390 = .ok (.iadd, 1) := by decide +kernel
theorem dL_law_391 : decode cL_law 391 = .ok (.iaload, 1) := by decide +kernel
theorem dL_law_392 : decode cL_law 392 = .ok (.invokevirtual 65, 3) := by decide +kernel
theorem dL_law_395 : decode cL_law 395 = .ok (.aload_n 2, 1) := by decide +kernel
theorem dL_law_396 : decode cL_law 396 = .ok (.aload_n 0, 1) := by decide +kernel
theorem dL_law_397 : decode cL_law 397 = .ok (.iload_n 3, 1) := by decide +kernel
theorem dL_law_398 : decode cL_law 398 = .ok (.iconst 1, 1) := by decide +kernel
theorem dL_law_399 : decode cL_law 399 = .ok (.iadd, 1) := by decide +kernel
theorem dL_law_400 : decode cL_law 400 = .ok (.iaload, 1) := by decide +kernel
theorem dL_law_401 : decode cL_law 401 = .ok (.invokevirtual 68, 3) := by decide +kernel
theorem dL_law_404 : decode cL_law 404 = .ok (.if_icmp .eq 5, 3) := by decide +kernel
theorem dL_law_407 : decode cL_law 407 = .ok (.iconst 0, 1) := by decide +kernel
theorem dL_law_408 : decode cL_law 408 = .ok (.ireturn, 1) := by decide +kernel
theorem dL_law_409 : decode cL_law 409 = .ok (.iinc 3 4, 3) := by decide +kernel
theorem dL_law_412 : decode cL_law 412 = .ok (.goto (-394), 3) := by decide +kernel
theorem dL_law_415 : decode cL_law 415 = .ok (.iconst 1, 1) := by decide +kernel
theorem dL_law_416 : decode cL_law 416 = .ok (.ireturn, 1) := by decide +kernel
end
section
def lw_T : List (Nat × Nat × Nat) := [(158, 1, 2), (159, 2, 1), (160, 25, 0), (161, 26, 0), (162, 27, 1), (163, 46, 1), (164, 47, 1), (165, 48, 2), (166, 69, 0), (167, 70, 1), (168, 71, 1), (169, 72, 3), (170, 73, 1)]
/-- the two objects answer alike, and go on alike -/
def lw_Sim (Rel : mv_S → mv_S → Prop) (jX jY : Nat) (as : List Int32) (S T : mv_S) : Prop := mv_big layX sysX 2000 jX (.ref 0 :: as.map .int) S (fun r S' => ∃ x : Int32, r = some (.int x) ∧ mv_big layY sysY 2000 jY (.ref 0 :: as.map .int) T (fun r' T' => r' = some (.int x) ∧ Rel S' T'))
def lw_A (ad : Nat → Nat) (n : Nat) : Nat → Prop := fun a => ∃ q, q < n ∧ ad q = a
/-- the two worlds' addresses: apart, new since the start -/
def lw_G (cy : Nat → ClassId) (adX adY : Nat → Nat) (s : State) : Prop := (∀ S, va_D (lw_A adX 37) (mv_w cy adX S 0 layX)) ∧ (∀ T, va_D (lw_A adY 37) (mv_w cy adY T 0 layY)) ∧ (∀ a, lw_A adX 37 a → ¬ lw_A adY 37 a) ∧ (∀ a, lw_A adX 37 a → s.heap.size ≤ a) ∧ (∀ a, lw_A adY 37 a → s.heap.size ≤ a)
def lw_I (D : va_G) (cy : Nat → ClassId) (adX adY : Nat → Nat) (s : State) (S T : mv_S) (H : Heap) (locs : List Loc) : Prop := va_P D vwCl (mv_w cy adX S 0 layX) H ∧ va_P D vwCl (mv_w cy adY T 0 layY) H ∧ va_S (fun q => s.heap.size ≤ q) s.heap H locs
theorem lw_inA {cy : Nat → ClassId} {ad : Nat → Nat} {S : mv_S} {lay : List mv_D} {k : Nat} {x : Nat × va_E} (h : (mv_w cy ad S 0 lay)[k]? = some x) : lw_A ad lay.length x.1 := by
  rw [mv_w_at] at h
  obtain ⟨d, hd, rfl⟩ := Option.map_eq_some_iff.mp h
  exact ⟨k, mv_lt hd, by simp⟩
section LW
variable {p : Program} {l : Launch} {e : Env} {s : State} {m : MethodId} {args : Array Value} {below : List Frame} {meth : Method} {c : Code} {Q : State → Prop} {cells slots : Nat}
variable {D : va_G} {cy : Nat → ClassId} {ad : Nat → Nat} {A A0 : Nat → Prop} {lay : List mv_D} {sys : List mv_M}
theorem lw_call (hlay : mv_lok lay) (hsys : ∀ (j : Nat) (M : mv_M), sys[j]? = some M → mv_mok sys M) (hx : p.tables.exec = Jvm.exec) (hb : c.code = code) (hml : c.maxLocals = 4) (hown : s.vm.findClass R_law = some m.cls) (hts : ∀ w ∈ mv_Ts, w.before args s = true) (hK : va_K D vwCl (mv_tys cy) s)
    {j i pc ci : Nat} {fs : List Nat} {M : mv_M} {as : List Int32} {ls : Array Slot} {rest : List Value} {S : mv_S} {P : Option Value → mv_S → Prop} {H : Heap} {locs : List Loc} (hM : sys[j]? = some M) (hrc : M.2.2.2.2.2.1 = some ci) (h0 : lay[0]? = some (.inl (ci, fs))) (hlink : Cond.methodLink R_law i M.1 ∈ mv_Ts) (hnp : as.length = M.2.2.2.2.1) (hd : decode code pc = .ok (.invokevirtual i, 3))
    (hbig : mv_big lay sys 2000 j (.ref 0 :: as.map .int) S P) (hP : va_P D vwCl (mv_w cy ad S 0 lay) H) (hD : ∀ S', va_D A (mv_w cy ad S' 0 lay)) (hS : va_S A0 s.heap H locs) (hA : ∀ q, A q → A0 q) (hsz : ls.size = 4) (hcat : (rest.map fun v => v.category).sum ≤ 8) (hce : cells ≤ 600000) (hsl : slots ≤ 7302250)
    (kk : ∀ (r : Option Value) (S' : mv_S) (H' : Heap) (locs' : List Loc), P r S' → va_P D vwCl (mv_w cy ad S' 0 lay) H' → (∀ q, q < H.size → ¬ A q → H'[q]? = H[q]?) → va_S A0 s.heap H' locs' → W p l e room_1 s m args below meth c H' locs' cells slots Q (F0 m (pc + 3) ls ((r.map (mv_k ad)).toList ++ rest))) :
    W p l e room_1 s m args below meth c H locs cells slots Q (F0 m pc ls ((as.map Value.int).reverse ++ .ref (ad 0) :: rest)) := by
  have hMet := mv_met (l := l) (D := D) (cy := cy) (ad := ad) (A := A) hlay hsys 2000 j _ S P M hM hbig
  obtain ⟨g1, g2, g3, g4, g5, g6, g7, g8, g9, g10⟩ := hsys j M hM
  obtain ⟨⟨Tt, N, hcl⟩, gi, gs⟩ := g9 ci hrc
  have hmap : (as.map Value.int).map (mv_k ad) = as.map Value.int := by rw [List.map_map]; rfl
  have cb : CallB room_1 s args R_law i M.1 M.2.1 M.2.2.1 M.2.2.2.1 (Cond.code M.1 M.2.1 M.2.2.1 M.2.2.2.1 :: mv_Ts) (mv_rm 2000) 0 0 M.2.2.2.2.1 :=
    callB_of M.2.2.2.2.1 hts (mv_goodIn g2) rfl rfl rfl (hts _ g8) (hts _ hlink) g6 ⟨by show 2001 ≤ 2048; omega, by show 8 + (M.2.2.1 + 11) + 40 * 2000 ≤ 84000; omega⟩
  have hr := va_runV (cells := cells) (slots := slots) (below := below) (meth := meth) (locs := locs) (e := e) (g := F0 m pc ls ((as.map Value.int).reverse ++ .ref (ad 0) :: rest)) (C := M.1.cls) (b := ad 0) (As := as.map Value.int) (rest := rest) ⟨hx, hb, hml, hown, hts⟩ hMet ⟨cb, hts _ gi, hts _ gs⟩ ⟨mv_blind, va_recv hK hP hcl (mv_w_get h0), fun U hU hWm => ⟨by rw [List.map_cons, hmap]; rfl, by rw [hU]; exact hP, va_K.moved hWm.alike hK, hD S⟩⟩ rfl (by rw [List.length_map]; exact hnp) hsz rfl (lv_room hcat) hd ⟨by show cells + 0 ≤ 600000; omega, by show slots + 0 ≤ 7302250; omega⟩
  intro U hU X
  obtain ⟨v, st₀, t, T', L, e0, X', hL, e1, e2, ⟨⟨r, S', hv, hp, hP1, hK1, hD1⟩, hz, hk⟩, st⟩ := hr U hU X
  rw [e0] at hz hk
  have ev : v = r.map (mv_k ad) := by cases hv; rfl
  subst ev
  obtain ⟨t2, a1, b1⟩ := kk r S' T'.heap (locs ++ L) hp (by rw [e1]; exact hP1) (fun q h1 h2 => by rw [e1]; exact hk q h1 h2) ⟨Nat.le_trans hS.1 (by rw [e1]; exact hz), fun q h1 h2 => by rw [e1, hk q (Nat.lt_of_lt_of_le h1 hS.1) (fun z => h2 (hA q z))]; exact hS.2.1 q h1 h2, fun q hq => by
      rcases List.mem_append.mp hq with h | h
      · exact hS.2.2 q h
      · exact hA _ (hL q h)⟩ T' rfl X'
  exact ⟨t2, st t2 a1, b1⟩
end LW

set_option maxHeartbeats 4000000 in
/-- THE LAW'S LOOP, over what the two objects do alike -/
theorem law_loop {p : Program} {l : Launch} {e : Env} {s : State} {m : MethodId} {below : List Frame} {meth : Method} {c : Code} {D : va_G} {cy : Nat → ClassId} {b L : Nat} {xs : Nat → Int32} (hL : L ≤ 2048) (C0 : lw_At p s m meth c b L xs) (hK : va_K D vwCl (mv_tys cy) s) {adX adY : Nat → Nat} (hG : lw_G cy adX adY s)
    (Rel : Nat → mv_S → mv_S → Prop) (hskip : ∀ n S T, Rel n S T → Rel (n + 1) S T) (hstep : ∀ n, 4 * n + 4 ≤ L → ∀ S T, Rel n S T → ∀ (k : Nat) (q : Nat × Nat × Nat), lw_T[k]? = some q → ∀ as : List Int32, as.length = q.2.2 → lw_Sim (Rel (n + 1)) q.1 q.2.1 as S T) :
    ∀ (f n : Nat), L + 4 ≤ 4 * n + 4 * f → ∀ (S T : mv_S), Rel n S T → 4 * n ≤ L + 3 → ∀ (H : Heap) (locs : List Loc) (ls : Array Slot), lw_I D cy adX adY s S T H locs → lv_has ls 4 [(0, .ref b), (1, .ref (adX 0)), (2, .ref (adY 0)), (3, .int (nI (4 * n)))] → W p l e room_1 s m #[Value.ref b] below meth c H locs 74 73527 (lw_Z below #[Value.ref b] s) (F0 m 18 ls []) := by
  obtain ⟨hx, hb, hr, hml, hown, hts0, hX, hbl, hlocks, hgv⟩ := C0
  have hts : ∀ w ∈ mv_Ts, w.before #[Value.ref b] s = true := fun w hw => hts0 w (List.mem_filter.mp hw).1
  have hbA : ¬ (fun q : Nat => s.heap.size ≤ q) b := Nat.not_le.mpr hbl
  intro f
  induction f with
  | zero => intro n h1 S T _ h2; omega
  | succ f ih =>
    intro n hf S T hRel hn H locs ls hI hl
    obtain ⟨hPX, hPY, hS⟩ := hI
    refine lv_iload_n hx hb dL_law_18 rfl (lv_at hl 3 rfl) ?_
    refine lv_aload_n hx hb dL_law_19 rfl (lv_at hl 0 rfl) ?_
    refine va_slen hx hb hX hbl hbA hS dL_law_20 ?_
    refine lv_iconst (v := 4) hx hb dL_law_21 (by decide) ?_
    refine lv_isub hx hb dL_law_22 ?_
    have hcmp : (Int32.ofNat L - 4 < nI (4 * n)) ↔ L < 4 * n + 4 := by
      rw [Int32.lt_iff_toInt_lt, nI_toInt (by omega), show Int32.ofNat L - 4 = nI L - nI 4 from rfl, pk_sub_toInt (by omega) (by omega)]
      omega
    refine lv_icmp_gt (tgt := 415) hx hb dL_law_23 (by decide) (fun c1 => ?_) (fun c1 => ?_)
    · refine lv_iconst (v := 1) hx hb dL_law_415 (by decide) ?_
      refine va_forget (fun q hq => hS.2.2 q hq) ?_
      refine W.widen (k := 600000) (n := 7302250) (by omega) (by omega) ?_
      exact lw_ret hx hb hr hlocks dL_law_416
    · have hlt : 4 * n + 4 ≤ L := Nat.not_lt.mp (fun q => c1 (hcmp.mpr q))
      have i0 : vp_in (nI (4 * n)) L := vp_in_nI (by omega) (by omega)
      have i1 : vp_in (nI (4 * n) + 1) L := by rw [show nI (4 * n) + 1 = nI (4 * n + 1) from nI_1 _]; exact vp_in_nI (by omega) (by omega)
      have i2 : vp_in (nI (4 * n) + 2) L := by rw [show nI (4 * n) + 2 = nI (4 * n + 2) from nI_add _ 2]; exact vp_in_nI (by omega) (by omega)
      have i3 : vp_in (nI (4 * n) + 3) L := by rw [show nI (4 * n) + 3 = nI (4 * n + 3) from nI_add _ 3]; exact vp_in_nI (by omega) (by omega)
      have back : ∀ (S' T' : mv_S) (H' : Heap) (locs' : List Loc) (ls' : Array Slot), Rel (n + 1) S' T' → lw_I D cy adX adY s S' T' H' locs' → lv_has ls' 4 [(0, .ref b), (1, .ref (adX 0)), (2, .ref (adY 0)), (3, .int (nI (4 * n)))] → W p l e room_1 s m #[Value.ref b] below meth c H' locs' 74 73527 (lw_Z below #[Value.ref b] s) (F0 m 409 ls' []) := by
        intro S' T' H' locs' ls' hR' hI' hl'
        refine lv_iinc (v := nI (4 * (n + 1))) (lv' := [(3, .int (nI (4 * (n + 1)))), (0, .ref b), (1, .ref (adX 0)), (2, .ref (adY 0))]) hx hb dL_law_409 hl' (k := 3) rfl (by rw [show Int32.ofInt 4 = nI 4 from rfl, nI_add]; congr 1) (by decide) rfl (fun ls2 hl2 => ?_)
        refine lv_goto (tgt := 18) hx hb dL_law_412 (by decide) ?_
        exact ih (n + 1) (by omega) S' T' hR' (by omega) H' locs' ls2 hI' (lv_sub hl2 [1, 2, 3, 0] rfl)
      refine lv_aload_n hx hb dL_law_26 rfl (lv_at hl 0 rfl) ?_
      refine lv_iload_n hx hb dL_law_27 rfl (lv_at hl 3 rfl) ?_
      refine va_sld hx hb hX hbl hbA hS i0 dL_law_28 ?_
      refine lv_bipush (v := 15) hx hb dL_law_29 (by decide) ?_
      refine lv_iand hx hb dL_law_31 ?_
      refine mv_swt (K := fun t => W p l e room_1 s m #[Value.ref b] below meth c H locs 74 73527 (lw_Z below #[Value.ref b] s) (F0 m t ls [])) hx hb dL_law_32 (by decide) (by decide) (by decide) (fun t h => h) ?_

      refine ⟨fun _ => ?_, fun _ => ⟨fun _ => ?_, fun _ => ⟨fun _ => ?_, fun _ => ⟨fun _ => ?_, fun _ => ⟨fun _ => ?_, fun _ => ⟨fun _ => ?_, fun _ => ⟨fun _ => ?_, fun _ => ⟨fun _ => ?_, fun _ => ⟨fun _ => ?_, fun _ => ⟨fun _ => ?_, fun _ => ⟨fun _ => ?_, fun _ => ⟨fun _ => ?_, fun _ => ⟨fun _ => ?_, fun _ => ?_⟩⟩⟩⟩⟩⟩⟩⟩⟩⟩⟩⟩⟩
      · show W p l e room_1 s m #[Value.ref b] below meth c H locs 74 73527 (lw_Z below #[Value.ref b] s) (F0 m 100 ls [])
        have hsim := hstep n hlt S T hRel 0 _ rfl [xs (nI (4 * n) + 1).toNatClampNeg, xs (nI (4 * n) + 2).toNatClampNeg] rfl
        refine lv_aload_n hx hb dL_law_100 rfl (lv_at hl 1 rfl) ?_
        refine lv_aload_n hx hb dL_law_101 rfl (lv_at hl 0 rfl) ?_
        refine lv_iload_n hx hb dL_law_102 rfl (lv_at hl 3 rfl) ?_
        refine lv_iconst (v := 1) hx hb dL_law_103 (by decide) ?_
        refine lv_iadd hx hb dL_law_104 ?_
        refine va_sld hx hb hX hbl hbA hS i1 dL_law_105 ?_
        refine lv_aload_n hx hb dL_law_106 rfl (lv_at hl 0 rfl) ?_
        refine lv_iload_n hx hb dL_law_107 rfl (lv_at hl 3 rfl) ?_
        refine lv_iconst (v := 2) hx hb dL_law_108 (by decide) ?_
        refine lv_iadd hx hb dL_law_109 ?_
        refine va_sld hx hb hX hbl hbA hS i2 dL_law_110 ?_
        refine lw_call (as := [xs (nI (4 * n) + 1).toNatClampNeg, xs (nI (4 * n) + 2).toNatClampNeg]) (rest := []) (A := lw_A adX 37) okLX ok_sysX hx hb hml hown hts hK (M := _) (h0 := rfl) rfl rfl (mv_mem_of (h := 421) (by decide +kernel)) rfl dL_law_111 hsim hPX hG.1 hS hG.2.2.2.1 hl.1 (by decide) (by omega) (by omega) (fun r S1 H1 locs1 hp1 hP1 hk1 hS1 => ?_)
        obtain ⟨x, rfl, hp1⟩ := hp1
        have hPY1 : va_P D vwCl (mv_w cy adY T 0 layY) H1 := hPY.kept (fun k q hk => hk1 q.1 ((hPY k q hk).lt) (fun z => hG.2.2.1 _ z (lw_inA hk)))
        have hS := hS1
        refine lv_aload_n hx hb dL_law_114 rfl (lv_at hl 2 rfl) ?_
        refine lv_aload_n hx hb dL_law_115 rfl (lv_at hl 0 rfl) ?_
        refine lv_iload_n hx hb dL_law_116 rfl (lv_at hl 3 rfl) ?_
        refine lv_iconst (v := 1) hx hb dL_law_117 (by decide) ?_
        refine lv_iadd hx hb dL_law_118 ?_
        refine va_sld hx hb hX hbl hbA hS i1 dL_law_119 ?_
        refine lv_aload_n hx hb dL_law_120 rfl (lv_at hl 0 rfl) ?_
        refine lv_iload_n hx hb dL_law_121 rfl (lv_at hl 3 rfl) ?_
        refine lv_iconst (v := 2) hx hb dL_law_122 (by decide) ?_
        refine lv_iadd hx hb dL_law_123 ?_
        refine va_sld hx hb hX hbl hbA hS i2 dL_law_124 ?_
        refine lw_call (as := [xs (nI (4 * n) + 1).toNatClampNeg, xs (nI (4 * n) + 2).toNatClampNeg]) (rest := [.int x]) (A := lw_A adY 37) okLY ok_sysY hx hb hml hown hts hK (M := _) (h0 := rfl) rfl rfl (mv_mem_of (h := 1361) (by decide +kernel)) rfl dL_law_125 hp1 hPY1 hG.2.1 hS1 hG.2.2.2.2 hl.1 (Nat.le_of_ble_eq_true rfl) (by omega) (by omega) (fun r2 T1 H2 locs2 hp2 hP2 hk2 hS2 => ?_)
        obtain ⟨rfl, hR1⟩ := hp2
        have hPX2 : va_P D vwCl (mv_w cy adX S1 0 layX) H2 := hP1.kept (fun k q hk => hk2 q.1 ((hP1 k q hk).lt) (fun z => hG.2.2.1 _ (lw_inA hk) z))
        exact lv_icmp_eq (tgt := 409) hx hb dL_law_128 (by decide) (fun _ => back S1 T1 H2 locs2 ls hR1 ⟨hPX2, hP2, hS2⟩ hl) (fun z => absurd rfl z)
      · show W p l e room_1 s m #[Value.ref b] below meth c H locs 74 73527 (lw_Z below #[Value.ref b] s) (F0 m 133 ls [])
        have hsim := hstep n hlt S T hRel 1 _ rfl [xs (nI (4 * n) + 1).toNatClampNeg] rfl
        refine lv_aload_n hx hb dL_law_133 rfl (lv_at hl 1 rfl) ?_
        refine lv_aload_n hx hb dL_law_134 rfl (lv_at hl 0 rfl) ?_
        refine lv_iload_n hx hb dL_law_135 rfl (lv_at hl 3 rfl) ?_
        refine lv_iconst (v := 1) hx hb dL_law_136 (by decide) ?_
        refine lv_iadd hx hb dL_law_137 ?_
        refine va_sld hx hb hX hbl hbA hS i1 dL_law_138 ?_
        refine lw_call (as := [xs (nI (4 * n) + 1).toNatClampNeg]) (rest := []) (A := lw_A adX 37) okLX ok_sysX hx hb hml hown hts hK (M := _) (h0 := rfl) rfl rfl (mv_mem_of (h := 448) (by decide +kernel)) rfl dL_law_139 hsim hPX hG.1 hS hG.2.2.2.1 hl.1 (by decide) (by omega) (by omega) (fun r S1 H1 locs1 hp1 hP1 hk1 hS1 => ?_)
        obtain ⟨x, rfl, hp1⟩ := hp1
        have hPY1 : va_P D vwCl (mv_w cy adY T 0 layY) H1 := hPY.kept (fun k q hk => hk1 q.1 ((hPY k q hk).lt) (fun z => hG.2.2.1 _ z (lw_inA hk)))
        have hS := hS1
        refine lv_aload_n hx hb dL_law_142 rfl (lv_at hl 2 rfl) ?_
        refine lv_aload_n hx hb dL_law_143 rfl (lv_at hl 0 rfl) ?_
        refine lv_iload_n hx hb dL_law_144 rfl (lv_at hl 3 rfl) ?_
        refine lv_iconst (v := 1) hx hb dL_law_145 (by decide) ?_
        refine lv_iadd hx hb dL_law_146 ?_
        refine va_sld hx hb hX hbl hbA hS i1 dL_law_147 ?_
        refine lw_call (as := [xs (nI (4 * n) + 1).toNatClampNeg]) (rest := [.int x]) (A := lw_A adY 37) okLY ok_sysY hx hb hml hown hts hK (M := _) (h0 := rfl) rfl rfl (mv_mem_of (h := 1376) (by decide +kernel)) rfl dL_law_148 hp1 hPY1 hG.2.1 hS1 hG.2.2.2.2 hl.1 (Nat.le_of_ble_eq_true rfl) (by omega) (by omega) (fun r2 T1 H2 locs2 hp2 hP2 hk2 hS2 => ?_)
        obtain ⟨rfl, hR1⟩ := hp2
        have hPX2 : va_P D vwCl (mv_w cy adX S1 0 layX) H2 := hP1.kept (fun k q hk => hk2 q.1 ((hP1 k q hk).lt) (fun z => hG.2.2.1 _ (lw_inA hk) z))
        exact lv_icmp_eq (tgt := 409) hx hb dL_law_151 (by decide) (fun _ => back S1 T1 H2 locs2 ls hR1 ⟨hPX2, hP2, hS2⟩ hl) (fun z => absurd rfl z)
      · show W p l e room_1 s m #[Value.ref b] below meth c H locs 74 73527 (lw_Z below #[Value.ref b] s) (F0 m 156 ls [])
        have hsim := hstep n hlt S T hRel 2 _ rfl [] rfl
        refine lv_aload_n hx hb dL_law_156 rfl (lv_at hl 1 rfl) ?_
        refine lw_call (as := []) (rest := []) (A := lw_A adX 37) okLX ok_sysX hx hb hml hown hts hK (M := _) (h0 := rfl) rfl rfl (mv_mem_of (h := 468) (by decide +kernel)) rfl dL_law_157 hsim hPX hG.1 hS hG.2.2.2.1 hl.1 (by decide) (by omega) (by omega) (fun r S1 H1 locs1 hp1 hP1 hk1 hS1 => ?_)
        obtain ⟨x, rfl, hp1⟩ := hp1
        have hPY1 : va_P D vwCl (mv_w cy adY T 0 layY) H1 := hPY.kept (fun k q hk => hk1 q.1 ((hPY k q hk).lt) (fun z => hG.2.2.1 _ z (lw_inA hk)))
        have hS := hS1
        refine lv_aload_n hx hb dL_law_160 rfl (lv_at hl 2 rfl) ?_
        refine lw_call (as := []) (rest := [.int x]) (A := lw_A adY 37) okLY ok_sysY hx hb hml hown hts hK (M := _) (h0 := rfl) rfl rfl (mv_mem_of (h := 1380) (by decide +kernel)) rfl dL_law_161 hp1 hPY1 hG.2.1 hS1 hG.2.2.2.2 hl.1 (Nat.le_of_ble_eq_true rfl) (by omega) (by omega) (fun r2 T1 H2 locs2 hp2 hP2 hk2 hS2 => ?_)
        obtain ⟨rfl, hR1⟩ := hp2
        have hPX2 : va_P D vwCl (mv_w cy adX S1 0 layX) H2 := hP1.kept (fun k q hk => hk2 q.1 ((hP1 k q hk).lt) (fun z => hG.2.2.1 _ (lw_inA hk) z))
        exact lv_icmp_eq (tgt := 409) hx hb dL_law_164 (by decide) (fun _ => back S1 T1 H2 locs2 ls hR1 ⟨hPX2, hP2, hS2⟩ hl) (fun z => absurd rfl z)
      · show W p l e room_1 s m #[Value.ref b] below meth c H locs 74 73527 (lw_Z below #[Value.ref b] s) (F0 m 169 ls [])
        have hsim := hstep n hlt S T hRel 3 _ rfl [] rfl
        refine lv_aload_n hx hb dL_law_169 rfl (lv_at hl 1 rfl) ?_
        refine lw_call (as := []) (rest := []) (A := lw_A adX 37) okLX ok_sysX hx hb hml hown hts hK (M := _) (h0 := rfl) rfl rfl (mv_mem_of (h := 652) (by decide +kernel)) rfl dL_law_170 hsim hPX hG.1 hS hG.2.2.2.1 hl.1 (by decide) (by omega) (by omega) (fun r S1 H1 locs1 hp1 hP1 hk1 hS1 => ?_)
        obtain ⟨x, rfl, hp1⟩ := hp1
        have hPY1 : va_P D vwCl (mv_w cy adY T 0 layY) H1 := hPY.kept (fun k q hk => hk1 q.1 ((hPY k q hk).lt) (fun z => hG.2.2.1 _ z (lw_inA hk)))
        have hS := hS1
        refine lv_aload_n hx hb dL_law_173 rfl (lv_at hl 2 rfl) ?_
        refine lw_call (as := []) (rest := [.int x]) (A := lw_A adY 37) okLY ok_sysY hx hb hml hown hts hK (M := _) (h0 := rfl) rfl rfl (mv_mem_of (h := 1472) (by decide +kernel)) rfl dL_law_174 hp1 hPY1 hG.2.1 hS1 hG.2.2.2.2 hl.1 (Nat.le_of_ble_eq_true rfl) (by omega) (by omega) (fun r2 T1 H2 locs2 hp2 hP2 hk2 hS2 => ?_)
        obtain ⟨rfl, hR1⟩ := hp2
        have hPX2 : va_P D vwCl (mv_w cy adX S1 0 layX) H2 := hP1.kept (fun k q hk => hk2 q.1 ((hP1 k q hk).lt) (fun z => hG.2.2.1 _ (lw_inA hk) z))
        exact lv_icmp_eq (tgt := 409) hx hb dL_law_177 (by decide) (fun _ => back S1 T1 H2 locs2 ls hR1 ⟨hPX2, hP2, hS2⟩ hl) (fun z => absurd rfl z)
      · show W p l e room_1 s m #[Value.ref b] below meth c H locs 74 73527 (lw_Z below #[Value.ref b] s) (F0 m 182 ls [])
        have hsim := hstep n hlt S T hRel 4 _ rfl [xs (nI (4 * n) + 1).toNatClampNeg] rfl
        refine lv_aload_n hx hb dL_law_182 rfl (lv_at hl 1 rfl) ?_
        refine lv_aload_n hx hb dL_law_183 rfl (lv_at hl 0 rfl) ?_
        refine lv_iload_n hx hb dL_law_184 rfl (lv_at hl 3 rfl) ?_
        refine lv_iconst (v := 1) hx hb dL_law_185 (by decide) ?_
        refine lv_iadd hx hb dL_law_186 ?_
        refine va_sld hx hb hX hbl hbA hS i1 dL_law_187 ?_
        refine lw_call (as := [xs (nI (4 * n) + 1).toNatClampNeg]) (rest := []) (A := lw_A adX 37) okLX ok_sysX hx hb hml hown hts hK (M := _) (h0 := rfl) rfl rfl (mv_mem_of (h := 660) (by decide +kernel)) rfl dL_law_188 hsim hPX hG.1 hS hG.2.2.2.1 hl.1 (by decide) (by omega) (by omega) (fun r S1 H1 locs1 hp1 hP1 hk1 hS1 => ?_)
        obtain ⟨x, rfl, hp1⟩ := hp1
        have hPY1 : va_P D vwCl (mv_w cy adY T 0 layY) H1 := hPY.kept (fun k q hk => hk1 q.1 ((hPY k q hk).lt) (fun z => hG.2.2.1 _ z (lw_inA hk)))
        have hS := hS1
        refine lv_aload_n hx hb dL_law_191 rfl (lv_at hl 2 rfl) ?_
        refine lv_aload_n hx hb dL_law_192 rfl (lv_at hl 0 rfl) ?_
        refine lv_iload_n hx hb dL_law_193 rfl (lv_at hl 3 rfl) ?_
        refine lv_iconst (v := 1) hx hb dL_law_194 (by decide) ?_
        refine lv_iadd hx hb dL_law_195 ?_
        refine va_sld hx hb hX hbl hbA hS i1 dL_law_196 ?_
        refine lw_call (as := [xs (nI (4 * n) + 1).toNatClampNeg]) (rest := [.int x]) (A := lw_A adY 37) okLY ok_sysY hx hb hml hown hts hK (M := _) (h0 := rfl) rfl rfl (mv_mem_of (h := 1476) (by decide +kernel)) rfl dL_law_197 hp1 hPY1 hG.2.1 hS1 hG.2.2.2.2 hl.1 (Nat.le_of_ble_eq_true rfl) (by omega) (by omega) (fun r2 T1 H2 locs2 hp2 hP2 hk2 hS2 => ?_)
        obtain ⟨rfl, hR1⟩ := hp2
        have hPX2 : va_P D vwCl (mv_w cy adX S1 0 layX) H2 := hP1.kept (fun k q hk => hk2 q.1 ((hP1 k q hk).lt) (fun z => hG.2.2.1 _ (lw_inA hk) z))
        exact lv_icmp_eq (tgt := 409) hx hb dL_law_200 (by decide) (fun _ => back S1 T1 H2 locs2 ls hR1 ⟨hPX2, hP2, hS2⟩ hl) (fun z => absurd rfl z)
      · show W p l e room_1 s m #[Value.ref b] below meth c H locs 74 73527 (lw_Z below #[Value.ref b] s) (F0 m 205 ls [])
        have hsim := hstep n hlt S T hRel 5 _ rfl [xs (nI (4 * n) + 1).toNatClampNeg] rfl
        refine lv_aload_n hx hb dL_law_205 rfl (lv_at hl 1 rfl) ?_
        refine lv_aload_n hx hb dL_law_206 rfl (lv_at hl 0 rfl) ?_
        refine lv_iload_n hx hb dL_law_207 rfl (lv_at hl 3 rfl) ?_
        refine lv_iconst (v := 1) hx hb dL_law_208 (by decide) ?_
        refine lv_iadd hx hb dL_law_209 ?_
        refine va_sld hx hb hX hbl hbA hS i1 dL_law_210 ?_
        refine lw_call (as := [xs (nI (4 * n) + 1).toNatClampNeg]) (rest := []) (A := lw_A adX 37) okLX ok_sysX hx hb hml hown hts hK (M := _) (h0 := rfl) rfl rfl (mv_mem_of (h := 669) (by decide +kernel)) rfl dL_law_211 hsim hPX hG.1 hS hG.2.2.2.1 hl.1 (by decide) (by omega) (by omega) (fun r S1 H1 locs1 hp1 hP1 hk1 hS1 => ?_)
        obtain ⟨x, rfl, hp1⟩ := hp1
        have hPY1 : va_P D vwCl (mv_w cy adY T 0 layY) H1 := hPY.kept (fun k q hk => hk1 q.1 ((hPY k q hk).lt) (fun z => hG.2.2.1 _ z (lw_inA hk)))
        have hS := hS1
        refine lv_aload_n hx hb dL_law_214 rfl (lv_at hl 2 rfl) ?_
        refine lv_aload_n hx hb dL_law_215 rfl (lv_at hl 0 rfl) ?_
        refine lv_iload_n hx hb dL_law_216 rfl (lv_at hl 3 rfl) ?_
        refine lv_iconst (v := 1) hx hb dL_law_217 (by decide) ?_
        refine lv_iadd hx hb dL_law_218 ?_
        refine va_sld hx hb hX hbl hbA hS i1 dL_law_219 ?_
        refine lw_call (as := [xs (nI (4 * n) + 1).toNatClampNeg]) (rest := [.int x]) (A := lw_A adY 37) okLY ok_sysY hx hb hml hown hts hK (M := _) (h0 := rfl) rfl rfl (mv_mem_of (h := 1480) (by decide +kernel)) rfl dL_law_220 hp1 hPY1 hG.2.1 hS1 hG.2.2.2.2 hl.1 (Nat.le_of_ble_eq_true rfl) (by omega) (by omega) (fun r2 T1 H2 locs2 hp2 hP2 hk2 hS2 => ?_)
        obtain ⟨rfl, hR1⟩ := hp2
        have hPX2 : va_P D vwCl (mv_w cy adX S1 0 layX) H2 := hP1.kept (fun k q hk => hk2 q.1 ((hP1 k q hk).lt) (fun z => hG.2.2.1 _ (lw_inA hk) z))
        exact lv_icmp_eq (tgt := 409) hx hb dL_law_223 (by decide) (fun _ => back S1 T1 H2 locs2 ls hR1 ⟨hPX2, hP2, hS2⟩ hl) (fun z => absurd rfl z)
      · show W p l e room_1 s m #[Value.ref b] below meth c H locs 74 73527 (lw_Z below #[Value.ref b] s) (F0 m 228 ls [])
        have hsim := hstep n hlt S T hRel 6 _ rfl [xs (nI (4 * n) + 1).toNatClampNeg] rfl
        refine lv_aload_n hx hb dL_law_228 rfl (lv_at hl 1 rfl) ?_
        refine lv_aload_n hx hb dL_law_229 rfl (lv_at hl 0 rfl) ?_
        refine lv_iload_n hx hb dL_law_230 rfl (lv_at hl 3 rfl) ?_
        refine lv_iconst (v := 1) hx hb dL_law_231 (by decide) ?_
        refine lv_iadd hx hb dL_law_232 ?_
        refine va_sld hx hb hX hbl hbA hS i1 dL_law_233 ?_
        refine lw_call (as := [xs (nI (4 * n) + 1).toNatClampNeg]) (rest := []) (A := lw_A adX 37) okLX ok_sysX hx hb hml hown hts hK (M := _) (h0 := rfl) rfl rfl (mv_mem_of (h := 703) (by decide +kernel)) rfl dL_law_234 hsim hPX hG.1 hS hG.2.2.2.1 hl.1 (by decide) (by omega) (by omega) (fun r S1 H1 locs1 hp1 hP1 hk1 hS1 => ?_)
        obtain ⟨x, rfl, hp1⟩ := hp1
        have hPY1 : va_P D vwCl (mv_w cy adY T 0 layY) H1 := hPY.kept (fun k q hk => hk1 q.1 ((hPY k q hk).lt) (fun z => hG.2.2.1 _ z (lw_inA hk)))
        have hS := hS1
        refine lv_aload_n hx hb dL_law_237 rfl (lv_at hl 2 rfl) ?_
        refine lv_aload_n hx hb dL_law_238 rfl (lv_at hl 0 rfl) ?_
        refine lv_iload_n hx hb dL_law_239 rfl (lv_at hl 3 rfl) ?_
        refine lv_iconst (v := 1) hx hb dL_law_240 (by decide) ?_
        refine lv_iadd hx hb dL_law_241 ?_
        refine va_sld hx hb hX hbl hbA hS i1 dL_law_242 ?_
        refine lw_call (as := [xs (nI (4 * n) + 1).toNatClampNeg]) (rest := [.int x]) (A := lw_A adY 37) okLY ok_sysY hx hb hml hown hts hK (M := _) (h0 := rfl) rfl rfl (mv_mem_of (h := 1484) (by decide +kernel)) rfl dL_law_243 hp1 hPY1 hG.2.1 hS1 hG.2.2.2.2 hl.1 (Nat.le_of_ble_eq_true rfl) (by omega) (by omega) (fun r2 T1 H2 locs2 hp2 hP2 hk2 hS2 => ?_)
        obtain ⟨rfl, hR1⟩ := hp2
        have hPX2 : va_P D vwCl (mv_w cy adX S1 0 layX) H2 := hP1.kept (fun k q hk => hk2 q.1 ((hP1 k q hk).lt) (fun z => hG.2.2.1 _ (lw_inA hk) z))
        exact lv_icmp_eq (tgt := 409) hx hb dL_law_246 (by decide) (fun _ => back S1 T1 H2 locs2 ls hR1 ⟨hPX2, hP2, hS2⟩ hl) (fun z => absurd rfl z)
      · show W p l e room_1 s m #[Value.ref b] below meth c H locs 74 73527 (lw_Z below #[Value.ref b] s) (F0 m 251 ls [])
        have hsim := hstep n hlt S T hRel 7 _ rfl [xs (nI (4 * n) + 1).toNatClampNeg, xs (nI (4 * n) + 2).toNatClampNeg] rfl
        refine lv_aload_n hx hb dL_law_251 rfl (lv_at hl 1 rfl) ?_
        refine lv_aload_n hx hb dL_law_252 rfl (lv_at hl 0 rfl) ?_
        refine lv_iload_n hx hb dL_law_253 rfl (lv_at hl 3 rfl) ?_
        refine lv_iconst (v := 1) hx hb dL_law_254 (by decide) ?_
        refine lv_iadd hx hb dL_law_255 ?_
        refine va_sld hx hb hX hbl hbA hS i1 dL_law_256 ?_
        refine lv_aload_n hx hb dL_law_257 rfl (lv_at hl 0 rfl) ?_
        refine lv_iload_n hx hb dL_law_258 rfl (lv_at hl 3 rfl) ?_
        refine lv_iconst (v := 2) hx hb dL_law_259 (by decide) ?_
        refine lv_iadd hx hb dL_law_260 ?_
        refine va_sld hx hb hX hbl hbA hS i2 dL_law_261 ?_
        refine lw_call (as := [xs (nI (4 * n) + 1).toNatClampNeg, xs (nI (4 * n) + 2).toNatClampNeg]) (rest := []) (A := lw_A adX 37) okLX ok_sysX hx hb hml hown hts hK (M := _) (h0 := rfl) rfl rfl (mv_mem_of (h := 968) (by decide +kernel)) rfl dL_law_262 hsim hPX hG.1 hS hG.2.2.2.1 hl.1 (by decide) (by omega) (by omega) (fun r S1 H1 locs1 hp1 hP1 hk1 hS1 => ?_)
        obtain ⟨x, rfl, hp1⟩ := hp1
        have hPY1 : va_P D vwCl (mv_w cy adY T 0 layY) H1 := hPY.kept (fun k q hk => hk1 q.1 ((hPY k q hk).lt) (fun z => hG.2.2.1 _ z (lw_inA hk)))
        have hS := hS1
        refine lv_aload_n hx hb dL_law_265 rfl (lv_at hl 2 rfl) ?_
        refine lv_aload_n hx hb dL_law_266 rfl (lv_at hl 0 rfl) ?_
        refine lv_iload_n hx hb dL_law_267 rfl (lv_at hl 3 rfl) ?_
        refine lv_iconst (v := 1) hx hb dL_law_268 (by decide) ?_
        refine lv_iadd hx hb dL_law_269 ?_
        refine va_sld hx hb hX hbl hbA hS i1 dL_law_270 ?_
        refine lv_aload_n hx hb dL_law_271 rfl (lv_at hl 0 rfl) ?_
        refine lv_iload_n hx hb dL_law_272 rfl (lv_at hl 3 rfl) ?_
        refine lv_iconst (v := 2) hx hb dL_law_273 (by decide) ?_
        refine lv_iadd hx hb dL_law_274 ?_
        refine va_sld hx hb hX hbl hbA hS i2 dL_law_275 ?_
        refine lw_call (as := [xs (nI (4 * n) + 1).toNatClampNeg, xs (nI (4 * n) + 2).toNatClampNeg]) (rest := [.int x]) (A := lw_A adY 37) okLY ok_sysY hx hb hml hown hts hK (M := _) (h0 := rfl) rfl rfl (mv_mem_of (h := 1633) (by decide +kernel)) rfl dL_law_276 hp1 hPY1 hG.2.1 hS1 hG.2.2.2.2 hl.1 (Nat.le_of_ble_eq_true rfl) (by omega) (by omega) (fun r2 T1 H2 locs2 hp2 hP2 hk2 hS2 => ?_)
        obtain ⟨rfl, hR1⟩ := hp2
        have hPX2 : va_P D vwCl (mv_w cy adX S1 0 layX) H2 := hP1.kept (fun k q hk => hk2 q.1 ((hP1 k q hk).lt) (fun z => hG.2.2.1 _ (lw_inA hk) z))
        exact lv_icmp_eq (tgt := 409) hx hb dL_law_279 (by decide) (fun _ => back S1 T1 H2 locs2 ls hR1 ⟨hPX2, hP2, hS2⟩ hl) (fun z => absurd rfl z)
      · show W p l e room_1 s m #[Value.ref b] below meth c H locs 74 73527 (lw_Z below #[Value.ref b] s) (F0 m 284 ls [])
        have hsim := hstep n hlt S T hRel 8 _ rfl [] rfl
        refine lv_aload_n hx hb dL_law_284 rfl (lv_at hl 1 rfl) ?_
        refine lw_call (as := []) (rest := []) (A := lw_A adX 37) okLX ok_sysX hx hb hml hown hts hK (M := _) (h0 := rfl) rfl rfl (mv_mem_of (h := 1093) (by decide +kernel)) rfl dL_law_285 hsim hPX hG.1 hS hG.2.2.2.1 hl.1 (by decide) (by omega) (by omega) (fun r S1 H1 locs1 hp1 hP1 hk1 hS1 => ?_)
        obtain ⟨x, rfl, hp1⟩ := hp1
        have hPY1 : va_P D vwCl (mv_w cy adY T 0 layY) H1 := hPY.kept (fun k q hk => hk1 q.1 ((hPY k q hk).lt) (fun z => hG.2.2.1 _ z (lw_inA hk)))
        have hS := hS1
        refine lv_aload_n hx hb dL_law_288 rfl (lv_at hl 2 rfl) ?_
        refine lw_call (as := []) (rest := [.int x]) (A := lw_A adY 37) okLY ok_sysY hx hb hml hown hts hK (M := _) (h0 := rfl) rfl rfl (mv_mem_of (h := 1637) (by decide +kernel)) rfl dL_law_289 hp1 hPY1 hG.2.1 hS1 hG.2.2.2.2 hl.1 (Nat.le_of_ble_eq_true rfl) (by omega) (by omega) (fun r2 T1 H2 locs2 hp2 hP2 hk2 hS2 => ?_)
        obtain ⟨rfl, hR1⟩ := hp2
        have hPX2 : va_P D vwCl (mv_w cy adX S1 0 layX) H2 := hP1.kept (fun k q hk => hk2 q.1 ((hP1 k q hk).lt) (fun z => hG.2.2.1 _ (lw_inA hk) z))
        exact lv_icmp_eq (tgt := 409) hx hb dL_law_292 (by decide) (fun _ => back S1 T1 H2 locs2 ls hR1 ⟨hPX2, hP2, hS2⟩ hl) (fun z => absurd rfl z)
      · show W p l e room_1 s m #[Value.ref b] below meth c H locs 74 73527 (lw_Z below #[Value.ref b] s) (F0 m 297 ls [])
        have hsim := hstep n hlt S T hRel 9 _ rfl [xs (nI (4 * n) + 1).toNatClampNeg] rfl
        refine lv_aload_n hx hb dL_law_297 rfl (lv_at hl 1 rfl) ?_
        refine lv_aload_n hx hb dL_law_298 rfl (lv_at hl 0 rfl) ?_
        refine lv_iload_n hx hb dL_law_299 rfl (lv_at hl 3 rfl) ?_
        refine lv_iconst (v := 1) hx hb dL_law_300 (by decide) ?_
        refine lv_iadd hx hb dL_law_301 ?_
        refine va_sld hx hb hX hbl hbA hS i1 dL_law_302 ?_
        refine lw_call (as := [xs (nI (4 * n) + 1).toNatClampNeg]) (rest := []) (A := lw_A adX 37) okLX ok_sysX hx hb hml hown hts hK (M := _) (h0 := rfl) rfl rfl (mv_mem_of (h := 1101) (by decide +kernel)) rfl dL_law_303 hsim hPX hG.1 hS hG.2.2.2.1 hl.1 (by decide) (by omega) (by omega) (fun r S1 H1 locs1 hp1 hP1 hk1 hS1 => ?_)
        obtain ⟨x, rfl, hp1⟩ := hp1
        have hPY1 : va_P D vwCl (mv_w cy adY T 0 layY) H1 := hPY.kept (fun k q hk => hk1 q.1 ((hPY k q hk).lt) (fun z => hG.2.2.1 _ z (lw_inA hk)))
        have hS := hS1
        refine lv_aload_n hx hb dL_law_306 rfl (lv_at hl 2 rfl) ?_
        refine lv_aload_n hx hb dL_law_307 rfl (lv_at hl 0 rfl) ?_
        refine lv_iload_n hx hb dL_law_308 rfl (lv_at hl 3 rfl) ?_
        refine lv_iconst (v := 1) hx hb dL_law_309 (by decide) ?_
        refine lv_iadd hx hb dL_law_310 ?_
        refine va_sld hx hb hX hbl hbA hS i1 dL_law_311 ?_
        refine lw_call (as := [xs (nI (4 * n) + 1).toNatClampNeg]) (rest := [.int x]) (A := lw_A adY 37) okLY ok_sysY hx hb hml hown hts hK (M := _) (h0 := rfl) rfl rfl (mv_mem_of (h := 1641) (by decide +kernel)) rfl dL_law_312 hp1 hPY1 hG.2.1 hS1 hG.2.2.2.2 hl.1 (Nat.le_of_ble_eq_true rfl) (by omega) (by omega) (fun r2 T1 H2 locs2 hp2 hP2 hk2 hS2 => ?_)
        obtain ⟨rfl, hR1⟩ := hp2
        have hPX2 : va_P D vwCl (mv_w cy adX S1 0 layX) H2 := hP1.kept (fun k q hk => hk2 q.1 ((hP1 k q hk).lt) (fun z => hG.2.2.1 _ (lw_inA hk) z))
        exact lv_icmp_eq (tgt := 409) hx hb dL_law_315 (by decide) (fun _ => back S1 T1 H2 locs2 ls hR1 ⟨hPX2, hP2, hS2⟩ hl) (fun z => absurd rfl z)
      · show W p l e room_1 s m #[Value.ref b] below meth c H locs 74 73527 (lw_Z below #[Value.ref b] s) (F0 m 320 ls [])
        have hsim := hstep n hlt S T hRel 10 _ rfl [xs (nI (4 * n) + 1).toNatClampNeg] rfl
        refine lv_aload_n hx hb dL_law_320 rfl (lv_at hl 1 rfl) ?_
        refine lv_aload_n hx hb dL_law_321 rfl (lv_at hl 0 rfl) ?_
        refine lv_iload_n hx hb dL_law_322 rfl (lv_at hl 3 rfl) ?_
        refine lv_iconst (v := 1) hx hb dL_law_323 (by decide) ?_
        refine lv_iadd hx hb dL_law_324 ?_
        refine va_sld hx hb hX hbl hbA hS i1 dL_law_325 ?_
        refine lw_call (as := [xs (nI (4 * n) + 1).toNatClampNeg]) (rest := []) (A := lw_A adX 37) okLX ok_sysX hx hb hml hown hts hK (M := _) (h0 := rfl) rfl rfl (mv_mem_of (h := 1109) (by decide +kernel)) rfl dL_law_326 hsim hPX hG.1 hS hG.2.2.2.1 hl.1 (by decide) (by omega) (by omega) (fun r S1 H1 locs1 hp1 hP1 hk1 hS1 => ?_)
        obtain ⟨x, rfl, hp1⟩ := hp1
        have hPY1 : va_P D vwCl (mv_w cy adY T 0 layY) H1 := hPY.kept (fun k q hk => hk1 q.1 ((hPY k q hk).lt) (fun z => hG.2.2.1 _ z (lw_inA hk)))
        have hS := hS1
        refine lv_aload_n hx hb dL_law_329 rfl (lv_at hl 2 rfl) ?_
        refine lv_aload_n hx hb dL_law_330 rfl (lv_at hl 0 rfl) ?_
        refine lv_iload_n hx hb dL_law_331 rfl (lv_at hl 3 rfl) ?_
        refine lv_iconst (v := 1) hx hb dL_law_332 (by decide) ?_
        refine lv_iadd hx hb dL_law_333 ?_
        refine va_sld hx hb hX hbl hbA hS i1 dL_law_334 ?_
        refine lw_call (as := [xs (nI (4 * n) + 1).toNatClampNeg]) (rest := [.int x]) (A := lw_A adY 37) okLY ok_sysY hx hb hml hown hts hK (M := _) (h0 := rfl) rfl rfl (mv_mem_of (h := 1645) (by decide +kernel)) rfl dL_law_335 hp1 hPY1 hG.2.1 hS1 hG.2.2.2.2 hl.1 (Nat.le_of_ble_eq_true rfl) (by omega) (by omega) (fun r2 T1 H2 locs2 hp2 hP2 hk2 hS2 => ?_)
        obtain ⟨rfl, hR1⟩ := hp2
        have hPX2 : va_P D vwCl (mv_w cy adX S1 0 layX) H2 := hP1.kept (fun k q hk => hk2 q.1 ((hP1 k q hk).lt) (fun z => hG.2.2.1 _ (lw_inA hk) z))
        exact lv_icmp_eq (tgt := 409) hx hb dL_law_338 (by decide) (fun _ => back S1 T1 H2 locs2 ls hR1 ⟨hPX2, hP2, hS2⟩ hl) (fun z => absurd rfl z)
      · show W p l e room_1 s m #[Value.ref b] below meth c H locs 74 73527 (lw_Z below #[Value.ref b] s) (F0 m 343 ls [])
        have hsim := hstep n hlt S T hRel 11 _ rfl [xs (nI (4 * n) + 1).toNatClampNeg, xs (nI (4 * n) + 2).toNatClampNeg, xs (nI (4 * n) + 3).toNatClampNeg] rfl
        refine lv_aload_n hx hb dL_law_343 rfl (lv_at hl 1 rfl) ?_
        refine lv_aload_n hx hb dL_law_344 rfl (lv_at hl 0 rfl) ?_
        refine lv_iload_n hx hb dL_law_345 rfl (lv_at hl 3 rfl) ?_
        refine lv_iconst (v := 1) hx hb dL_law_346 (by decide) ?_
        refine lv_iadd hx hb dL_law_347 ?_
        refine va_sld hx hb hX hbl hbA hS i1 dL_law_348 ?_
        refine lv_aload_n hx hb dL_law_349 rfl (lv_at hl 0 rfl) ?_
        refine lv_iload_n hx hb dL_law_350 rfl (lv_at hl 3 rfl) ?_
        refine lv_iconst (v := 2) hx hb dL_law_351 (by decide) ?_
        refine lv_iadd hx hb dL_law_352 ?_
        refine va_sld hx hb hX hbl hbA hS i2 dL_law_353 ?_
        refine lv_aload_n hx hb dL_law_354 rfl (lv_at hl 0 rfl) ?_
        refine lv_iload_n hx hb dL_law_355 rfl (lv_at hl 3 rfl) ?_
        refine lv_iconst (v := 3) hx hb dL_law_356 (by decide) ?_
        refine lv_iadd hx hb dL_law_357 ?_
        refine va_sld hx hb hX hbl hbA hS i3 dL_law_358 ?_
        refine lw_call (as := [xs (nI (4 * n) + 1).toNatClampNeg, xs (nI (4 * n) + 2).toNatClampNeg, xs (nI (4 * n) + 3).toNatClampNeg]) (rest := []) (A := lw_A adX 37) okLX ok_sysX hx hb hml hown hts hK (M := _) (h0 := rfl) rfl rfl (mv_mem_of (h := 1114) (by decide +kernel)) rfl dL_law_359 hsim hPX hG.1 hS hG.2.2.2.1 hl.1 (by decide) (by omega) (by omega) (fun r S1 H1 locs1 hp1 hP1 hk1 hS1 => ?_)
        obtain ⟨x, rfl, hp1⟩ := hp1
        have hPY1 : va_P D vwCl (mv_w cy adY T 0 layY) H1 := hPY.kept (fun k q hk => hk1 q.1 ((hPY k q hk).lt) (fun z => hG.2.2.1 _ z (lw_inA hk)))
        have hS := hS1
        refine lv_aload_n hx hb dL_law_362 rfl (lv_at hl 2 rfl) ?_
        refine lv_aload_n hx hb dL_law_363 rfl (lv_at hl 0 rfl) ?_
        refine lv_iload_n hx hb dL_law_364 rfl (lv_at hl 3 rfl) ?_
        refine lv_iconst (v := 1) hx hb dL_law_365 (by decide) ?_
        refine lv_iadd hx hb dL_law_366 ?_
        refine va_sld hx hb hX hbl hbA hS i1 dL_law_367 ?_
        refine lv_aload_n hx hb dL_law_368 rfl (lv_at hl 0 rfl) ?_
        refine lv_iload_n hx hb dL_law_369 rfl (lv_at hl 3 rfl) ?_
        refine lv_iconst (v := 2) hx hb dL_law_370 (by decide) ?_
        refine lv_iadd hx hb dL_law_371 ?_
        refine va_sld hx hb hX hbl hbA hS i2 dL_law_372 ?_
        refine lv_aload_n hx hb dL_law_373 rfl (lv_at hl 0 rfl) ?_
        refine lv_iload_n hx hb dL_law_374 rfl (lv_at hl 3 rfl) ?_
        refine lv_iconst (v := 3) hx hb dL_law_375 (by decide) ?_
        refine lv_iadd hx hb dL_law_376 ?_
        refine va_sld hx hb hX hbl hbA hS i3 dL_law_377 ?_
        refine lw_call (as := [xs (nI (4 * n) + 1).toNatClampNeg, xs (nI (4 * n) + 2).toNatClampNeg, xs (nI (4 * n) + 3).toNatClampNeg]) (rest := [.int x]) (A := lw_A adY 37) okLY ok_sysY hx hb hml hown hts hK (M := _) (h0 := rfl) rfl rfl (mv_mem_of (h := 1649) (by decide +kernel)) rfl dL_law_378 hp1 hPY1 hG.2.1 hS1 hG.2.2.2.2 hl.1 (Nat.le_of_ble_eq_true rfl) (by omega) (by omega) (fun r2 T1 H2 locs2 hp2 hP2 hk2 hS2 => ?_)
        obtain ⟨rfl, hR1⟩ := hp2
        have hPX2 : va_P D vwCl (mv_w cy adX S1 0 layX) H2 := hP1.kept (fun k q hk => hk2 q.1 ((hP1 k q hk).lt) (fun z => hG.2.2.1 _ (lw_inA hk) z))
        exact lv_icmp_eq (tgt := 409) hx hb dL_law_381 (by decide) (fun _ => back S1 T1 H2 locs2 ls hR1 ⟨hPX2, hP2, hS2⟩ hl) (fun z => absurd rfl z)
      · show W p l e room_1 s m #[Value.ref b] below meth c H locs 74 73527 (lw_Z below #[Value.ref b] s) (F0 m 386 ls [])
        have hsim := hstep n hlt S T hRel 12 _ rfl [xs (nI (4 * n) + 1).toNatClampNeg] rfl
        refine lv_aload_n hx hb dL_law_386 rfl (lv_at hl 1 rfl) ?_
        refine lv_aload_n hx hb dL_law_387 rfl (lv_at hl 0 rfl) ?_
        refine lv_iload_n hx hb dL_law_388 rfl (lv_at hl 3 rfl) ?_
        refine lv_iconst (v := 1) hx hb dL_law_389 (by decide) ?_
        refine lv_iadd hx hb dL_law_390 ?_
        refine va_sld hx hb hX hbl hbA hS i1 dL_law_391 ?_
        refine lw_call (as := [xs (nI (4 * n) + 1).toNatClampNeg]) (rest := []) (A := lw_A adX 37) okLX ok_sysX hx hb hml hown hts hK (M := _) (h0 := rfl) rfl rfl (mv_mem_of (h := 1128) (by decide +kernel)) rfl dL_law_392 hsim hPX hG.1 hS hG.2.2.2.1 hl.1 (by decide) (by omega) (by omega) (fun r S1 H1 locs1 hp1 hP1 hk1 hS1 => ?_)
        obtain ⟨x, rfl, hp1⟩ := hp1
        have hPY1 : va_P D vwCl (mv_w cy adY T 0 layY) H1 := hPY.kept (fun k q hk => hk1 q.1 ((hPY k q hk).lt) (fun z => hG.2.2.1 _ z (lw_inA hk)))
        have hS := hS1
        refine lv_aload_n hx hb dL_law_395 rfl (lv_at hl 2 rfl) ?_
        refine lv_aload_n hx hb dL_law_396 rfl (lv_at hl 0 rfl) ?_
        refine lv_iload_n hx hb dL_law_397 rfl (lv_at hl 3 rfl) ?_
        refine lv_iconst (v := 1) hx hb dL_law_398 (by decide) ?_
        refine lv_iadd hx hb dL_law_399 ?_
        refine va_sld hx hb hX hbl hbA hS i1 dL_law_400 ?_
        refine lw_call (as := [xs (nI (4 * n) + 1).toNatClampNeg]) (rest := [.int x]) (A := lw_A adY 37) okLY ok_sysY hx hb hml hown hts hK (M := _) (h0 := rfl) rfl rfl (mv_mem_of (h := 1653) (by decide +kernel)) rfl dL_law_401 hp1 hPY1 hG.2.1 hS1 hG.2.2.2.2 hl.1 (Nat.le_of_ble_eq_true rfl) (by omega) (by omega) (fun r2 T1 H2 locs2 hp2 hP2 hk2 hS2 => ?_)
        obtain ⟨rfl, hR1⟩ := hp2
        have hPX2 : va_P D vwCl (mv_w cy adX S1 0 layX) H2 := hP1.kept (fun k q hk => hk2 q.1 ((hP1 k q hk).lt) (fun z => hG.2.2.1 _ (lw_inA hk) z))
        exact lv_icmp_eq (tgt := 409) hx hb dL_law_404 (by decide) (fun _ => back S1 T1 H2 locs2 ls hR1 ⟨hPX2, hP2, hS2⟩ hl) (fun z => absurd rfl z)
      · show W p l e room_1 s m #[Value.ref b] below meth c H locs 74 73527 (lw_Z below #[Value.ref b] s) (F0 m 409 ls [])
        exact back S T H locs ls (hskip n S T hRel) ⟨hPX, hPY, hS⟩ hl
end
section
theorem mv_cin (ci : Nat) {C : String} {T : u_T} {N : Nat} (hc : vwCl[ci]? = some (C, T, N)) : ∀ w ∈ u_ws C T N, w ∈ mv_Ts := by
  have hlt : ci < 9 := mv_lt hc
  obtain ⟨C', T', N', ty, hc', hin, -, -⟩ := okC ci hlt
  have he : (C', T', N') = (C, T, N) := Option.some.inj (hc'.symm.trans hc)
  cases he
  exact hin
theorem mv_arr {s : State} {args : Array Value} {ty : FieldType} (h : (Cond.arrayClass ty).before args s = true) (hob : ∀ C, ty ≠ .object C) : ∃ cA : ClassId, ArrOfT s cA ty ∧ va_RA s cA ty := by
  obtain ⟨cA, kA, comp, h1, h2, h3⟩ := Cond.arrayClass_spec h
  refine ⟨cA, fun n z => ⟨fun k h => (by cases h), kA, h2, comp, h3⟩, ?_⟩
  cases ty with
  | object C => exact absurd rfl (hob C)
  | _ => exact h1
theorem mv_fm {α β : Type} {f : α → Option β} : ∀ {l : List α} {w : List β}, l.map f = w.map some → l.filterMap f = w
  | [], [], _ => rfl
  | [], _ :: _, h => by simp at h
  | _ :: _, [], h => by simp at h
  | a :: l, b :: w, h => by
    simp only [List.map_cons, List.cons.injEq] at h
    rw [List.filterMap_cons, h.1, mv_fm h.2]
theorem mv_Dall {cy : Nat → ClassId} {ad : Nat → Nat} {S S' : mv_S} {lay : List mv_D} {A : Nat → Prop} (h : va_D A (mv_w cy ad S 0 lay)) : va_D (lw_A ad lay.length) (mv_w cy ad S' 0 lay) := by
  refine ⟨?_, fun k q hk => lw_inA hk⟩
  intro i j x y hi hj hxy
  rw [mv_w_at] at hi hj
  obtain ⟨d1, h1, rfl⟩ := Option.map_eq_some_iff.mp hi
  obtain ⟨d2, h2, rfl⟩ := Option.map_eq_some_iff.mp hj
  exact h.1 i j _ _ (mv_w_get h1) (mv_w_get h2) (by simpa using hxy)
def mv_dok (ci : Nat) (fs : List Value) : Bool := match vwCl[ci]? with
  | some (_, T, N) => (List.range N).all (fun j => match parseFieldDescriptor (T j).2.2.1 with
    | some t => decide (defaultValue t = vp_V fs j)
    | none => false)
  | none => false
theorem dfX_ok : mv_dok 7 dfX = true := by decide +kernel
theorem dfY_ok : mv_dok 8 dfY = true := by decide +kernel
theorem mv_dfl {ci : Nat} {C : String} {T : u_T} {N : Nat} {ty : Nat → FieldType} {fs : List Value} {j : Nat} (h : mv_dok ci fs = true) (hty : ∀ k, k < N → parseFieldDescriptor (T k).2.2.1 = some (ty k)) (hj : j < N) (hc : vwCl[ci]? = some (C, T, N) := by rfl) : defaultValue (ty j) = vp_V fs j := by
  unfold mv_dok at h
  rw [hc] at h
  have h1 := List.all_eq_true.mp h j (List.mem_range.mpr hj)
  rw [hty j hj] at h1
  exact of_decide_eq_true h1
section LWC
variable {p : Program} {l : Launch} {e : Env} {s : State} {m : MethodId} {args : Array Value} {below : List Frame} {meth : Method} {c : Code} {Q : State → Prop} {cells slots : Nat} {D : va_G} {cy : Nat → ClassId}
theorem lw_ctor (hx : p.tables.exec = Jvm.exec) (hb : c.code = code) (hml : c.maxLocals = 4) (hown : s.vm.findClass R_law = some m.cls) (hts : ∀ w ∈ mv_Ts, w.before args s = true) (hK : va_K D vwCl (mv_tys cy) s) (hN : mc_N s)
    {j i pc ci q0 k2 n2 : Nat} {df : List Value} {C : mc_C} {ls : Array Slot} {rest : List Value} {M' : mc_M} {H : Heap} {locs : List Loc} (hC : kCs[j]? = some C) (hnm : C.1.name = "<init>") (hlink : Cond.methodLink R_law i C.1 ∈ mv_Ts) (hinst : Cond.instanceMethod C.1 ∈ mv_Ts) (hnp : C.2.2.2.1 = 0) (hd : decode code pc = .ok (.invokespecial i, 3))
    (hmk : mc_big mc_df kCs 4 j [.ref 0] [.inl (ci, df)] = some (M', k2, n2)) (hdf : df.map (mv_k (fun _ => q0)) = df) (hP : va_P D vwCl [(q0, .inr (ci, df))] H) (hS : va_S (fun q => s.heap.size ≤ q) s.heap H locs) (hq : s.heap.size ≤ q0) (hsz : ls.size = 4) (hcat : (rest.map fun v => v.category).sum ≤ 8) (hce : cells + k2 ≤ 600000) (hsl : slots + n2 ≤ 7302250)
    (kk : ∀ (ad : Nat → Nat) (H' : Heap) (locs' : List Loc), ad 0 = q0 → va_P D vwCl (mc_w cy ad 0 M') H' → va_D (fun q => q = q0 ∨ H.size ≤ q) (mc_w cy ad 0 M') → H.size ≤ H'.size → (∀ q, q < H.size → q ≠ q0 → H'[q]? = H[q]?) → va_S (fun q => s.heap.size ≤ q) s.heap H' locs' → W p l e room_1 s m args below meth c H' locs' (cells + k2) (slots + n2) Q (F0 m (pc + 3) ls rest)) :
    W p l e room_1 s m args below meth c H locs cells slots Q (F0 m pc ls (.ref q0 :: rest)) := by
  have hMet := mc_met (l := l) (D := D) (cy := cy) okK okAr 4 j [.ref 0] [.inl (ci, df)] M' k2 n2 C (fun _ => q0) H.size hC hmk
  obtain ⟨g1, g2, -, -, -, -, g6, g7, g8⟩ := okK j C hC
  have hw : mc_w cy (fun _ => q0) 0 [.inl (ci, df)] = [(q0, .inr (ci, df))] := by simp only [mc_w, mc_e, hdf]
  have hAe : ∀ q, mc_A cy (fun _ => q0) [.inl (ci, df)] H.size q ↔ (q = q0 ∨ H.size ≤ q) := by
    intro q
    unfold mc_A va_A
    rw [hw]
    constructor
    · rintro (⟨k, e, h⟩ | h)
      · match k, h with
        | 0, h => cases h; exact Or.inl rfl
        | k + 1, h => simp at h
      · exact Or.inr h
    · rintro (rfl | h)
      · exact Or.inl ⟨0, _, rfl⟩
      · exact Or.inr h
  have hD0 : va_D (fun _ => True) [(q0, (.inr (ci, df) : va_E))] := ⟨fun i j x y h1 h2 _ => by
      have z1 : i < 1 := mv_lt h1
      have z2 : j < 1 := mv_lt h2
      omega, fun _ _ _ => trivial⟩
  have cb : CallB room_1 s args R_law i C.1 C.2.1 C.2.2.1 none (Cond.code C.1 C.2.1 C.2.2.1 none :: mv_Ts) (mc_rm 4 k2 n2) k2 n2 C.2.2.2.1 :=
    callB_of C.2.2.2.1 hts (mv_goodIn g2) rfl rfl rfl (hts _ g8) (hts _ hlink) g6 ⟨by show 5 ≤ 2048; omega, by show 8 + (C.2.2.1 + 11) + 40 * 4 ≤ 84000; omega⟩
  have hr := va_runI (cells := cells) (slots := slots) (below := below) (meth := meth) (locs := locs) (e := e) (H := H) (g := F0 m pc ls (.ref q0 :: rest)) (b := q0) (As := []) (rest := rest) ⟨hx, hb, hml, hown, hts⟩ hMet ⟨cb, hnm, hts _ hinst⟩ ⟨mc_blind, fun U hU hWm => ⟨rfl, by rw [hU], by rw [hU, hw]; exact hP, va_K.moved hWm.alike hK, by rw [hw]; exact hD0, hN.moved hWm⟩⟩ rfl (by rw [hnp]; rfl) hsz rfl (lv_room hcat) hd ⟨hce, hsl⟩
  intro U hU X
  obtain ⟨v, st₀, t, T', L, e0, X', hL, e1, e2, ⟨⟨ad2, hv, hu, hP1, hK1, hD1⟩, hz, hk⟩, st⟩ := hr U hU X
  rw [e0] at hz hk
  cases hv
  have hA0 : ∀ q, mc_A cy (fun _ => q0) [.inl (ci, df)] H.size q → s.heap.size ≤ q := fun q h => by
    rcases (hAe q).mp h with rfl | h
    · exact hq
    · exact Nat.le_trans hS.1 h
  obtain ⟨t2, a1, b1⟩ := kk ad2 T'.heap (locs ++ L) (hu 0 (by simp)) (by rw [e1]; exact hP1) (hD1.weaken (fun _ q _ h => (hAe q.1).mp h)) (by rw [e1]; exact hz) (fun q h1 h2 => by rw [e1]; exact hk q h1 (fun z => by
      rcases (hAe q).mp z with h | h
      · exact h2 h
      · omega)) ⟨Nat.le_trans hS.1 (by rw [e1]; exact hz), fun q h1 h2 => by rw [e1, hk q (Nat.lt_of_lt_of_le h1 hS.1) (fun z => h2 (hA0 q z))]; exact hS.2.1 q h1 h2, fun q hq => by
      rcases List.mem_append.mp hq with h | h
      · exact hS.2.2 q h
      · exact hA0 _ (hL q h)⟩ T' rfl X'
  exact ⟨t2, st t2 a1, b1⟩
end LWC
/-! THE LAW, from its entry -/
theorem lw_Alen {ad : Nat → Nat} {n a : Nat} (h : lw_A ad n a) {P : Nat → Prop} (hp : ∀ q, q < n → P (ad q)) : P a := by
  obtain ⟨q, h1, rfl⟩ := h
  exact hp q h1
set_option maxHeartbeats 4000000 in
theorem law_start {p : Program} {e : Env} {s : State} {m : MethodId} {below : List Frame} {meth : Method} {c : Code} (l : Launch) {b L : Nat} {xs : Nat → Int32} (hL : L ≤ 2048) (C0 : lw_At p s m meth c b L xs)
    (Rel : Nat → mv_S → mv_S → Prop) (h00 : Rel 0 sX0 sY0) (hskip : ∀ n S T, Rel n S T → Rel (n + 1) S T) (hstep : ∀ n, 4 * n + 4 ≤ L → ∀ S T, Rel n S T → ∀ (k : Nat) (q : Nat × Nat × Nat), lw_T[k]? = some q → ∀ as : List Int32, as.length = q.2.2 → lw_Sim (Rel (n + 1)) q.1 q.2.1 as S T) : W p l e room_1 s m #[Value.ref b] below meth c s.heap [] 0 0 (lw_Z below #[Value.ref b] s) (entryFrame m ([Value.ref b] : List Value).toArray 4) := by
  obtain ⟨hx, hb, hr, hml, hown, hts0, hX, hbl, hlocks, hgv⟩ := id C0
  have hts : ∀ w ∈ mv_Ts, w.before #[Value.ref b] s = true := fun w hw => hts0 w (List.mem_filter.mp hw).1
  have hA : ∀ q : Nat, s.heap.size ≤ q → (fun q : Nat => s.heap.size ≤ q) q := fun _ h => h
  obtain ⟨k0, iS0, hKn0⟩ := u_known (C := RX0) (T := TX0) (N := 16) (n := 16) hts (mv_cin 0 rfl) (hts (.instantiable RX0 16) (mv_mem_of (h := 204) (by decide +kernel)))
  obtain ⟨k1, iS1, hKn1⟩ := u_known (C := RX1) (T := TX1) (N := 4) (n := 4) hts (mv_cin 1 rfl) (hts (.instantiable RX1 4) (mv_mem_of (h := 185) (by decide +kernel)))
  obtain ⟨k2, iS2, hKn2⟩ := u_known (C := RX2) (T := TX2) (N := 13) (n := 13) hts (mv_cin 2 rfl) (hts (.instantiable RX2 13) (mv_mem_of (h := 138) (by decide +kernel)))
  obtain ⟨k3, iS3, hKn3⟩ := u_known (C := RX4) (T := TX4) (N := 5) (n := 5) hts (mv_cin 3 rfl) (hts (.instantiable RX4 5) (mv_mem_of (h := 343) (by decide +kernel)))
  obtain ⟨k4, iS4, hKn4⟩ := u_known (C := RX5) (T := TX5) (N := 17) (n := 17) hts (mv_cin 4 rfl) (hts (.instantiable RX5 17) (mv_mem_of (h := 259) (by decide +kernel)))
  obtain ⟨k5, iS5, hKn5⟩ := u_known (C := RX7) (T := TX7) (N := 6) (n := 6) hts (mv_cin 5 rfl) (hts (.instantiable RX7 6) (mv_mem_of (h := 265) (by decide +kernel)))
  obtain ⟨k6, iS6, hKn6⟩ := u_known (C := RX8) (T := TX8) (N := 9) (n := 9) hts (mv_cin 6 rfl) (hts (.instantiable RX8 9) (mv_mem_of (h := 365) (by decide +kernel)))
  obtain ⟨k7, iS7, hKn7⟩ := u_known (C := RX10) (T := TX10) (N := 6) (n := 6) hts (mv_cin 7 rfl) (hts (.instantiable RX10 6) (mv_mem_of (h := 130) (by decide +kernel)))
  obtain ⟨k8, iS8, hKn8⟩ := u_known (C := RX11) (T := TX11) (N := 66) (n := 66) hts (mv_cin 8 rfl) (hts (.instantiable RX11 66) (mv_mem_of (h := 1156) (by decide +kernel)))
  obtain ⟨dC, dI, hKc⟩ : ∃ (dC : Nat → ClassId) (dI : Nat → Nat → Nat), ∀ (k : Nat) (q : vw_C), vwCl[k]? = some q → u_Kn s q.1 q.2.1 q.2.2 (dC k) (dI k) := by
    refine ⟨fun k => if k = 0 then k0 else if k = 1 then k1 else if k = 2 then k2 else if k = 3 then k3 else if k = 4 then k4 else if k = 5 then k5 else if k = 6 then k6 else if k = 7 then k7 else k8, fun k => if k = 0 then iS0 else if k = 1 then iS1 else if k = 2 then iS2 else if k = 3 then iS3 else if k = 4 then iS4 else if k = 5 then iS5 else if k = 6 then iS6 else if k = 7 then iS7 else iS8, ?_⟩
    intro k q hq
    match k, hq with
    | 0, hq => cases hq; exact hKn0
    | 1, hq => cases hq; exact hKn1
    | 2, hq => cases hq; exact hKn2
    | 3, hq => cases hq; exact hKn3
    | 4, hq => cases hq; exact hKn4
    | 5, hq => cases hq; exact hKn5
    | 6, hq => cases hq; exact hKn6
    | 7, hq => cases hq; exact hKn7
    | 8, hq => cases hq; exact hKn8
    | k + 9, hq => simp [vwCl] at hq
  obtain ⟨cI, hI1, hI2⟩ := mv_arr (ty := .int) (hts _ (okAr .int (Or.inl rfl))) (by intro C h; cases h)
  obtain ⟨cZ, hZ1, hZ2⟩ := mv_arr (ty := .boolean) (hts _ (okAr .boolean (Or.inr (Or.inl rfl)))) (by intro C h; cases h)
  obtain ⟨cJ, hJ1, hJ2⟩ := mv_arr (ty := .long) (hts _ (okAr .long (Or.inr (Or.inr rfl)))) (by intro C h; cases h)
  obtain ⟨cy, hcy0, hcy1, hcy2⟩ : ∃ cy : Nat → ClassId, cy 0 = cI ∧ cy 1 = cZ ∧ cy 2 = cJ := ⟨fun k => if k = 0 then cI else if k = 1 then cZ else cJ, rfl, rfl, rfl⟩
  have hK : va_K (dC, dI) vwCl (mv_tys cy) s := ⟨hKc, fun k q h => by
    match k, h with
    | 0, h => cases h; rw [hcy0]; exact ⟨hI1, hI2⟩
    | 1, h => cases h; rw [hcy1]; exact ⟨hZ1, hZ2⟩
    | 2, h => cases h; rw [hcy2]; exact ⟨hJ1, hJ2⟩
    | k + 3, h => simp [mv_tys] at h⟩
  have hS : va_S (fun q : Nat => s.heap.size ≤ q) s.heap s.heap [] := va_S.rf
  have hP : va_P (dC, dI) vwCl [] s.heap := fun k q h => by simp at h
  have hD : va_D (fun q : Nat => s.heap.size ≤ q) [] := ⟨fun i j p q h => by simp at h, fun k q h => by simp at h⟩
  have hN : mc_N s := ⟨va_Nw.of rfl (hts0 _ (List.mem_of_getElem? (i := 139) (by decide +kernel))), va_Nw.of rfl (hts0 _ (List.mem_of_getElem? (i := 205) (by decide +kernel)))⟩
  have hl := lv_entry ([.ref b]) (n := 4) (Nat.le_of_ble_eq_true rfl)
  rw [lg_entry_eq]
  generalize (lg_sl ([.ref b]) ++ List.replicate (4 - (lg_sl ([.ref b])).length) Slot.unset).toArray = ls at hl ⊢
  have hl : lv_has ls 4 [(0, .ref b)] := hl
  obtain ⟨Cx, Tx, Nx, tyx, hcx, hinx, htyx, -⟩ := okC7
  cases hcx
  obtain ⟨Cy, Ty, Ny, tyy, hcy, hiny, htyy, -⟩ := okC8
  cases hcy
  refine va_new (ci := 7) (fs := dfX) (D := (dC, dI)) (cl := vwCl) (tys := mv_tys cy) hx hb hts hinx tyx htyx hown (hts (.classLink R_law 7 RX10) (mv_mem_of (h := 129) (by decide +kernel))) (hts (.instantiable RX10 6) (mv_mem_of (h := 130) (by decide +kernel))) (hts (.initialized RX10) (mv_mem_of (h := 117) (by decide +kernel))) hK hP hD hS hA rfl (fun j hj => mv_dfl dfX_ok htyx hj) (by show 0 + 1 ≤ 600000; omega) (by show 0 + 6 ≤ 7302250; omega) dL_law_0 (fun q0 H hP hD hS => ?_)
  refine lv_dup hx hb dL_law_3 rfl ?_
  have hq0 : s.heap.size ≤ q0 := hD.2 0 (q0, .inr (7, dfX)) rfl
  refine lw_ctor (rest := [.ref q0]) (j := 7) (C := kC7) (cy := cy) hx hb hml hown hts hK hN rfl rfl (mv_mem_of (h := 131) (by decide +kernel)) (mv_mem_of (h := 132) (by decide +kernel)) rfl dL_law_4 mkX rfl hP hS hq0 hl.1 (Nat.le_of_ble_eq_true rfl) (by omega) (by omega) (fun ax H1 locs1 ha0 hP1 hD1 hz1 hk1 hS1 => ?_)
  obtain ⟨adX, hadX⟩ : ∃ adX : Nat → Nat, adX = fun q => ax (pmX.getD q 0) := ⟨_, rfl⟩
  have hX0 : adX 0 = q0 := by rw [hadX]; exact ha0
  have hPX : va_P (dC, dI) vwCl (mv_w cy adX sX0 0 layX) H1 := by rw [hadX]; exact hP1.sub pmX (mv_fm (toX cy ax))
  have hDX : va_D (fun q => q = q0 ∨ H.size ≤ q) (mv_w cy adX sX0 0 layX) := by rw [hadX]; exact hD1.sub pmX (by decide) (toX cy ax)
  have hDX2 : va_D (fun q : Nat => s.heap.size ≤ q) (mv_w cy adX sX0 0 layX) := hDX.weaken (fun _ q _ h => by
    rcases h with h | h
    · rw [h]; exact hq0
    · exact Nat.le_trans hS.1 h)
  refine lv_astore_n (lv' := [(1, .ref q0), (0, .ref b)]) hx hb dL_law_7 rfl hl (by decide) rfl (fun ls hl => ?_)
  refine va_new (ci := 8) (fs := dfY) (D := (dC, dI)) (cl := vwCl) (tys := mv_tys cy) hx hb hts hiny tyy htyy hown (hts (.classLink R_law 10 RX11) (mv_mem_of (h := 1155) (by decide +kernel))) (hts (.instantiable RX11 66) (mv_mem_of (h := 1156) (by decide +kernel))) (hts (.initialized RX11) (mv_mem_of (h := 125) (by decide +kernel))) hK hPX hDX2 hS1 hA rfl (fun j hj => mv_dfl dfY_ok htyy hj) (by show 0 + 1 + 36 + 1 ≤ 600000; omega) (by show 0 + 6 + 14461 + 66 ≤ 7302250; omega) dL_law_8 (fun q1 H2 hP2 hD2 hS2 => ?_)
  refine lv_dup hx hb dL_law_11 rfl ?_
  have hlen : (mv_w cy adX sX0 0 layX).length = 37 := rfl
  have hat : (mv_w cy adX sX0 0 layX ++ [(q1, (.inr (8, dfY) : va_E))])[37]? = some (q1, .inr (8, dfY)) := by rw [List.getElem?_append_right (by rw [hlen]; omega), hlen]; rfl
  have hq1 : s.heap.size ≤ q1 := hD2.2 37 _ hat
  have hPy : va_P (dC, dI) vwCl [(q1, .inr (8, dfY))] H2 := fun k x hx => by
    match k, hx with
    | 0, hx => cases hx; exact hP2 37 _ hat
    | k + 1, hx => simp at hx
  have hPX2 : va_P (dC, dI) vwCl (mv_w cy adX sX0 0 layX) H2 := fun k x hx => hP2 k x (by rw [List.getElem?_append_left (mv_lt hx)]; exact hx)
  have hne : ∀ (k : Nat) (x : Nat × va_E), (mv_w cy adX sX0 0 layX)[k]? = some x → x.1 ≠ q1 := fun k x hx z => by
    have h1 : k < 37 := mv_lt hx
    have := hD2.1 k 37 x _ (by rw [List.getElem?_append_left (mv_lt hx)]; exact hx) hat z
    omega
  refine lw_ctor (rest := [.ref q1]) (j := 8) (C := kC8) (cy := cy) hx hb hml hown hts hK hN rfl rfl (mv_mem_of (h := 1157) (by decide +kernel)) (mv_mem_of (h := 1158) (by decide +kernel)) rfl dL_law_12 mkY rfl hPy hS2 hq1 hl.1 (Nat.le_of_ble_eq_true rfl) (by omega) (by omega) (fun ay H3 locs3 hb0 hP3 hD3 hz3 hk3 hS3 => ?_)
  obtain ⟨adY, hadY⟩ : ∃ adY : Nat → Nat, adY = fun q => ay (pmY.getD q 0) := ⟨_, rfl⟩
  have hY0 : adY 0 = q1 := by rw [hadY]; exact hb0
  have hPY : va_P (dC, dI) vwCl (mv_w cy adY sY0 0 layY) H3 := by rw [hadY]; exact hP3.sub pmY (mv_fm (toY cy ay))
  have hDY : va_D (fun q => q = q1 ∨ H2.size ≤ q) (mv_w cy adY sY0 0 layY) := by rw [hadY]; exact hD3.sub pmY (by decide) (toY cy ay)
  have hPX3 : va_P (dC, dI) vwCl (mv_w cy adX sX0 0 layX) H3 := hPX2.kept (fun k x hx => hk3 x.1 ((hPX2 k x hx).lt) (hne k x hx))
  have hlx : layX.length = 37 := rfl
  have hly : layY.length = 37 := rfl
  have hofX : ∀ a, lw_A adX 37 a → ∃ (k : Nat) (x : Nat × va_E), (mv_w cy adX sX0 0 layX)[k]? = some x ∧ x.1 = a := by
    rintro a ⟨q, hq, rfl⟩
    obtain ⟨d, hd⟩ : ∃ d, layX[q]? = some d := ⟨_, List.getElem?_eq_getElem (by rw [hlx]; exact hq)⟩
    exact ⟨q, _, mv_w_get hd, rfl⟩
  have hofY : ∀ a, lw_A adY 37 a → ∃ (k : Nat) (x : Nat × va_E), (mv_w cy adY sY0 0 layY)[k]? = some x ∧ x.1 = a := by
    rintro a ⟨q, hq, rfl⟩
    obtain ⟨d, hd⟩ : ∃ d, layY[q]? = some d := ⟨_, List.getElem?_eq_getElem (by rw [hly]; exact hq)⟩
    exact ⟨q, _, mv_w_get hd, rfl⟩
  have hG : lw_G cy adX adY s := by
    refine ⟨fun S => mv_Dall hDX, fun T => mv_Dall hDY, ?_, ?_, ?_⟩
    · intro a h1 h2
      obtain ⟨k, x, hx, rfl⟩ := hofX a h1
      obtain ⟨k2, y, hy, hxy⟩ := hofY _ h2
      rcases hDY.2 k2 y hy with h | h
      · exact hne k x hx (by rw [← hxy]; exact h)
      · have := (hPX2 k x hx).lt
        omega
    · intro a h1
      obtain ⟨k, x, hx, rfl⟩ := hofX a h1
      exact hDX2.2 k x hx
    · intro a h1
      obtain ⟨k, x, hx, rfl⟩ := hofY a h1
      rcases hDY.2 k x hx with h | h
      · rw [h]; exact hq1
      · exact Nat.le_trans hS2.1 h
  refine lv_astore_n (lv' := [(2, .ref q1), (1, .ref q0), (0, .ref b)]) hx hb dL_law_15 rfl hl (by decide) rfl (fun ls hl => ?_)
  refine lv_iconst (v := 0) hx hb dL_law_16 (by decide) ?_
  refine lv_istore_n (lv' := [(3, .int 0), (2, .ref q1), (1, .ref q0), (0, .ref b)]) hx hb dL_law_17 rfl hl (by decide) rfl (fun ls hl => ?_)
  refine law_loop hL C0 hK hG Rel hskip hstep (L + 1) 0 (by omega) sX0 sY0 h00 (by omega) H3 locs3 ls ⟨hPX3, hPY, hS3⟩ ?_
  rw [hX0, hY0]
  exact lv_sub hl [3, 2, 1, 0] rfl
end
section
/-! THE SMALL MACHINE: more fuel, deeper calls, weaker ends -/
theorem mv_to_mono {pc : Nat} {off : Int} {k k' : Nat → Prop} (hk : ∀ t, k t → k' t) (h : mv_to pc off k) : mv_to pc off k' := by
  unfold mv_to at h ⊢
  split at h
  · next t e => (try simp only [e]); exact hk t h
  · exact h.elim
theorem mv_sw_mono {pc : Nat} {x : Int32} {d : Int} {k k' : Nat → Prop} (hk : ∀ t, k t → k' t) : ∀ {l : List (Int × Int)}, mv_sw pc x d k l → mv_sw pc x d k' l
  | [], h => mv_to_mono hk h
  | (_, _) :: _, h => ⟨fun c => mv_to_mono hk (h.1 c), fun c => mv_sw_mono hk (h.2 c)⟩
section MVM
variable {lay : List mv_D} {sys : List mv_M} {T : mv_T} {nL : Nat} {z : Option FieldType} {Call Call' : mv_Call} {P P' : Option Value → mv_S → Prop} {K K' : Nat → List (Nat × Value) → List Value → mv_S → Prop} {pc : Nat} {lv : List (Nat × Value)} {st : List Value} {S : mv_S} {i : Instr}
set_option maxHeartbeats 4000000 in
theorem mv_do_mono (hP : ∀ r S, P r S → P' r S) (hK : ∀ pc lv st S, K pc lv st S → K' pc lv st S) (hC : ∀ (j : Nat) (a : List Value) (S : mv_S) (X X' : Option Value → mv_S → Prop), (∀ r S, X r S → X' r S) → Call j a S X → Call' j a S X') (h : mv_do lay sys T nL z Call P K pc lv st S i) : mv_do lay sys T nL z Call' P' K' pc lv st S i := by
  cases i
  case iconst n =>
    dsimp only [mv_do] at h ⊢
    exact hK _ _ _ _ h
  case bipush n =>
    dsimp only [mv_do] at h ⊢
    exact hK _ _ _ _ h
  case sipush n =>
    dsimp only [mv_do] at h ⊢
    exact hK _ _ _ _ h
  case lconst n =>
    dsimp only [mv_do] at h ⊢
    exact hK _ _ _ _ h
  case iload_n k =>
    dsimp only [mv_do] at h ⊢
    split at h
    · next hm => (try simp only [hm]); exact hK _ _ _ _ h
    · exact h.elim
  case iload k =>
    dsimp only [mv_do] at h ⊢
    split at h
    · next hm => (try simp only [hm]); exact hK _ _ _ _ h
    · exact h.elim
  case aload_n k =>
    dsimp only [mv_do] at h ⊢
    split at h
    · next hm => (try simp only [hm]); exact hK _ _ _ _ h
    · exact h.elim
  case aload k =>
    dsimp only [mv_do] at h ⊢
    split at h
    · next hm => (try simp only [hm]); exact hK _ _ _ _ h
    · exact h.elim
  case lload_n k =>
    dsimp only [mv_do] at h ⊢
    split at h
    · next hm => (try simp only [hm]); exact hK _ _ _ _ h
    · exact h.elim
  case ldc k =>
    dsimp only [mv_do] at h ⊢
    split at h
    · next hm => (try simp only [hm]); exact hK _ _ _ _ h
    · exact h.elim
  case ldc_w k =>
    dsimp only [mv_do] at h ⊢
    split at h
    · next hm => (try simp only [hm]); exact hK _ _ _ _ h
    · exact h.elim
  case ldc2_w k =>
    dsimp only [mv_do] at h ⊢
    split at h
    · next hm => (try simp only [hm]); exact hK _ _ _ _ h
    · exact h.elim
  case iinc k n =>
    dsimp only [mv_do] at h ⊢
    split at h
    · next hm =>
      obtain ⟨b1, h⟩ := mv_bif h
      (try simp only [hm]); simp only [b1, cond_true]
      exact hK _ _ _ _ h
    · exact h.elim
  case istore_n k =>
    dsimp only [mv_do] at h ⊢
    split at h
    · obtain ⟨b1, h⟩ := mv_bif h
      simp only [b1, cond_true]
      exact hK _ _ _ _ h
    · exact h.elim
  case istore k =>
    dsimp only [mv_do] at h ⊢
    split at h
    · obtain ⟨b1, h⟩ := mv_bif h
      simp only [b1, cond_true]
      exact hK _ _ _ _ h
    · exact h.elim
  case astore_n k =>
    dsimp only [mv_do] at h ⊢
    split at h
    · obtain ⟨b1, h⟩ := mv_bif h
      simp only [b1, cond_true]
      exact hK _ _ _ _ h
    · exact h.elim
  case astore k =>
    dsimp only [mv_do] at h ⊢
    split at h
    · obtain ⟨b1, h⟩ := mv_bif h
      simp only [b1, cond_true]
      exact hK _ _ _ _ h
    · exact h.elim
  case iadd =>
    dsimp only [mv_do] at h ⊢
    split at h
    · exact hK _ _ _ _ h
    · exact h.elim
  case isub =>
    dsimp only [mv_do] at h ⊢
    split at h
    · exact hK _ _ _ _ h
    · exact h.elim
  case imul =>
    dsimp only [mv_do] at h ⊢
    split at h
    · exact hK _ _ _ _ h
    · exact h.elim
  case iand =>
    dsimp only [mv_do] at h ⊢
    split at h
    · exact hK _ _ _ _ h
    · exact h.elim
  case ixor =>
    dsimp only [mv_do] at h ⊢
    split at h
    · exact hK _ _ _ _ h
    · exact h.elim
  case ineg =>
    dsimp only [mv_do] at h ⊢
    split at h
    · exact hK _ _ _ _ h
    · exact h.elim
  case iushr =>
    dsimp only [mv_do] at h ⊢
    split at h
    · exact hK _ _ _ _ h
    · exact h.elim
  case i2l =>
    dsimp only [mv_do] at h ⊢
    split at h
    · exact hK _ _ _ _ h
    · exact h.elim
  case ladd =>
    dsimp only [mv_do] at h ⊢
    split at h
    · exact hK _ _ _ _ h
    · exact h.elim
  case lcmp =>
    dsimp only [mv_do] at h ⊢
    split at h
    · exact hK _ _ _ _ h
    · exact h.elim
  case dup =>
    dsimp only [mv_do] at h ⊢
    split at h
    · exact hK _ _ _ _ h
    · exact hK _ _ _ _ h
    · exact h.elim
  case pop =>
    dsimp only [mv_do] at h ⊢
    split at h
    · exact hK _ _ _ _ h
    · exact hK _ _ _ _ h
    · exact h.elim
  case idiv =>
    dsimp only [mv_do] at h ⊢
    split at h
    · exact ⟨h.1, hK _ _ _ _ h.2⟩
    · exact h.elim
  case irem =>
    dsimp only [mv_do] at h ⊢
    split at h
    · exact ⟨h.1, hK _ _ _ _ h.2⟩
    · exact h.elim
  case goto off =>
    dsimp only [mv_do] at h ⊢
    exact mv_to_mono (fun t h => hK _ _ _ _ h) h
  case ifCond c off =>
    dsimp only [mv_do] at h ⊢
    split at h
    · exact mv_to_mono (fun t h => ⟨fun c => hK _ _ _ _ (h.1 c), fun c => hK _ _ _ _ (h.2 c)⟩) h
    · exact h.elim
  case if_icmp c off =>
    dsimp only [mv_do] at h ⊢
    split at h
    · exact mv_to_mono (fun t h => ⟨fun c => hK _ _ _ _ (h.1 c), fun c => hK _ _ _ _ (h.2 c)⟩) h
    · exact h.elim
  case tableswitch d lo hi offs =>
    dsimp only [mv_do] at h ⊢
    split at h
    · obtain ⟨b1, h⟩ := mv_bif h
      rw [b1]
      exact mv_sw_mono (fun t h => hK _ _ _ _ h) h
    · exact h.elim
  case lookupswitch d ps =>
    dsimp only [mv_do] at h ⊢
    split at h
    · obtain ⟨b1, h⟩ := mv_bif h
      rw [b1]
      exact mv_sw_mono (fun t h => hK _ _ _ _ h) h
    · exact h.elim
  case getfield k =>
    dsimp only [mv_do] at h ⊢
    split at h
    · split at h
      · next hf => (try simp only [hf]); exact hK _ _ _ _ h
      · next hf => (try simp only [hf]); exact hK _ _ _ _ h
      · next hf => (try simp only [hf]); exact hK _ _ _ _ h
      · exact h.elim
    · exact h.elim
  case putfield k =>
    dsimp only [mv_do] at h ⊢
    split at h
    · split at h
      · next hf => (try simp only [hf]); exact hK _ _ _ _ h
      · next hf => (try simp only [hf]); exact ⟨h.1, hK _ _ _ _ h.2⟩
      · exact h.elim
    · exact h.elim
  case iaload =>
    dsimp only [mv_do] at h ⊢
    split at h
    · split at h
      · next hq => (try simp only [hq]); exact ⟨h.1, hK _ _ _ _ h.2⟩
      · exact h.elim
    · exact h.elim
  case baload =>
    dsimp only [mv_do] at h ⊢
    split at h
    · split at h
      · next hq => (try simp only [hq]); exact ⟨h.1, hK _ _ _ _ h.2⟩
      · exact h.elim
    · exact h.elim
  case laload =>
    dsimp only [mv_do] at h ⊢
    split at h
    · split at h
      · next hq => (try simp only [hq]); exact ⟨h.1, hK _ _ _ _ h.2⟩
      · exact h.elim
    · exact h.elim
  case iastore =>
    dsimp only [mv_do] at h ⊢
    split at h
    · split at h
      · next hq => (try simp only [hq]); exact ⟨h.1, hK _ _ _ _ h.2⟩
      · exact h.elim
    · exact h.elim
  case lastore =>
    dsimp only [mv_do] at h ⊢
    split at h
    · split at h
      · next hq => (try simp only [hq]); exact ⟨h.1, hK _ _ _ _ h.2⟩
      · exact h.elim
    · exact h.elim
  case bastore =>
    dsimp only [mv_do] at h ⊢
    split at h
    · split at h
      · next hq => (try simp only [hq]); exact ⟨h.1, h.2.1, hK _ _ _ _ h.2.2⟩
      · exact h.elim
    · exact h.elim
  case arraylength =>
    dsimp only [mv_do] at h ⊢
    split at h
    · split at h
      · next hq => (try simp only [hq]); exact hK _ _ _ _ h
      · next hq => (try simp only [hq]); exact hK _ _ _ _ h
      · next hq => (try simp only [hq]); exact hK _ _ _ _ h
      · exact h.elim
    · exact h.elim
  case invokevirtual k =>
    dsimp only [mv_do] at h ⊢
    split at h
    · next hi => (try simp only [hi]); exact hC _ _ _ _ _ (fun r S h => hK _ _ _ _ h) h
    · exact h.elim
  case invokestatic k =>
    dsimp only [mv_do] at h ⊢
    split at h
    · next hi => (try simp only [hi]); exact hC _ _ _ _ _ (fun r S h => hK _ _ _ _ h) h
    · exact h.elim
  case ireturn =>
    dsimp only [mv_do] at h ⊢
    split at h
    · split at h
      · exact hP _ _ h
      · exact ⟨h.1, hP _ _ h.2⟩
      · exact h.elim
    · exact h.elim
  case lreturn =>
    dsimp only [mv_do] at h ⊢
    split at h
    · split at h
      · exact hP _ _ h
      · exact h.elim
    · exact h.elim
  case return_ =>
    dsimp only [mv_do] at h ⊢
    split at h
    · split at h
      · exact hP _ _ h
      · exact h.elim
    · exact h.elim
  all_goals exact False.elim h
theorem mv_wp_mono {il : List (Nat × Instr)} (hP : ∀ r S, P r S → P' r S) (hC : ∀ (j : Nat) (a : List Value) (S : mv_S) (X X' : Option Value → mv_S → Prop), (∀ r S, X r S → X' r S) → Call j a S X → Call' j a S X') : ∀ (n m : Nat), n ≤ m → ∀ (pc : Nat) (lv : List (Nat × Value)) (st : List Value) (S : mv_S), mv_wp lay sys T nL z il Call P n pc lv st S → mv_wp lay sys T nL z il Call' P' m pc lv st S
  | 0, _, _, _, _, _, _, h => h.elim
  | n + 1, 0, hn, _, _, _, _, _ => absurd hn (by omega)
  | n + 1, m + 1, hn, pc, lv, st, S, h => by
    unfold mv_wp at h ⊢
    split at h
    · exact h.elim
    · next i hi =>
      (try simp only [hi])
      exact mv_do_mono hP (mv_wp_mono hP hC n m (by omega)) hC h
end MVM
theorem mv_big_mono {lay : List mv_D} {sys : List mv_M} : ∀ (d e : Nat), d ≤ e → ∀ (j : Nat) (a : List Value) (S : mv_S) (X X' : Option Value → mv_S → Prop), (∀ r S, X r S → X' r S) → mv_big lay sys d j a S X → mv_big lay sys e j a S X'
  | 0, _, _, _, _, _, _, _, _, h => h.elim
  | d + 1, 0, hd, _, _, _, _, _, _, _ => absurd hd (by omega)
  | d + 1, e + 1, hd, j, a, S, X, X', hX, h => by
    unfold mv_big at h ⊢
    split at h
    · exact h.elim
    · next M hM =>
      obtain ⟨b1, n, h⟩ := mv_bif h
      (try simp only [hM]); simp only [b1, cond_true]
      exact ⟨n, mv_wp_mono hX (mv_big_mono d e (by omega)) n n (Nat.le_refl n) _ _ _ _ h⟩
/-- more fuel -/
theorem mv_fuel {lay : List mv_D} {sys : List mv_M} {T : mv_T} {nL : Nat} {z : Option FieldType} {il : List (Nat × Instr)} {d : Nat} {P : Option Value → mv_S → Prop} {n m pc : Nat} {lv : List (Nat × Value)} {st : List Value} {S : mv_S} (h : n ≤ m) (w : mv_wp lay sys T nL z il (mv_big lay sys d) P n pc lv st S) : mv_wp lay sys T nL z il (mv_big lay sys d) P m pc lv st S := mv_wp_mono (fun _ _ h => h) (mv_big_mono d d (Nat.le_refl d)) n m h pc lv st S w
/-- deeper calls -/
theorem mv_deep {lay : List mv_D} {sys : List mv_M} {d e j : Nat} {a : List Value} {S : mv_S} {P : Option Value → mv_S → Prop} (h : d ≤ e) (w : mv_big lay sys d j a S P) : mv_big lay sys e j a S P := mv_big_mono d e h j a S P P (fun _ _ h => h) w
/-- a loop: with k turns left, each within c instructions -/
theorem mv_loop {lay : List mv_D} {sys : List mv_M} {T : mv_T} {nL : Nat} {z : Option FieldType} {il : List (Nat × Instr)} {d : Nat} {P : Option Value → mv_S → Prop} {pc : Nat} (c : Nat) (I : Nat → List (Nat × Value) → List Value → mv_S → Prop)
    (h0 : ∀ n lv st S, I 0 lv st S → mv_wp lay sys T nL z il (mv_big lay sys d) P (n + c) pc lv st S)
    (hs : ∀ k n lv st S, I (k + 1) lv st S → (∀ n' lv' st' S', n ≤ n' → I k lv' st' S' → mv_wp lay sys T nL z il (mv_big lay sys d) P n' pc lv' st' S') → mv_wp lay sys T nL z il (mv_big lay sys d) P (n + c) pc lv st S) :
    ∀ k n lv st S, c * (k + 1) ≤ n → I k lv st S → mv_wp lay sys T nL z il (mv_big lay sys d) P n pc lv st S := by
  intro k
  induction k with
  | zero =>
    intro n lv st S hn hI
    exact mv_fuel (n := 0 + c) (by omega) (h0 0 lv st S hI)
  | succ k ih =>
    intro n lv st S hn hI
    have e1 : c * (k + 1 + 1) = c * (k + 1) + c := by rw [Nat.mul_succ]
    refine mv_fuel (n := c * (k + 1) + c) (by omega) (hs k (c * (k + 1)) lv st S hI (fun n' lv' st' S' hn' hI' => ih n' lv' st' S' hn' hI'))
end
section
/-! THE CLASS'S METHODS: leaves. P after the answer and the store gives mv_big. -/
def rIn (n : Nat) (i : Int32) : Prop := 0 ≤ i ∧ i < Int32.ofNat n
theorem rIn_of {i : Int32} {n : Nat} (h0 : ¬ i < 0) (h1 : ¬ Int32.ofNat n ≤ i) : rIn n i := ⟨Int32.not_lt.mp h0, Int32.not_le.mp h1⟩
theorem rIn_no1 {i : Int32} {n : Nat} (h0 : i < 0) : ¬ rIn n i := fun h => absurd h.1 (Int32.not_le.mpr h0)
theorem rIn_no2 {i : Int32} {n : Nat} (h1 : Int32.ofNat n ≤ i) : ¬ rIn n i := fun h => absurd h.2 (Int32.not_lt.mpr h1)
theorem rIn_vp {i : Int32} {n : Nat} (hn : n < 2 ^ 31) (h : rIn n i) : vp_in i n := by
  rw [vp_in_iff]
  obtain ⟨h1, h2⟩ := h
  rw [Int32.le_iff_toInt_le] at h1
  rw [Int32.lt_iff_toInt_lt, show Int32.ofNat n = nI n from rfl, nI_toInt hn] at h2
  exact ⟨by simpa using h1, h2⟩
/-- a row at i, 0 beside it -/
def rAt (n : Nat) (r : Nat → Int32) (i : Int32) : Int32 := if 0 ≤ i ∧ i < Int32.ofNat n then r i.toNatClampNeg else 0
def rLt (n : Nat) (r : Nat → Int64) (i : Int32) : Int64 := if 0 ≤ i ∧ i < Int32.ofNat n then r i.toNatClampNeg else 0
/-- the store with a row set at i, as it is beside it -/
def sR (S : mv_S) (q n : Nat) (i x : Int32) : mv_S := if 0 ≤ i ∧ i < Int32.ofNat n then mv_pr S q i.toNatClampNeg x else S
def sL (S : mv_S) (q n : Nat) (i : Int32) (x : Int64) : mv_S := if 0 ≤ i ∧ i < Int32.ofNat n then mv_pl S q i.toNatClampNeg x else S
theorem rAt_in {n : Nat} {r : Nat → Int32} {i : Int32} (h : rIn n i) : rAt n r i = r i.toNatClampNeg := if_pos h
theorem rAt_out {n : Nat} {r : Nat → Int32} {i : Int32} (h : ¬ rIn n i) : rAt n r i = 0 := if_neg h
theorem rLt_in {n : Nat} {r : Nat → Int64} {i : Int32} (h : rIn n i) : rLt n r i = r i.toNatClampNeg := if_pos h
theorem rLt_out {n : Nat} {r : Nat → Int64} {i : Int32} (h : ¬ rIn n i) : rLt n r i = 0 := if_neg h
theorem sR_in {S : mv_S} {q n : Nat} {i x : Int32} (h : rIn n i) : sR S q n i x = mv_pr S q i.toNatClampNeg x := if_pos h
theorem sR_out {S : mv_S} {q n : Nat} {i x : Int32} (h : ¬ rIn n i) : sR S q n i x = S := if_neg h
theorem sL_in {S : mv_S} {q n : Nat} {i : Int32} {x : Int64} (h : rIn n i) : sL S q n i x = mv_pl S q i.toNatClampNeg x := if_pos h
theorem sL_out {S : mv_S} {q n : Nat} {i : Int32} {x : Int64} (h : ¬ rIn n i) : sL S q n i x = S := if_neg h
section LX
variable {d : Nat} {S : mv_S} {P : Option Value → mv_S → Prop}

theorem x_at_8 {i : Int32} (h : P (some (.int (rAt 700 (S.2.1 8) i))) S) : mv_big layX sysX (d + 1) 77 [.ref 8, .int i] S P := by
  refine ⟨30, ?_⟩
  refine ⟨fun c1 => ?_, fun c1 => ⟨fun c2 => ?_, fun c2 => ⟨rIn_vp (by decide) (rIn_of c1 c2), ?_⟩⟩⟩
  · rw [rAt_out (rIn_no1 c1)] at h; exact h
  · rw [rAt_out (rIn_no2 c2)] at h; exact h
  · rw [rAt_in (rIn_of c1 c2)] at h; exact h
theorem x_set_8 {i x : Int32} (h : P none (sR S 8 700 i x)) : mv_big layX sysX (d + 1) 79 [.ref 8, .int i, .int x] S P := by
  refine ⟨30, ?_⟩
  refine ⟨fun c1 => ?_, fun c1 => ⟨fun c2 => ?_, fun c2 => ⟨rIn_vp (by decide) (rIn_of c1 c2), ?_⟩⟩⟩
  · rw [sR_out (rIn_no1 c1)] at h; exact h
  · rw [sR_out (rIn_no2 c2)] at h; exact h
  · rw [sR_in (rIn_of c1 c2)] at h; exact h
theorem x_at_9 {i : Int32} (h : P (some (.int (rAt 700 (S.2.1 9) i))) S) : mv_big layX sysX (d + 1) 77 [.ref 9, .int i] S P := by
  refine ⟨30, ?_⟩
  refine ⟨fun c1 => ?_, fun c1 => ⟨fun c2 => ?_, fun c2 => ⟨rIn_vp (by decide) (rIn_of c1 c2), ?_⟩⟩⟩
  · rw [rAt_out (rIn_no1 c1)] at h; exact h
  · rw [rAt_out (rIn_no2 c2)] at h; exact h
  · rw [rAt_in (rIn_of c1 c2)] at h; exact h
theorem x_set_9 {i x : Int32} (h : P none (sR S 9 700 i x)) : mv_big layX sysX (d + 1) 79 [.ref 9, .int i, .int x] S P := by
  refine ⟨30, ?_⟩
  refine ⟨fun c1 => ?_, fun c1 => ⟨fun c2 => ?_, fun c2 => ⟨rIn_vp (by decide) (rIn_of c1 c2), ?_⟩⟩⟩
  · rw [sR_out (rIn_no1 c1)] at h; exact h
  · rw [sR_out (rIn_no2 c2)] at h; exact h
  · rw [sR_in (rIn_of c1 c2)] at h; exact h
theorem x_at_10 {i : Int32} (h : P (some (.int (rAt 700 (S.2.1 10) i))) S) : mv_big layX sysX (d + 1) 77 [.ref 10, .int i] S P := by
  refine ⟨30, ?_⟩
  refine ⟨fun c1 => ?_, fun c1 => ⟨fun c2 => ?_, fun c2 => ⟨rIn_vp (by decide) (rIn_of c1 c2), ?_⟩⟩⟩
  · rw [rAt_out (rIn_no1 c1)] at h; exact h
  · rw [rAt_out (rIn_no2 c2)] at h; exact h
  · rw [rAt_in (rIn_of c1 c2)] at h; exact h
theorem x_set_10 {i x : Int32} (h : P none (sR S 10 700 i x)) : mv_big layX sysX (d + 1) 79 [.ref 10, .int i, .int x] S P := by
  refine ⟨30, ?_⟩
  refine ⟨fun c1 => ?_, fun c1 => ⟨fun c2 => ?_, fun c2 => ⟨rIn_vp (by decide) (rIn_of c1 c2), ?_⟩⟩⟩
  · rw [sR_out (rIn_no1 c1)] at h; exact h
  · rw [sR_out (rIn_no2 c2)] at h; exact h
  · rw [sR_in (rIn_of c1 c2)] at h; exact h
theorem x_at_11 {i : Int32} (h : P (some (.int (rAt 1500 (S.2.1 11) i))) S) : mv_big layX sysX (d + 1) 77 [.ref 11, .int i] S P := by
  refine ⟨30, ?_⟩
  refine ⟨fun c1 => ?_, fun c1 => ⟨fun c2 => ?_, fun c2 => ⟨rIn_vp (by decide) (rIn_of c1 c2), ?_⟩⟩⟩
  · rw [rAt_out (rIn_no1 c1)] at h; exact h
  · rw [rAt_out (rIn_no2 c2)] at h; exact h
  · rw [rAt_in (rIn_of c1 c2)] at h; exact h
theorem x_set_11 {i x : Int32} (h : P none (sR S 11 1500 i x)) : mv_big layX sysX (d + 1) 79 [.ref 11, .int i, .int x] S P := by
  refine ⟨30, ?_⟩
  refine ⟨fun c1 => ?_, fun c1 => ⟨fun c2 => ?_, fun c2 => ⟨rIn_vp (by decide) (rIn_of c1 c2), ?_⟩⟩⟩
  · rw [sR_out (rIn_no1 c1)] at h; exact h
  · rw [sR_out (rIn_no2 c2)] at h; exact h
  · rw [sR_in (rIn_of c1 c2)] at h; exact h
theorem x_at_12 {i : Int32} (h : P (some (.int (rAt 8 (S.2.1 12) i))) S) : mv_big layX sysX (d + 1) 77 [.ref 12, .int i] S P := by
  refine ⟨30, ?_⟩
  refine ⟨fun c1 => ?_, fun c1 => ⟨fun c2 => ?_, fun c2 => ⟨rIn_vp (by decide) (rIn_of c1 c2), ?_⟩⟩⟩
  · rw [rAt_out (rIn_no1 c1)] at h; exact h
  · rw [rAt_out (rIn_no2 c2)] at h; exact h
  · rw [rAt_in (rIn_of c1 c2)] at h; exact h
theorem x_set_12 {i x : Int32} (h : P none (sR S 12 8 i x)) : mv_big layX sysX (d + 1) 79 [.ref 12, .int i, .int x] S P := by
  refine ⟨30, ?_⟩
  refine ⟨fun c1 => ?_, fun c1 => ⟨fun c2 => ?_, fun c2 => ⟨rIn_vp (by decide) (rIn_of c1 c2), ?_⟩⟩⟩
  · rw [sR_out (rIn_no1 c1)] at h; exact h
  · rw [sR_out (rIn_no2 c2)] at h; exact h
  · rw [sR_in (rIn_of c1 c2)] at h; exact h
theorem x_at_13 {i : Int32} (h : P (some (.int (rAt 8 (S.2.1 13) i))) S) : mv_big layX sysX (d + 1) 77 [.ref 13, .int i] S P := by
  refine ⟨30, ?_⟩
  refine ⟨fun c1 => ?_, fun c1 => ⟨fun c2 => ?_, fun c2 => ⟨rIn_vp (by decide) (rIn_of c1 c2), ?_⟩⟩⟩
  · rw [rAt_out (rIn_no1 c1)] at h; exact h
  · rw [rAt_out (rIn_no2 c2)] at h; exact h
  · rw [rAt_in (rIn_of c1 c2)] at h; exact h
theorem x_set_13 {i x : Int32} (h : P none (sR S 13 8 i x)) : mv_big layX sysX (d + 1) 79 [.ref 13, .int i, .int x] S P := by
  refine ⟨30, ?_⟩
  refine ⟨fun c1 => ?_, fun c1 => ⟨fun c2 => ?_, fun c2 => ⟨rIn_vp (by decide) (rIn_of c1 c2), ?_⟩⟩⟩
  · rw [sR_out (rIn_no1 c1)] at h; exact h
  · rw [sR_out (rIn_no2 c2)] at h; exact h
  · rw [sR_in (rIn_of c1 c2)] at h; exact h
theorem x_at_14 {i : Int32} (h : P (some (.int (rAt 8 (S.2.1 14) i))) S) : mv_big layX sysX (d + 1) 77 [.ref 14, .int i] S P := by
  refine ⟨30, ?_⟩
  refine ⟨fun c1 => ?_, fun c1 => ⟨fun c2 => ?_, fun c2 => ⟨rIn_vp (by decide) (rIn_of c1 c2), ?_⟩⟩⟩
  · rw [rAt_out (rIn_no1 c1)] at h; exact h
  · rw [rAt_out (rIn_no2 c2)] at h; exact h
  · rw [rAt_in (rIn_of c1 c2)] at h; exact h
theorem x_set_14 {i x : Int32} (h : P none (sR S 14 8 i x)) : mv_big layX sysX (d + 1) 79 [.ref 14, .int i, .int x] S P := by
  refine ⟨30, ?_⟩
  refine ⟨fun c1 => ?_, fun c1 => ⟨fun c2 => ?_, fun c2 => ⟨rIn_vp (by decide) (rIn_of c1 c2), ?_⟩⟩⟩
  · rw [sR_out (rIn_no1 c1)] at h; exact h
  · rw [sR_out (rIn_no2 c2)] at h; exact h
  · rw [sR_in (rIn_of c1 c2)] at h; exact h
theorem x_at_23 {i : Int32} (h : P (some (.int (rAt 158 (S.2.1 23) i))) S) : mv_big layX sysX (d + 1) 77 [.ref 23, .int i] S P := by
  refine ⟨30, ?_⟩
  refine ⟨fun c1 => ?_, fun c1 => ⟨fun c2 => ?_, fun c2 => ⟨rIn_vp (by decide) (rIn_of c1 c2), ?_⟩⟩⟩
  · rw [rAt_out (rIn_no1 c1)] at h; exact h
  · rw [rAt_out (rIn_no2 c2)] at h; exact h
  · rw [rAt_in (rIn_of c1 c2)] at h; exact h
theorem x_set_23 {i x : Int32} (h : P none (sR S 23 158 i x)) : mv_big layX sysX (d + 1) 79 [.ref 23, .int i, .int x] S P := by
  refine ⟨30, ?_⟩
  refine ⟨fun c1 => ?_, fun c1 => ⟨fun c2 => ?_, fun c2 => ⟨rIn_vp (by decide) (rIn_of c1 c2), ?_⟩⟩⟩
  · rw [sR_out (rIn_no1 c1)] at h; exact h
  · rw [sR_out (rIn_no2 c2)] at h; exact h
  · rw [sR_in (rIn_of c1 c2)] at h; exact h
theorem x_at_24 {i : Int32} (h : P (some (.int (rAt 54 (S.2.1 24) i))) S) : mv_big layX sysX (d + 1) 77 [.ref 24, .int i] S P := by
  refine ⟨30, ?_⟩
  refine ⟨fun c1 => ?_, fun c1 => ⟨fun c2 => ?_, fun c2 => ⟨rIn_vp (by decide) (rIn_of c1 c2), ?_⟩⟩⟩
  · rw [rAt_out (rIn_no1 c1)] at h; exact h
  · rw [rAt_out (rIn_no2 c2)] at h; exact h
  · rw [rAt_in (rIn_of c1 c2)] at h; exact h
theorem x_set_24 {i x : Int32} (h : P none (sR S 24 54 i x)) : mv_big layX sysX (d + 1) 79 [.ref 24, .int i, .int x] S P := by
  refine ⟨30, ?_⟩
  refine ⟨fun c1 => ?_, fun c1 => ⟨fun c2 => ?_, fun c2 => ⟨rIn_vp (by decide) (rIn_of c1 c2), ?_⟩⟩⟩
  · rw [sR_out (rIn_no1 c1)] at h; exact h
  · rw [sR_out (rIn_no2 c2)] at h; exact h
  · rw [sR_in (rIn_of c1 c2)] at h; exact h
theorem x_at_25 {i : Int32} (h : P (some (.int (rAt 850 (S.2.1 25) i))) S) : mv_big layX sysX (d + 1) 77 [.ref 25, .int i] S P := by
  refine ⟨30, ?_⟩
  refine ⟨fun c1 => ?_, fun c1 => ⟨fun c2 => ?_, fun c2 => ⟨rIn_vp (by decide) (rIn_of c1 c2), ?_⟩⟩⟩
  · rw [rAt_out (rIn_no1 c1)] at h; exact h
  · rw [rAt_out (rIn_no2 c2)] at h; exact h
  · rw [rAt_in (rIn_of c1 c2)] at h; exact h
theorem x_set_25 {i x : Int32} (h : P none (sR S 25 850 i x)) : mv_big layX sysX (d + 1) 79 [.ref 25, .int i, .int x] S P := by
  refine ⟨30, ?_⟩
  refine ⟨fun c1 => ?_, fun c1 => ⟨fun c2 => ?_, fun c2 => ⟨rIn_vp (by decide) (rIn_of c1 c2), ?_⟩⟩⟩
  · rw [sR_out (rIn_no1 c1)] at h; exact h
  · rw [sR_out (rIn_no2 c2)] at h; exact h
  · rw [sR_in (rIn_of c1 c2)] at h; exact h
theorem x_at_26 {i : Int32} (h : P (some (.int (rAt 425 (S.2.1 26) i))) S) : mv_big layX sysX (d + 1) 77 [.ref 26, .int i] S P := by
  refine ⟨30, ?_⟩
  refine ⟨fun c1 => ?_, fun c1 => ⟨fun c2 => ?_, fun c2 => ⟨rIn_vp (by decide) (rIn_of c1 c2), ?_⟩⟩⟩
  · rw [rAt_out (rIn_no1 c1)] at h; exact h
  · rw [rAt_out (rIn_no2 c2)] at h; exact h
  · rw [rAt_in (rIn_of c1 c2)] at h; exact h
theorem x_set_26 {i x : Int32} (h : P none (sR S 26 425 i x)) : mv_big layX sysX (d + 1) 79 [.ref 26, .int i, .int x] S P := by
  refine ⟨30, ?_⟩
  refine ⟨fun c1 => ?_, fun c1 => ⟨fun c2 => ?_, fun c2 => ⟨rIn_vp (by decide) (rIn_of c1 c2), ?_⟩⟩⟩
  · rw [sR_out (rIn_no1 c1)] at h; exact h
  · rw [sR_out (rIn_no2 c2)] at h; exact h
  · rw [sR_in (rIn_of c1 c2)] at h; exact h
theorem x_at_28 {i : Int32} (h : P (some (.int (rAt 25 (S.2.1 28) i))) S) : mv_big layX sysX (d + 1) 77 [.ref 28, .int i] S P := by
  refine ⟨30, ?_⟩
  refine ⟨fun c1 => ?_, fun c1 => ⟨fun c2 => ?_, fun c2 => ⟨rIn_vp (by decide) (rIn_of c1 c2), ?_⟩⟩⟩
  · rw [rAt_out (rIn_no1 c1)] at h; exact h
  · rw [rAt_out (rIn_no2 c2)] at h; exact h
  · rw [rAt_in (rIn_of c1 c2)] at h; exact h
theorem x_set_28 {i x : Int32} (h : P none (sR S 28 25 i x)) : mv_big layX sysX (d + 1) 79 [.ref 28, .int i, .int x] S P := by
  refine ⟨30, ?_⟩
  refine ⟨fun c1 => ?_, fun c1 => ⟨fun c2 => ?_, fun c2 => ⟨rIn_vp (by decide) (rIn_of c1 c2), ?_⟩⟩⟩
  · rw [sR_out (rIn_no1 c1)] at h; exact h
  · rw [sR_out (rIn_no2 c2)] at h; exact h
  · rw [sR_in (rIn_of c1 c2)] at h; exact h
theorem x_at_29 {i : Int32} (h : P (some (.int (rAt 25 (S.2.1 29) i))) S) : mv_big layX sysX (d + 1) 77 [.ref 29, .int i] S P := by
  refine ⟨30, ?_⟩
  refine ⟨fun c1 => ?_, fun c1 => ⟨fun c2 => ?_, fun c2 => ⟨rIn_vp (by decide) (rIn_of c1 c2), ?_⟩⟩⟩
  · rw [rAt_out (rIn_no1 c1)] at h; exact h
  · rw [rAt_out (rIn_no2 c2)] at h; exact h
  · rw [rAt_in (rIn_of c1 c2)] at h; exact h
theorem x_set_29 {i x : Int32} (h : P none (sR S 29 25 i x)) : mv_big layX sysX (d + 1) 79 [.ref 29, .int i, .int x] S P := by
  refine ⟨30, ?_⟩
  refine ⟨fun c1 => ?_, fun c1 => ⟨fun c2 => ?_, fun c2 => ⟨rIn_vp (by decide) (rIn_of c1 c2), ?_⟩⟩⟩
  · rw [sR_out (rIn_no1 c1)] at h; exact h
  · rw [sR_out (rIn_no2 c2)] at h; exact h
  · rw [sR_in (rIn_of c1 c2)] at h; exact h
theorem x_at_30 {i : Int32} (h : P (some (.int (rAt 25 (S.2.1 30) i))) S) : mv_big layX sysX (d + 1) 77 [.ref 30, .int i] S P := by
  refine ⟨30, ?_⟩
  refine ⟨fun c1 => ?_, fun c1 => ⟨fun c2 => ?_, fun c2 => ⟨rIn_vp (by decide) (rIn_of c1 c2), ?_⟩⟩⟩
  · rw [rAt_out (rIn_no1 c1)] at h; exact h
  · rw [rAt_out (rIn_no2 c2)] at h; exact h
  · rw [rAt_in (rIn_of c1 c2)] at h; exact h
theorem x_set_30 {i x : Int32} (h : P none (sR S 30 25 i x)) : mv_big layX sysX (d + 1) 79 [.ref 30, .int i, .int x] S P := by
  refine ⟨30, ?_⟩
  refine ⟨fun c1 => ?_, fun c1 => ⟨fun c2 => ?_, fun c2 => ⟨rIn_vp (by decide) (rIn_of c1 c2), ?_⟩⟩⟩
  · rw [sR_out (rIn_no1 c1)] at h; exact h
  · rw [sR_out (rIn_no2 c2)] at h; exact h
  · rw [sR_in (rIn_of c1 c2)] at h; exact h
theorem x_at_31 {i : Int32} (h : P (some (.int (rAt 300 (S.2.1 31) i))) S) : mv_big layX sysX (d + 1) 77 [.ref 31, .int i] S P := by
  refine ⟨30, ?_⟩
  refine ⟨fun c1 => ?_, fun c1 => ⟨fun c2 => ?_, fun c2 => ⟨rIn_vp (by decide) (rIn_of c1 c2), ?_⟩⟩⟩
  · rw [rAt_out (rIn_no1 c1)] at h; exact h
  · rw [rAt_out (rIn_no2 c2)] at h; exact h
  · rw [rAt_in (rIn_of c1 c2)] at h; exact h
theorem x_set_31 {i x : Int32} (h : P none (sR S 31 300 i x)) : mv_big layX sysX (d + 1) 79 [.ref 31, .int i, .int x] S P := by
  refine ⟨30, ?_⟩
  refine ⟨fun c1 => ?_, fun c1 => ⟨fun c2 => ?_, fun c2 => ⟨rIn_vp (by decide) (rIn_of c1 c2), ?_⟩⟩⟩
  · rw [sR_out (rIn_no1 c1)] at h; exact h
  · rw [sR_out (rIn_no2 c2)] at h; exact h
  · rw [sR_in (rIn_of c1 c2)] at h; exact h
theorem x_at_32 {i : Int32} (h : P (some (.int (rAt 402 (S.2.1 32) i))) S) : mv_big layX sysX (d + 1) 77 [.ref 32, .int i] S P := by
  refine ⟨30, ?_⟩
  refine ⟨fun c1 => ?_, fun c1 => ⟨fun c2 => ?_, fun c2 => ⟨rIn_vp (by decide) (rIn_of c1 c2), ?_⟩⟩⟩
  · rw [rAt_out (rIn_no1 c1)] at h; exact h
  · rw [rAt_out (rIn_no2 c2)] at h; exact h
  · rw [rAt_in (rIn_of c1 c2)] at h; exact h
theorem x_set_32 {i x : Int32} (h : P none (sR S 32 402 i x)) : mv_big layX sysX (d + 1) 79 [.ref 32, .int i, .int x] S P := by
  refine ⟨30, ?_⟩
  refine ⟨fun c1 => ?_, fun c1 => ⟨fun c2 => ?_, fun c2 => ⟨rIn_vp (by decide) (rIn_of c1 c2), ?_⟩⟩⟩
  · rw [sR_out (rIn_no1 c1)] at h; exact h
  · rw [sR_out (rIn_no2 c2)] at h; exact h
  · rw [sR_in (rIn_of c1 c2)] at h; exact h
theorem x_at_33 {i : Int32} (h : P (some (.int (rAt 402 (S.2.1 33) i))) S) : mv_big layX sysX (d + 1) 77 [.ref 33, .int i] S P := by
  refine ⟨30, ?_⟩
  refine ⟨fun c1 => ?_, fun c1 => ⟨fun c2 => ?_, fun c2 => ⟨rIn_vp (by decide) (rIn_of c1 c2), ?_⟩⟩⟩
  · rw [rAt_out (rIn_no1 c1)] at h; exact h
  · rw [rAt_out (rIn_no2 c2)] at h; exact h
  · rw [rAt_in (rIn_of c1 c2)] at h; exact h
theorem x_set_33 {i x : Int32} (h : P none (sR S 33 402 i x)) : mv_big layX sysX (d + 1) 79 [.ref 33, .int i, .int x] S P := by
  refine ⟨30, ?_⟩
  refine ⟨fun c1 => ?_, fun c1 => ⟨fun c2 => ?_, fun c2 => ⟨rIn_vp (by decide) (rIn_of c1 c2), ?_⟩⟩⟩
  · rw [sR_out (rIn_no1 c1)] at h; exact h
  · rw [sR_out (rIn_no2 c2)] at h; exact h
  · rw [sR_in (rIn_of c1 c2)] at h; exact h
theorem x_at_34 {i : Int32} (h : P (some (.int (rAt 402 (S.2.1 34) i))) S) : mv_big layX sysX (d + 1) 77 [.ref 34, .int i] S P := by
  refine ⟨30, ?_⟩
  refine ⟨fun c1 => ?_, fun c1 => ⟨fun c2 => ?_, fun c2 => ⟨rIn_vp (by decide) (rIn_of c1 c2), ?_⟩⟩⟩
  · rw [rAt_out (rIn_no1 c1)] at h; exact h
  · rw [rAt_out (rIn_no2 c2)] at h; exact h
  · rw [rAt_in (rIn_of c1 c2)] at h; exact h
theorem x_set_34 {i x : Int32} (h : P none (sR S 34 402 i x)) : mv_big layX sysX (d + 1) 79 [.ref 34, .int i, .int x] S P := by
  refine ⟨30, ?_⟩
  refine ⟨fun c1 => ?_, fun c1 => ⟨fun c2 => ?_, fun c2 => ⟨rIn_vp (by decide) (rIn_of c1 c2), ?_⟩⟩⟩
  · rw [sR_out (rIn_no1 c1)] at h; exact h
  · rw [sR_out (rIn_no2 c2)] at h; exact h
  · rw [sR_in (rIn_of c1 c2)] at h; exact h
theorem x_at_35 {i : Int32} (h : P (some (.int (rAt 425 (S.2.1 35) i))) S) : mv_big layX sysX (d + 1) 77 [.ref 35, .int i] S P := by
  refine ⟨30, ?_⟩
  refine ⟨fun c1 => ?_, fun c1 => ⟨fun c2 => ?_, fun c2 => ⟨rIn_vp (by decide) (rIn_of c1 c2), ?_⟩⟩⟩
  · rw [rAt_out (rIn_no1 c1)] at h; exact h
  · rw [rAt_out (rIn_no2 c2)] at h; exact h
  · rw [rAt_in (rIn_of c1 c2)] at h; exact h
theorem x_set_35 {i x : Int32} (h : P none (sR S 35 425 i x)) : mv_big layX sysX (d + 1) 79 [.ref 35, .int i, .int x] S P := by
  refine ⟨30, ?_⟩
  refine ⟨fun c1 => ?_, fun c1 => ⟨fun c2 => ?_, fun c2 => ⟨rIn_vp (by decide) (rIn_of c1 c2), ?_⟩⟩⟩
  · rw [sR_out (rIn_no1 c1)] at h; exact h
  · rw [sR_out (rIn_no2 c2)] at h; exact h
  · rw [sR_in (rIn_of c1 c2)] at h; exact h
theorem x_at_36 {i : Int32} (h : P (some (.int (rAt 425 (S.2.1 36) i))) S) : mv_big layX sysX (d + 1) 77 [.ref 36, .int i] S P := by
  refine ⟨30, ?_⟩
  refine ⟨fun c1 => ?_, fun c1 => ⟨fun c2 => ?_, fun c2 => ⟨rIn_vp (by decide) (rIn_of c1 c2), ?_⟩⟩⟩
  · rw [rAt_out (rIn_no1 c1)] at h; exact h
  · rw [rAt_out (rIn_no2 c2)] at h; exact h
  · rw [rAt_in (rIn_of c1 c2)] at h; exact h
theorem x_set_36 {i x : Int32} (h : P none (sR S 36 425 i x)) : mv_big layX sysX (d + 1) 79 [.ref 36, .int i, .int x] S P := by
  refine ⟨30, ?_⟩
  refine ⟨fun c1 => ?_, fun c1 => ⟨fun c2 => ?_, fun c2 => ⟨rIn_vp (by decide) (rIn_of c1 c2), ?_⟩⟩⟩
  · rw [sR_out (rIn_no1 c1)] at h; exact h
  · rw [sR_out (rIn_no2 c2)] at h; exact h
  · rw [sR_in (rIn_of c1 c2)] at h; exact h
theorem x_at_27 {i : Int32} (h : P (some (.long (rLt 425 (S.2.2 27) i))) S) : mv_big layX sysX (d + 1) 78 [.ref 27, .int i] S P := by
  refine ⟨30, ?_⟩
  refine ⟨fun c1 => ?_, fun c1 => ⟨fun c2 => ?_, fun c2 => ⟨rIn_vp (by decide) (rIn_of c1 c2), ?_⟩⟩⟩
  · rw [rLt_out (rIn_no1 c1)] at h; exact h
  · rw [rLt_out (rIn_no2 c2)] at h; exact h
  · rw [rLt_in (rIn_of c1 c2)] at h; exact h
theorem x_set_27 {i : Int32} {x : Int64} (h : P none (sL S 27 425 i x)) : mv_big layX sysX (d + 1) 80 [.ref 27, .int i, .long x] S P := by
  refine ⟨30, ?_⟩
  refine ⟨fun c1 => ?_, fun c1 => ⟨fun c2 => ?_, fun c2 => ⟨rIn_vp (by decide) (rIn_of c1 c2), ?_⟩⟩⟩
  · rw [sL_out (rIn_no1 c1)] at h; exact h
  · rw [sL_out (rIn_no2 c2)] at h; exact h
  · rw [sL_in (rIn_of c1 c2)] at h; exact h
theorem x_size (h : P (some (.int (S.1 1 9))) S) : mv_big layX sysX (d + 1) 53 [.ref 1] S P := ⟨10, h⟩
theorem x_ready (hz : S.1 1 11 = 0 ∨ S.1 1 11 = 1) (h : P (some (.int (S.1 1 11))) S) : mv_big layX sysX (d + 1) 54 [.ref 1] S P := ⟨10, hz, h⟩
theorem x_faultPlace (h : P (some (.int (S.1 1 12))) S) : mv_big layX sysX (d + 1) 55 [.ref 1] S P := ⟨10, h⟩
theorem x_mainWord (h : P (some (.int (S.1 1 7))) S) : mv_big layX sysX (d + 1) 68 [.ref 1] S P := ⟨10, h⟩
theorem x_mainToken (h : P (some (.int (S.1 1 8))) S) : mv_big layX sysX (d + 1) 69 [.ref 1] S P := ⟨10, h⟩
theorem x_emitted (h : P (some (.int (S.1 1 10))) S) : mv_big layX sysX (d + 1) 74 [.ref 1] S P := ⟨10, h⟩
theorem x_there (hz : S.1 6 2 = 0 ∨ S.1 6 2 = 1) (h : P (some (.int (S.1 6 2))) S) : mv_big layX sysX (d + 1) 84 [.ref 6] S P := ⟨10, hz, h⟩
theorem x_nextWord (h : P (some (.int (S.1 6 3))) S) : mv_big layX sysX (d + 1) 85 [.ref 6] S P := ⟨10, h⟩
theorem x_end (h : P (some (.int (S.1 6 4))) S) : mv_big layX sysX (d + 1) 86 [.ref 6] S P := ⟨10, h⟩
theorem x_steps (h : P (some (.int (S.1 4 15))) S) : mv_big layX sysX (d + 1) 95 [.ref 4] S P := ⟨10, h⟩
theorem x_calls (h : P (some (.int (S.1 4 13))) S) : mv_big layX sysX (d + 1) 97 [.ref 4] S P := ⟨10, h⟩
theorem x_mostMade (h : P (some (.int (S.1 4 16))) S) : mv_big layX sysX (d + 1) 98 [.ref 4] S P := ⟨10, h⟩
theorem x_toldCount (h : P (some (.int (S.1 4 14))) S) : mv_big layX sysX (d + 1) 99 [.ref 4] S P := ⟨10, h⟩
theorem x_over (hz : S.1 3 15 = 0 ∨ S.1 3 15 = 1) (h : P (some (.int (S.1 3 15))) S) : mv_big layX sysX (d + 1) 12 [.ref 3] S P := ⟨10, hz, h⟩
theorem x_made (h : P (some (.int (S.1 3 14))) S) : mv_big layX sysX (d + 1) 13 [.ref 3] S P := ⟨10, h⟩
theorem x_reached (h : P (some (.int (S.1 3 11))) S) : mv_big layX sysX (d + 1) 18 [.ref 3] S P := ⟨10, h⟩
theorem x_drop (h : P none (mv_pf S 6 2 0)) : mv_big layX sysX (d + 1) 83 [.ref 6] S P := ⟨10, Or.inl rfl, h⟩
theorem x_furnish {a b : Int32} (h : P none (mv_pf (mv_pf S 3 12 a) 3 13 b)) : mv_big layX sysX (d + 1) 0 [.ref 3, .int a, .int b] S P := ⟨20, h⟩
theorem x_accept (h : P none (mv_pf S 1 11 1)) : mv_big layX sysX (d + 1) 51 [.ref 1] S P := ⟨20, Or.inr rfl, h⟩
theorem x_refuse {a : Int32} (h : P none (mv_pf S 1 12 a)) : mv_big layX sysX (d + 1) 52 [.ref 1, .int a] S P := ⟨20, h⟩
theorem x_addStep (h : P none (mv_pf S 4 15 (S.1 4 15 + 1))) : mv_big layX sysX (d + 1) 96 [.ref 4] S P := ⟨20, h⟩
theorem x_undo (h : P none (mv_pf S 3 8 (S.1 3 9))) : mv_big layX sysX (d + 1) 16 [.ref 3] S P := ⟨20, h⟩
theorem x_beginReaching (h : P none (mv_pf (mv_pf S 3 10 (S.1 3 10 + 1)) 3 11 0)) : mv_big layX sysX (d + 1) 17 [.ref 3] S P := ⟨20, h⟩
end LX
end
section
/-! THE CLASS'S METHODS: loops that fill a row -/
abbrev xW (M : mv_M) (d : Nat) (P : Option Value → mv_S → Prop) (n pc : Nat) (lv : List (Nat × Value)) (st : List Value) (S : mv_S) : Prop := mv_wp layX sysX M.2.2.2.2.2.2.1 M.2.2.1 M.2.2.2.1 M.2.2.2.2.2.2.2 (mv_big layX sysX d) P n pc lv st S
/-- the store with another row at q -/
def stR (S : mv_S) (q : Nat) (r : Nat → Int32) : mv_S := (S.1, va_up S.2.1 q r, S.2.2)
theorem stR_pr (S : mv_S) (q : Nat) (r : Nat → Int32) (k : Nat) (x : Int32) : mv_pr (stR S q r) q k x = stR S q (upd r k x) := by
  simp only [mv_pr, stR, va_up_self]
  congr 2
  funext j
  by_cases h : j = q <;> simp [va_up, h]
theorem stR_self (S : mv_S) (q : Nat) : stR S q (S.2.1 q) = S := by
  obtain ⟨a, b, c⟩ := S
  simp only [stR]
  congr 2
  funext j
  by_cases h : j = q <;> simp [va_up, h]
/-- a row with c from a to before n -/
def rFill (r : Nat → Int32) (a n : Nat) (c : Int32) : Nat → Int32 := fun f => if a ≤ f ∧ f < n then c else r f
theorem rFill_0 (r : Nat → Int32) (a : Nat) (c : Int32) : rFill r a a c = r := by
  funext f
  simp only [rFill]
  rw [if_neg (by omega)]
theorem rFill_s (r : Nat → Int32) {a i : Nat} (h : a ≤ i) (c : Int32) : upd (rFill r a i c) i c = rFill r a (i + 1) c := by
  funext f
  simp only [rFill, upd]
  by_cases h1 : f = i
  · subst h1; simp [h]
  · rw [if_neg h1]
    by_cases h2 : a ≤ f ∧ f < i
    · rw [if_pos h2, if_pos (by omega)]
    · rw [if_neg h2, if_neg (by omega)]
theorem nI_leN {a b : Nat} (ha : a < 2 ^ 31) (hb : b < 2 ^ 31) : (nI a ≤ nI b) = (a ≤ b) := propext (nI_leI ha hb)
section WS
variable {lay : List mv_D} {sys : List mv_M} {T : mv_T} {nL : Nat} {z : Option FieldType} {il : List (Nat × Instr)} {Call : mv_Call} {P : Option Value → mv_S → Prop} {n pc : Nat} {lv : List (Nat × Value)} {st : List Value} {S : mv_S}
theorem ws_i {i : Instr} (hi : mv_at pc il = some i) (h : mv_do lay sys T nL z Call P (mv_wp lay sys T nL z il Call P n) pc lv st S i) : mv_wp lay sys T nL z il Call P (n + 1) pc lv st S := by
  unfold mv_wp
  rw [hi]
  exact h
theorem ws_iinc {k t : Nat} {c : Int} {x y : Int32} {lv' : List (Nat × Value)} (hi : mv_at pc il = some (.iinc k c)) (hl : mv_at k lv = some (.int x)) (hb : Nat.blt k nL = true) (hy : x + Int32.ofInt c = y) (hv : mv_sv k (.int y) lv = lv') (ht : pc + 3 = t) (h : mv_wp lay sys T nL z il Call P n t lv' st S) : mv_wp lay sys T nL z il Call P (n + 1) pc lv st S := by
  subst hv; subst ht; subst hy
  refine ws_i hi ?_
  simp only [mv_do, hl, hb, cond_true]
  exact h
theorem ws_goto {off : Int} {t : Nat} (hi : mv_at pc il = some (.goto off)) (ht : (pc : Int) + off = (t : Int)) (h : mv_wp lay sys T nL z il Call P n t lv st S) : mv_wp lay sys T nL z il Call P (n + 1) pc lv st S := by
  refine ws_i hi ?_
  show mv_to pc off _
  unfold mv_to
  rw [ht]
  exact h
theorem ws_iconst {c : Int} {x : Int32} {t : Nat} (hi : mv_at pc il = some (.iconst c)) (hx : Int32.ofInt c = x) (ht : pc + 1 = t) (h : mv_wp lay sys T nL z il Call P n t lv (.int x :: st) S) : mv_wp lay sys T nL z il Call P (n + 1) pc lv st S := by
  subst ht; subst hx
  exact ws_i hi h
theorem ws_istore_n {k : Fin 4} {x : Int32} {t : Nat} {lv' : List (Nat × Value)} (hi : mv_at pc il = some (.istore_n k)) (hb : Nat.blt k.val nL = true) (hv : mv_sv k.val (.int x) lv = lv') (ht : pc + 1 = t) (h : mv_wp lay sys T nL z il Call P n t lv' st S) : mv_wp lay sys T nL z il Call P (n + 1) pc lv (.int x :: st) S := by
  subst ht; subst hv
  refine ws_i hi ?_
  simp only [mv_do, hb, cond_true]
  exact h
theorem ws_istore {k : Nat} {x : Int32} {t : Nat} {lv' : List (Nat × Value)} (hi : mv_at pc il = some (.istore k)) (hb : Nat.blt k nL = true) (hv : mv_sv k (.int x) lv = lv') (ht : pc + 2 = t) (h : mv_wp lay sys T nL z il Call P n t lv' st S) : mv_wp lay sys T nL z il Call P (n + 1) pc lv (.int x :: st) S := by
  subst ht; subst hv
  refine ws_i hi ?_
  simp only [mv_do, hb, cond_true]
  exact h
theorem ws_bipush {c : Int} {x : Int32} {t : Nat} (hi : mv_at pc il = some (.bipush c)) (hx : (Int8.ofInt c).toInt32 = x) (ht : pc + 2 = t) (h : mv_wp lay sys T nL z il Call P n t lv (.int x :: st) S) : mv_wp lay sys T nL z il Call P (n + 1) pc lv st S := by
  subst ht; subst hx
  exact ws_i hi h
theorem ws_sipush {c : Int} {x : Int32} {t : Nat} (hi : mv_at pc il = some (.sipush c)) (hx : (Int16.ofInt c).toInt32 = x) (ht : pc + 3 = t) (h : mv_wp lay sys T nL z il Call P n t lv (.int x :: st) S) : mv_wp lay sys T nL z il Call P (n + 1) pc lv st S := by
  subst ht; subst hx
  exact ws_i hi h
theorem ws_iload_n {k : Fin 4} {x : Int32} {t : Nat} (hi : mv_at pc il = some (.iload_n k)) (hl : mv_at k.val lv = some (.int x)) (ht : pc + 1 = t) (h : mv_wp lay sys T nL z il Call P n t lv (.int x :: st) S) : mv_wp lay sys T nL z il Call P (n + 1) pc lv st S := by
  subst ht
  refine ws_i hi ?_
  simp only [mv_do, hl]
  exact h
theorem ws_iload {k : Nat} {x : Int32} {t : Nat} (hi : mv_at pc il = some (.iload k)) (hl : mv_at k lv = some (.int x)) (ht : pc + 2 = t) (h : mv_wp lay sys T nL z il Call P n t lv (.int x :: st) S) : mv_wp lay sys T nL z il Call P (n + 1) pc lv st S := by
  subst ht
  refine ws_i hi ?_
  simp only [mv_do, hl]
  exact h
theorem ws_aload_n {k : Fin 4} {x : Nat} {t : Nat} (hi : mv_at pc il = some (.aload_n k)) (hl : mv_at k.val lv = some (.ref x)) (ht : pc + 1 = t) (h : mv_wp lay sys T nL z il Call P n t lv (.ref x :: st) S) : mv_wp lay sys T nL z il Call P (n + 1) pc lv st S := by
  subst ht
  refine ws_i hi ?_
  simp only [mv_do, hl]
  exact h
theorem ws_iadd {x y w : Int32} {t : Nat} (hi : mv_at pc il = some .iadd) (hw : x + y = w) (ht : pc + 1 = t) (h : mv_wp lay sys T nL z il Call P n t lv (.int w :: st) S) : mv_wp lay sys T nL z il Call P (n + 1) pc lv (.int y :: .int x :: st) S := by
  subst ht; subst hw
  exact ws_i hi h
theorem ws_isub {x y w : Int32} {t : Nat} (hi : mv_at pc il = some .isub) (hw : x - y = w) (ht : pc + 1 = t) (h : mv_wp lay sys T nL z il Call P n t lv (.int w :: st) S) : mv_wp lay sys T nL z il Call P (n + 1) pc lv (.int y :: .int x :: st) S := by
  subst ht; subst hw
  exact ws_i hi h
theorem ws_imul {x y w : Int32} {t : Nat} (hi : mv_at pc il = some .imul) (hw : x * y = w) (ht : pc + 1 = t) (h : mv_wp lay sys T nL z il Call P n t lv (.int w :: st) S) : mv_wp lay sys T nL z il Call P (n + 1) pc lv (.int y :: .int x :: st) S := by
  subst ht; subst hw
  exact ws_i hi h
theorem ws_dup_r {x : Nat} {t : Nat} (hi : mv_at pc il = some .dup) (ht : pc + 1 = t) (h : mv_wp lay sys T nL z il Call P n t lv (.ref x :: .ref x :: st) S) : mv_wp lay sys T nL z il Call P (n + 1) pc lv (.ref x :: st) S := by
  subst ht
  exact ws_i hi h
theorem ws_geti {i q ci k t : Nat} {x : Int32} (hi : mv_at pc il = some (.getfield i)) (hf : mv_fd lay T i q = some (ci, k, 0)) (hx : S.1 q k = x) (ht : pc + 3 = t) (h : mv_wp lay sys T nL z il Call P n t lv (.int x :: st) S) : mv_wp lay sys T nL z il Call P (n + 1) pc lv (.ref q :: st) S := by
  subst ht; subst hx
  refine ws_i hi ?_
  simp only [mv_do, hf]
  exact h
theorem ws_getz {i q ci k t : Nat} {x : Int32} (hi : mv_at pc il = some (.getfield i)) (hf : mv_fd lay T i q = some (ci, k, 1)) (hx : S.1 q k = x) (ht : pc + 3 = t) (h : mv_wp lay sys T nL z il Call P n t lv (.int x :: st) S) : mv_wp lay sys T nL z il Call P (n + 1) pc lv (.ref q :: st) S := by
  subst ht; subst hx
  refine ws_i hi ?_
  simp only [mv_do, hf]
  exact h
theorem ws_getr {i q ci k j t : Nat} (hi : mv_at pc il = some (.getfield i)) (hf : mv_fd lay T i q = some (ci, k, j + 2)) (ht : pc + 3 = t) (h : mv_wp lay sys T nL z il Call P n t lv (.ref j :: st) S) : mv_wp lay sys T nL z il Call P (n + 1) pc lv (.ref q :: st) S := by
  subst ht
  refine ws_i hi ?_
  simp only [mv_do, hf]
  exact h
theorem ws_puti {i q ci k t : Nat} {x : Int32} (hi : mv_at pc il = some (.putfield i)) (hf : mv_fd lay T i q = some (ci, k, 0)) (ht : pc + 3 = t) (h : mv_wp lay sys T nL z il Call P n t lv st (mv_pf S q k x)) : mv_wp lay sys T nL z il Call P (n + 1) pc lv (.int x :: .ref q :: st) S := by
  subst ht
  refine ws_i hi ?_
  simp only [mv_do, hf]
  exact h
theorem ws_putz {i q ci k t : Nat} {x : Int32} (hi : mv_at pc il = some (.putfield i)) (hf : mv_fd lay T i q = some (ci, k, 1)) (hz : x = 0 ∨ x = 1) (ht : pc + 3 = t) (h : mv_wp lay sys T nL z il Call P n t lv st (mv_pf S q k x)) : mv_wp lay sys T nL z il Call P (n + 1) pc lv (.int x :: .ref q :: st) S := by
  subst ht
  refine ws_i hi ?_
  simp only [mv_do, hf]
  exact ⟨hz, h⟩
theorem ws_iv {i j t : Nat} {a rest : List Value} (hi : mv_at pc il = some (.invokevirtual i)) (hv : mv_iv lay sys T i st = some (j, a, rest)) (ht : pc + 3 = t) (h : Call j a S (fun r S' => mv_wp lay sys T nL z il Call P n t lv (r.toList ++ rest) S')) : mv_wp lay sys T nL z il Call P (n + 1) pc lv st S := by
  subst ht
  refine ws_i hi ?_
  simp only [mv_do, hv]
  exact h
theorem ws_is {i j t : Nat} {a rest : List Value} (hi : mv_at pc il = some (.invokestatic i)) (hv : mv_is sys T i st = some (j, a, rest)) (ht : pc + 3 = t) (h : Call j a S (fun r S' => mv_wp lay sys T nL z il Call P n t lv (r.toList ++ rest) S')) : mv_wp lay sys T nL z il Call P (n + 1) pc lv st S := by
  subst ht
  refine ws_i hi ?_
  simp only [mv_do, hv]
  exact h
end WS
section LX
variable {d : Nat} {S : mv_S} {P : Option Value → mv_S → Prop}
theorem stR_fill (S : mv_S) (q : Nat) (r : Nat → Int32) {a i : Nat} (h : a ≤ i) (hi : i < 2 ^ 31) (c : Int32) : mv_pr (stR S q (rFill r a i c)) q (nI i).toNatClampNeg c = stR S q (rFill r a (i + 1) c) := by
  rw [nI_clamp hi, stR_pr, rFill_s r h]
theorem x_zero_23 (h : P none (stR S 23 (rFill (S.2.1 23) 0 158 0))) : mv_big layX sysX (d + 1) 81 [.ref 23] S P := by
  have key := mv_loop (T := tT3) (nL := 2) (z := none) (il := mX3_zero.2.2.2.2.2.2.2) (lay := layX) (sys := sysX) (d := d) (P := P) (pc := 2) 20 (fun k lv st S' => ∃ i, i + k = 158 ∧ lv = [(1, .int (nI i)), (0, .ref 23)] ∧ st = [] ∧ S' = stR S 23 (rFill (S.2.1 23) 0 i 0)) (by
      rintro n lv st S' ⟨i, hk, rfl, rfl, rfl⟩
      obtain rfl : i = 158 := hk
      exact ⟨fun _ => h, fun c => absurd (by decide) c⟩) (by
      rintro k n lv st S' ⟨i, hk, rfl, rfl, rfl⟩ ih
      refine ⟨fun c => ?_, fun c => ⟨vp_in_nI (by omega) (by omega), ?_⟩⟩
      · exact absurd ((nI_leI (by omega) (by omega)).mp c) (by omega)
      · have hi := ih (n + 10) [(1, .int (nI (i + 1))), (0, .ref 23)] [] (stR S 23 (rFill (S.2.1 23) 0 (i + 1) 0)) (by omega) ⟨i + 1, by omega, rfl, rfl, rfl⟩
        rw [← stR_fill S 23 _ (Nat.zero_le i) (by omega) 0] at hi
        exact ws_iinc (y := nI (i + 1)) rfl rfl rfl (nI_succ i).symm rfl rfl (ws_goto (t := 2) rfl (by decide) hi))
  refine ⟨3202, ?_⟩
  refine ws_iconst (x := nI 0) rfl rfl rfl (ws_istore_n rfl rfl rfl rfl ?_)
  exact key 158 3200 [(1, .int (nI 0)), (0, .ref 23)] [] S (by omega) ⟨0, rfl, rfl, rfl, by rw [rFill_0, stR_self]⟩
end LX
end
section
/-! THE CLASS'S METHODS: program, store, refusals -/
theorem sR_1 (S : mv_S) (q n : Nat) (i x : Int32) : (sR S q n i x).1 = S.1 := by unfold sR; split <;> rfl
theorem stR_1 (S : mv_S) (q : Nat) (r : Nat → Int32) : (stR S q r).1 = S.1 := rfl
/-- what forgetCode leaves -/
def xFC (S : mv_S) : mv_S := stR (mv_pf (mv_pf (mv_pf S 1 11 0) 1 10 0) 1 12 (-1)) 12 (rFill (S.2.1 12) 0 8 (-1))
/-- what forgetCalls leaves -/
def xFK (S : mv_S) : mv_S := stR (mv_pf (mv_pf (mv_pf S 4 13 0) 4 11 0) 4 12 0) 24 (rFill (S.2.1 24) 4 54 0)
section LX
variable {d : Nat} {S : mv_S} {P : Option Value → mv_S → Prop}
theorem x_zero_24 (h : P none (stR S 24 (rFill (S.2.1 24) 0 54 0))) : mv_big layX sysX (d + 1) 81 [.ref 24] S P := by
  have key := mv_loop (T := tT3) (nL := 2) (z := none) (il := mX3_zero.2.2.2.2.2.2.2) (lay := layX) (sys := sysX) (d := d) (P := P) (pc := 2) 20 (fun k lv st S' => ∃ i, i + k = 54 ∧ lv = [(1, .int (nI i)), (0, .ref 24)] ∧ st = [] ∧ S' = stR S 24 (rFill (S.2.1 24) 0 i 0)) (by
      rintro n lv st S' ⟨i, hk, rfl, rfl, rfl⟩
      obtain rfl : i = 54 := hk
      exact ⟨fun _ => h, fun c => absurd (by decide) c⟩) (by
      rintro k n lv st S' ⟨i, hk, rfl, rfl, rfl⟩ ih
      refine ⟨fun c => ?_, fun c => ⟨vp_in_nI (by omega) (by omega), ?_⟩⟩
      · exact absurd ((nI_leI (by omega) (by omega)).mp c) (by omega)
      · have hi := ih (n + 10) [(1, .int (nI (i + 1))), (0, .ref 24)] [] (stR S 24 (rFill (S.2.1 24) 0 (i + 1) 0)) (by omega) ⟨i + 1, by omega, rfl, rfl, rfl⟩
        rw [← stR_fill S 24 _ (Nat.zero_le i) (by omega) 0] at hi
        exact ws_iinc (y := nI (i + 1)) rfl rfl rfl (nI_succ i).symm rfl rfl (ws_goto (t := 2) rfl (by decide) hi))
  refine ⟨1202, ?_⟩
  refine ws_iconst (x := nI 0) rfl rfl rfl (ws_istore_n rfl rfl rfl rfl ?_)
  exact key 54 1200 [(1, .int (nI 0)), (0, .ref 24)] [] S (by omega) ⟨0, rfl, rfl, rfl, by rw [rFill_0, stR_self]⟩
theorem x_forgetCode (h : P none (xFC S)) : mv_big layX sysX (d + 1) 50 [.ref 1] S P := by
  obtain ⟨S1, hS1⟩ : ∃ S1, S1 = mv_pf (mv_pf (mv_pf S 1 11 0) 1 10 0) 1 12 (-1) := ⟨_, rfl⟩
  have key := mv_loop (T := tT2) (nL := 2) (z := none) (il := mX2_forgetCode.2.2.2.2.2.2.2) (lay := layX) (sys := sysX) (d := d) (P := P) (pc := 17) 20 (fun k lv st S' => ∃ i, i + k = 8 ∧ lv = [(1, .int (nI i)), (0, .ref 1)] ∧ st = [] ∧ S' = stR S1 12 (rFill (S1.2.1 12) 0 i (-1))) (by
      rintro n lv st S' ⟨i, hk, rfl, rfl, rfl⟩
      obtain rfl : i = 8 := hk
      exact ⟨fun _ => by rw [hS1]; exact h, fun c => absurd (by decide) c⟩) (by
      rintro k n lv st S' ⟨i, hk, rfl, rfl, rfl⟩ ih
      refine ⟨fun c => ?_, fun c => ⟨vp_in_nI (by omega) (by omega), ?_⟩⟩
      · have c' : nI 8 ≤ nI i := c
        exact absurd ((nI_leI (by omega) (by omega)).mp c') (by omega)
      · have hi := ih (n + 10) [(1, .int (nI (i + 1))), (0, .ref 1)] [] (stR S1 12 (rFill (S1.2.1 12) 0 (i + 1) (-1))) (by omega) ⟨i + 1, by omega, rfl, rfl, rfl⟩
        rw [← stR_fill S1 12 _ (Nat.zero_le i) (by omega) (-1)] at hi
        exact ws_iinc (y := nI (i + 1)) rfl rfl rfl (nI_succ i).symm rfl rfl (ws_goto (t := 17) rfl (by decide) hi))
  refine ⟨411, ?_⟩
  refine ws_aload_n rfl rfl rfl (ws_iconst (x := 0) rfl rfl rfl (ws_putz rfl rfl (Or.inl rfl) rfl ?_))
  refine ws_aload_n rfl rfl rfl (ws_iconst (x := 0) rfl rfl rfl (ws_puti rfl rfl rfl ?_))
  refine ws_aload_n rfl rfl rfl (ws_iconst (x := -1) rfl rfl rfl (ws_puti rfl rfl rfl ?_))
  refine ws_iconst (x := nI 0) rfl rfl rfl (ws_istore_n rfl rfl rfl rfl ?_)
  rw [← hS1]
  exact key 8 400 [(1, .int (nI 0)), (0, .ref 1)] [] S1 (by omega) ⟨0, rfl, rfl, rfl, by rw [rFill_0, stR_self]⟩
theorem x_forgetCalls (h : P none (xFK S)) : mv_big layX sysX (d + 1) 94 [.ref 4] S P := by
  obtain ⟨S1, hS1⟩ : ∃ S1, S1 = mv_pf (mv_pf (mv_pf S 4 13 0) 4 11 0) 4 12 0 := ⟨_, rfl⟩
  have key := mv_loop (T := tT5) (nL := 2) (z := none) (il := mX5_forgetCalls.2.2.2.2.2.2.2) (lay := layX) (sys := sysX) (d := d) (P := P) (pc := 17) 20 (fun k lv st S' => ∃ i, 4 ≤ i ∧ i + k = 54 ∧ lv = [(1, .int (nI i)), (0, .ref 4)] ∧ st = [] ∧ S' = stR S1 24 (rFill (S1.2.1 24) 4 i 0)) (by
      rintro n lv st S' ⟨i, h4, hk, rfl, rfl, rfl⟩
      obtain rfl : i = 54 := hk
      exact ⟨fun _ => by rw [hS1]; exact h, fun c => absurd (by decide) c⟩) (by
      rintro k n lv st S' ⟨i, h4, hk, rfl, rfl, rfl⟩ ih
      refine ⟨fun c => ?_, fun c => ⟨vp_in_nI (by omega) (by omega), ?_⟩⟩
      · have c' : nI 54 ≤ nI i := c
        exact absurd ((nI_leI (by omega) (by omega)).mp c') (by omega)
      · have hi := ih (n + 8) [(1, .int (nI (i + 1))), (0, .ref 4)] [] (stR S1 24 (rFill (S1.2.1 24) 4 (i + 1) 0)) (by omega) ⟨i + 1, by omega, by omega, rfl, rfl, rfl⟩
        rw [← stR_fill S1 24 _ h4 (by omega) 0] at hi
        exact ws_iinc (y := nI (i + 1)) rfl rfl rfl (nI_succ i).symm rfl rfl (ws_goto (t := 17) rfl (by decide) hi))
  refine ⟨1111, ?_⟩
  refine ws_aload_n rfl rfl rfl (ws_iconst (x := 0) rfl rfl rfl (ws_puti rfl rfl rfl ?_))
  refine ws_aload_n rfl rfl rfl (ws_iconst (x := 0) rfl rfl rfl (ws_puti rfl rfl rfl ?_))
  refine ws_aload_n rfl rfl rfl (ws_iconst (x := 0) rfl rfl rfl (ws_puti rfl rfl rfl ?_))
  refine ws_iconst (x := nI 4) rfl rfl rfl (ws_istore_n rfl rfl rfl rfl ?_)
  rw [← hS1]
  exact key 50 1100 [(1, .int (nI 4)), (0, .ref 4)] [] S1 (by omega) ⟨4, by omega, rfl, rfl, rfl, by rw [rFill_0, stR_self]⟩
end LX
end
section
/-! THE CLASS'S METHODS: what needs no tree and no program -/
/-- what Store.clear leaves -/
def xCL (S : mv_S) : mv_S := mv_pf (mv_pf (mv_pf (xFK (stR (stR S 23 (rFill (S.2.1 23) 0 158 0)) 24 (rFill ((stR S 23 (rFill (S.2.1 23) 0 158 0)).2.1 24) 0 54 0))) 4 14 0) 4 15 0) 4 16 0
/-- what leaveRun leaves -/
def xLR (S : mv_S) : mv_S := xFK (mv_pf S 6 2 0)
/-- what a token more leaves -/
def xAD (S : mv_S) (x : Int32) : mv_S := xFC (mv_pf (sR S 8 700 (S.1 1 9) x) 1 9 (S.1 1 9 + 1))
/-- what init leaves -/
def xIN (S : mv_S) (a b : Int32) : mv_S := xCL (mv_pf (mv_pf (mv_pf (xFC (mv_pf S 1 9 0)) 6 2 0) 3 12 a) 3 13 b)
section LX
variable {d : Nat} {S : mv_S} {P : Option Value → mv_S → Prop}
theorem x_pclear (h : P none (xFC (mv_pf S 1 9 0))) : mv_big layX sysX (d + 2) 48 [.ref 1] S P := ⟨20, x_forgetCode h⟩
theorem x_add {x : Int32} (h1 : 700 ≤ S.1 1 9 → P (some (.int 0)) S) (h2 : S.1 1 9 < 700 → P (some (.int 1)) (xAD S x)) : mv_big layX sysX (d + 2) 49 [.ref 1, .int x] S P := by
  refine ⟨60, ?_⟩
  refine ⟨fun c => ?_, fun c => ?_⟩
  · refine x_set_8 ?_
    refine x_forgetCode ?_
    refine ⟨Or.inr rfl, ?_⟩
    have h3 := h2 c
    unfold xAD at h3
    rw [show (sR S 8 700 (S.1 1 9) x).1 1 9 = S.1 1 9 by rw [sR_1]]
    exact h3
  · exact ⟨Or.inl rfl, h1 (Int32.not_lt.mp c)⟩
theorem x_sclear (h : P none (xCL S)) : mv_big layX sysX (d + 2) 92 [.ref 4] S P := by
  refine ⟨60, ?_⟩
  refine x_zero_23 ?_
  refine x_zero_24 ?_
  refine x_forgetCalls ?_
  exact h
theorem x_leaveRun (h : P none (xLR S)) : mv_big layX sysX (d + 2) 172 [.ref 0] S P := by
  refine ⟨30, ?_⟩
  refine x_drop ?_
  refine x_forgetCalls ?_
  exact h
theorem x_init {a b : Int32} (h1 : ¬ (1 ≤ b ∧ b ≤ 400) → P (some (.int (-2))) S) (h2 : 1 ≤ b → b ≤ 400 → P (some (.int 0)) (xIN S a b)) : mv_big layX sysX (d + 3) 158 [.ref 0, .int a, .int b] S P := by
  refine ⟨60, ?_⟩
  refine ⟨fun c => ?_, fun c => ⟨fun c2 => ?_, fun c2 => ?_⟩⟩
  · exact h1 (fun h => absurd h.1 (Int32.not_le.mpr c))
  · refine x_pclear ?_
    refine x_drop ?_
    refine x_furnish ?_
    refine x_sclear ?_
    exact h2 (Int32.not_lt.mp c) c2
  · exact h1 (fun h => c2 h.2)
theorem x_feed {x : Int32} (h1 : 700 ≤ S.1 1 9 → P (some (.int (-3))) S) (h2 : S.1 1 9 < 700 → P (some (.int ((xLR (xAD S x)).1 1 9))) (xLR (xAD S x))) : mv_big layX sysX (d + 3) 159 [.ref 0, .int x] S P := by
  refine ⟨60, ?_⟩
  refine x_add (fun c => ?_) (fun c => ?_)
  · exact ⟨fun z => absurd rfl z, fun _ => h1 c⟩
  · refine ⟨fun _ => ?_, fun z => absurd (show (1 : Int32) = 0 from z) (by decide)⟩
    refine x_leaveRun ?_
    refine x_size ?_
    exact h2 c
theorem x_place (h : P (some (.int (S.1 1 12))) S) : mv_big layX sysX (d + 2) 161 [.ref 0] S P := ⟨20, x_faultPlace h⟩
theorem x_wordCount (h : P (some (.int (if S.1 1 11 = 0 then 0 else S.1 1 10))) S) : mv_big layX sysX (d + 1) 75 [.ref 1] S P := by
  refine ⟨20, ?_⟩
  refine ⟨fun c => ?_, fun c => ?_⟩
  · have c' : S.1 1 11 = 0 := c
    rw [if_pos c'] at h; exact h
  · have c' : ¬ S.1 1 11 = 0 := c
    rw [if_neg c'] at h; exact h
/-- the word at i -/
def xWd (S : mv_S) (i : Int32) : Int32 := if 0 ≤ i ∧ i < (if S.1 1 11 = 0 then 0 else S.1 1 10) then rAt 1500 (S.2.1 11) i else -1
theorem x_word {i : Int32} (h : P (some (.int (xWd S i))) S) : mv_big layX sysX (d + 2) 76 [.ref 1, .int i] S P := by
  refine ⟨40, ?_⟩
  unfold xWd at h
  refine ⟨fun c => ?_, fun c => ?_⟩
  · rw [if_neg (fun q => absurd q.1 (Int32.not_le.mpr c))] at h; exact h
  · refine x_wordCount ?_
    refine ⟨fun c2 => ?_, fun c2 => ?_⟩
    · rw [if_neg (fun q => absurd q.2 (Int32.not_lt.mpr c2))] at h; exact h
    · refine x_at_11 ?_
      rw [if_pos ⟨Int32.not_lt.mp c, Int32.not_le.mp c2⟩] at h; exact h
theorem x_code {i : Int32} (h : P (some (.int (xWd S i))) S) : mv_big layX sysX (d + 3) 162 [.ref 0, .int i] S P := ⟨20, x_word h⟩
theorem x_grant {n : Int32} (h1 : ¬ (1 ≤ n ∧ n ≤ 5000) → P (some (.int 0)) S) (h2 : 1 ≤ n ∧ n ≤ 5000 → P (some (.int 1)) S) : mv_big layX sysX (d + 1) 171 [.int n] S P := by
  refine ⟨20, ?_⟩
  refine ⟨fun c => ⟨Or.inl rfl, h1 (fun q => absurd q.1 (Int32.not_le.mpr c))⟩, fun c => ⟨fun c2 => ⟨Or.inl rfl, h1 (fun q => absurd q.2 (Int32.not_le.mpr c2))⟩, fun c2 => ⟨Or.inr rfl, h2 ⟨Int32.not_lt.mp c, Int32.not_lt.mp c2⟩⟩⟩⟩
theorem x_start0 {a : Int32} (h0 : S.1 1 11 = 0) (h : P (some (.int 6)) S) : mv_big layX sysX (d + 2) 163 [.ref 0, .int a] S P := by
  refine ⟨20, ?_⟩
  refine x_ready (Or.inl h0) ?_
  exact ⟨fun c => absurd h0 c, fun _ => h⟩
theorem x_run0 {n : Int32} (h0 : S.1 6 2 = 0) (h1 : ¬ (1 ≤ n ∧ n ≤ 5000) → P (some (.int (-2))) S) (h2 : 1 ≤ n ∧ n ≤ 5000 → P (some (.int 6)) S) : mv_big layX sysX (d + 2) 164 [.ref 0, .int n] S P := by
  refine ⟨20, ?_⟩
  refine x_grant (fun c => ?_) (fun c => ?_)
  · exact ⟨fun z => absurd rfl z, fun _ => h1 c⟩
  · refine ⟨fun _ => ?_, fun z => absurd (show (1 : Int32) = 0 from z) (by decide)⟩
    refine x_there (Or.inl h0) ?_
    exact ⟨fun _ => h2 c, fun z => absurd h0 z⟩
theorem x_interpret0 {a n : Int32} (h0 : S.1 1 11 = 0) (h1 : ¬ (1 ≤ n ∧ n ≤ 5000) → P (some (.int (-2))) S) (h2 : 1 ≤ n ∧ n ≤ 5000 → P (some (.int 6)) S) : mv_big layX sysX (d + 2) 165 [.ref 0, .int a, .int n] S P := by
  refine ⟨20, ?_⟩
  refine x_grant (fun c => ?_) (fun c => ?_)
  · exact ⟨fun z => absurd rfl z, fun _ => h1 c⟩
  · refine ⟨fun _ => ?_, fun z => absurd (show (1 : Int32) = 0 from z) (by decide)⟩
    refine x_ready (Or.inl h0) ?_
    exact ⟨fun z => absurd h0 z, fun _ => h2 c⟩
theorem x_outSize (h : P (some (.int (S.1 4 14))) S) : mv_big layX sysX (d + 2) 166 [.ref 0] S P := ⟨20, x_toldCount h⟩
def xTold (S : mv_S) (i : Int32) : Int32 := if 0 ≤ i ∧ i < S.1 4 14 then rAt 300 (S.2.1 31) i else 0
theorem x_told {i : Int32} (h : P (some (.int (xTold S i))) S) : mv_big layX sysX (d + 2) 100 [.ref 4, .int i] S P := by
  refine ⟨40, ?_⟩
  unfold xTold at h
  refine ⟨fun c => ?_, fun c => ⟨fun c2 => ?_, fun c2 => ?_⟩⟩
  · rw [if_neg (fun q => absurd q.1 (Int32.not_le.mpr c))] at h; exact h
  · have c2 : S.1 4 14 ≤ i := c2
    rw [if_neg (fun q => absurd q.2 (Int32.not_lt.mpr c2))] at h; exact h
  · have c2 : ¬ S.1 4 14 ≤ i := c2
    refine x_at_31 ?_
    rw [if_pos ⟨Int32.not_lt.mp c, Int32.not_le.mp c2⟩] at h; exact h
theorem x_out {i : Int32} (h : P (some (.int (xTold S i))) S) : mv_big layX sysX (d + 3) 167 [.ref 0, .int i] S P := ⟨20, x_told h⟩
def xVP (S : mv_S) (v : Int32) : Int32 := if v < 8 then v else v + S.1 4 13 * 6
def xMP (S : mv_S) (v : Int32) : Int32 := if v < 4 then v else v + S.1 4 13 * 2
theorem x_vplace {v : Int32} (h : P (some (.int (xVP S v))) S) : mv_big layX sysX (d + 1) 101 [.ref 4, .int v] S P := by
  refine ⟨20, ?_⟩
  unfold xVP at h
  refine ⟨fun c => ?_, fun c => ?_⟩
  · have c : (8 : Int32) ≤ v := c
    rw [if_neg (Int32.not_lt.mpr c)] at h; exact h
  · have c : ¬ (8 : Int32) ≤ v := c
    rw [if_pos (Int32.not_le.mp c)] at h; exact h
theorem x_mplace {v : Int32} (h : P (some (.int (xMP S v))) S) : mv_big layX sysX (d + 1) 102 [.ref 4, .int v] S P := by
  refine ⟨20, ?_⟩
  unfold xMP at h
  refine ⟨fun c => ?_, fun c => ?_⟩
  · have c : (4 : Int32) ≤ v := c
    rw [if_neg (Int32.not_lt.mpr c)] at h; exact h
  · have c : ¬ (4 : Int32) ≤ v := c
    rw [if_pos (Int32.not_le.mp c)] at h; exact h
theorem x_number {v : Int32} (h : P (some (.int (rAt 158 (S.2.1 23) (xVP S v)))) S) : mv_big layX sysX (d + 2) 103 [.ref 4, .int v] S P := ⟨20, x_vplace (x_at_23 h)⟩
theorem x_tree {v : Int32} (h : P (some (.int (rAt 54 (S.2.1 24) (xMP S v)))) S) : mv_big layX sysX (d + 2) 105 [.ref 4, .int v] S P := ⟨20, x_mplace (x_at_24 h)⟩
theorem x_setNumber {v x : Int32} (h : P none (sR S 23 158 (xVP S v) x)) : mv_big layX sysX (d + 2) 104 [.ref 4, .int v, .int x] S P := ⟨20, x_vplace (x_set_23 h)⟩
def xVar (S : mv_S) (v : Int32) : Int32 := if 0 ≤ v ∧ v < 8 then rAt 158 (S.2.1 23) (xVP S v) else 0
theorem x_variable {v : Int32} (h : P (some (.int (xVar S v))) S) : mv_big layX sysX (d + 3) 168 [.ref 0, .int v] S P := by
  refine ⟨40, ?_⟩
  unfold xVar at h
  refine ⟨fun c => ?_, fun c => ⟨fun c2 => ?_, fun c2 => ?_⟩⟩
  · rw [if_neg (fun q => absurd q.1 (Int32.not_le.mpr c))] at h; exact h
  · have c2 : (8 : Int32) ≤ v := c2
    rw [if_neg (fun q => absurd q.2 (Int32.not_lt.mpr c2))] at h; exact h
  · have c2 : ¬ (8 : Int32) ≤ v := c2
    refine x_number ?_
    rw [if_pos ⟨Int32.not_lt.mp c, Int32.not_le.mp c2⟩] at h; exact h
end LX
end
section
/-! THE CLASS'S METHODS: cells by number, an empty tree, an empty program -/
/-- a cell's part: 0 beside the heap -/
def xC (S : mv_S) (q : Nat) (c : Int32) : Int32 := if 0 < c ∧ c < 803 then S.2.1 q c.toNatClampNeg else 0
def xTok (S : mv_S) (i : Int32) : Int32 := if 0 ≤ i ∧ i < S.1 1 9 ∧ i < 700 then S.2.1 8 i.toNatClampNeg else -1
theorem vp_pos {i : Int32} {n : Nat} (hn : n < 2 ^ 31) (h0 : 0 < i) (h1 : i < Int32.ofNat n) : vp_in i n := rIn_vp hn ⟨Int32.le_of_lt h0, h1⟩
section LX
variable {d : Nat} {S : mv_S} {P : Option Value → mv_S → Prop}
theorem x_key {c : Int32} (h : P (some (.int (xC S 15 c))) S) : mv_big layX sysX (d + 1) 2 [.ref 3, .int c] S P := by
  refine ⟨20, ?_⟩
  unfold xC at h
  refine ⟨fun c1 => ?_, fun c1 => ⟨fun c2 => ?_, fun c2 => ⟨?_, ?_⟩⟩⟩
  · have c1 : c ≤ 0 := c1
    rw [if_neg (fun q => absurd q.1 (Int32.not_lt.mpr c1))] at h; exact h
  · have c2 : (803 : Int32) ≤ c := c2
    rw [if_neg (fun q => absurd q.2 (Int32.not_lt.mpr c2))] at h; exact h
  · exact vp_pos (by decide) (Int32.not_le.mp c1) (Int32.not_le.mp c2)
  · rw [if_pos ⟨Int32.not_le.mp c1, Int32.not_le.mp c2⟩] at h; exact h
theorem x_value {c : Int32} (h : P (some (.int (xC S 16 c))) S) : mv_big layX sysX (d + 1) 3 [.ref 3, .int c] S P := by
  refine ⟨20, ?_⟩
  unfold xC at h
  refine ⟨fun c1 => ?_, fun c1 => ⟨fun c2 => ?_, fun c2 => ⟨?_, ?_⟩⟩⟩
  · have c1 : c ≤ 0 := c1
    rw [if_neg (fun q => absurd q.1 (Int32.not_lt.mpr c1))] at h; exact h
  · have c2 : (803 : Int32) ≤ c := c2
    rw [if_neg (fun q => absurd q.2 (Int32.not_lt.mpr c2))] at h; exact h
  · exact vp_pos (by decide) (Int32.not_le.mp c1) (Int32.not_le.mp c2)
  · rw [if_pos ⟨Int32.not_le.mp c1, Int32.not_le.mp c2⟩] at h; exact h
theorem x_token {i : Int32} (h : P (some (.int (xTok S i))) S) : mv_big layX sysX (d + 1) 57 [.ref 1, .int i] S P := by
  refine ⟨20, ?_⟩
  unfold xTok at h
  refine ⟨fun c1 => ?_, fun c1 => ⟨fun c2 => ?_, fun c2 => ⟨fun c3 => ?_, fun c3 => ⟨?_, ?_⟩⟩⟩⟩
  · rw [if_neg (fun q => absurd q.1 (Int32.not_le.mpr c1))] at h; exact h
  · have c2 : S.1 1 9 ≤ i := c2
    rw [if_neg (fun q => absurd q.2.1 (Int32.not_lt.mpr c2))] at h; exact h
  · have c3 : (700 : Int32) ≤ i := c3
    rw [if_neg (fun q => absurd q.2.2 (Int32.not_lt.mpr c3))] at h; exact h
  · exact rIn_vp (by decide) (rIn_of c1 c3)
  · have c2 : ¬ S.1 1 9 ≤ i := c2
    rw [if_pos ⟨Int32.not_lt.mp c1, Int32.not_le.mp c2, Int32.not_le.mp c3⟩] at h; exact h
theorem x_fail {w : Int32} (h : P (some (.int 0)) (mv_pf S 2 2 w)) : mv_big layX sysX (d + 1) 27 [.ref 2, .int w] S P := ⟨20, Or.inl rfl, h⟩
theorem x_functions0 (h0 : ¬ xTok S (S.1 2 1) = 10) (h : P (some (.int 1)) S) : mv_big layX sysX (d + 2) 28 [.ref 2] S P := by
  refine ⟨60, ?_⟩
  refine ⟨fun c => absurd (show (8 : Int32) < 0 from c) (by decide), fun c => ?_⟩
  refine x_token ?_
  exact ⟨fun _ => ⟨Or.inr rfl, h⟩, fun z => absurd z h0⟩
theorem x_mainPart0 (h0 : ¬ xTok S (S.1 2 1) = 11) (h : P (some (.int 0)) (mv_pf S 2 2 (-11))) : mv_big layX sysX (d + 2) 29 [.ref 2] S P := by
  refine ⟨60, ?_⟩
  refine x_token ?_
  refine ⟨fun z => absurd z h0, fun _ => ?_⟩
  exact x_fail ⟨Or.inl rfl, h⟩
/-- what a compile without tokens leaves -/
def xT0 (S : mv_S) : mv_S := mv_pf (mv_pf (mv_pf (mv_pf (xFC S) 2 1 0) 2 3 0) 2 2 (-11)) 1 12 0
theorem x_translate0 (h0 : S.1 1 9 = 0) (h : P (some (.int (-11))) (xT0 S)) : mv_big layX sysX (d + 3) 26 [.ref 2] S P := by
  have ht : ∀ i, xTok (mv_pf (mv_pf (xFC S) 2 1 0) 2 3 0) i = -1 := by
    intro i
    unfold xTok
    rw [if_neg]
    rintro ⟨a, b, -⟩
    have b' : i < S.1 1 9 := b
    rw [h0] at b'
    exact absurd a (Int32.not_le.mpr b')
  refine ⟨60, ?_⟩
  refine x_forgetCode ?_
  refine ⟨Or.inl rfl, ?_⟩
  refine x_functions0 (fun z => absurd ((ht _).symm.trans z) (by decide)) ?_
  refine ⟨fun z => absurd (show (1 : Int32) = 0 from z) (by decide), fun _ => ?_⟩
  refine x_mainPart0 (fun z => absurd ((ht _).symm.trans z) (by decide)) ?_
  refine ⟨fun z => absurd rfl z, fun _ => ?_⟩
  refine x_refuse ?_
  exact h
theorem x_compile0 (h0 : S.1 1 9 = 0) (h : P (some (.int (-11))) (xT0 (xLR S))) : mv_big layX sysX (d + 4) 160 [.ref 0] S P := by
  refine ⟨20, ?_⟩
  refine x_leaveRun ?_
  exact x_translate0 h0 h
theorem x_reach0 (h : P none S) : mv_big layX sysX (d + 1) 19 [.ref 3, .int 0] S P := by
  refine ⟨60, ?_⟩
  refine ⟨fun c => absurd (show (2409 : Int32) ≤ 0 from c) (by decide), fun _ => ⟨fun z => absurd rfl z, fun _ => ⟨fun _ => h, fun z => absurd (show (0 : Int32) ≤ 0 by decide) z⟩⟩⟩
/-- what beginReaching leaves -/
def xBR (S : mv_S) : mv_S := mv_pf (mv_pf S 3 10 (S.1 3 10 + 1)) 3 11 0
theorem x_size0 (h : P (some (.int 0)) (xBR S)) : mv_big layX sysX (d + 2) 21 [.ref 3, .int 0] S P := by
  refine ⟨20, ?_⟩
  refine x_beginReaching ?_
  refine x_reach0 ?_
  exact h
theorem x_least0 {b : Int64} (h : P (some (.int 0)) S) : mv_big layX sysX (d + 1) 23 [.ref 3, .int 0, .long b] S P := by
  refine ⟨60, ?_⟩
  exact ⟨fun c => absurd (show (803 : Int32) ≤ 0 from c) (by decide), fun _ => ⟨fun _ => h, fun z => absurd rfl z⟩⟩
theorem x_nth0 {i : Int32} (h : P (some (.int 0)) S) : mv_big layX sysX (d + 2) 25 [.ref 3, .int 0, .int i] S P := by
  refine ⟨60, ?_⟩
  refine ⟨fun c => ?_, fun c => h⟩
  refine x_least0 ?_
  exact ⟨fun _ => h, fun _ => ⟨fun _ => h, fun z => absurd rfl z⟩⟩
theorem xC0 (S : mv_S) (q : Nat) : xC S q 0 = 0 := rfl
/-- map() where all trees are empty -/
theorem x_map0 {m w i : Int32} (h0 : ∀ j, rAt 54 (S.2.1 24) j = 0) (h1 : (0 ≤ m ∧ m < 4) ∧ (0 ≤ w ∧ w < 4) → ∀ S', P (some (.int 0)) S') (h2 : ¬ ((0 ≤ m ∧ m < 4) ∧ (0 ≤ w ∧ w < 4)) → P (some (.int (-2))) S) : mv_big layX sysX (d + 3) 169 [.ref 0, .int m, .int w, .int i] S P := by
  refine ⟨60, ?_⟩
  refine ⟨fun c => h2 (fun q => absurd q.1.1 (Int32.not_le.mpr c)), fun c => ⟨fun c2 => ?_, fun c2 => h2 (fun q => c2 q.1.2)⟩⟩
  refine x_tree ?_
  rw [h0]
  have hm : 0 ≤ m ∧ m < 4 := ⟨Int32.not_lt.mp c, c2⟩
  refine ⟨fun e => ?_, fun e0 => ⟨fun e => ?_, fun e1 => ⟨fun e => ?_, fun e2 => ⟨fun e => ?_, fun e3 => ?_⟩⟩⟩⟩
  · have e : w = 0 := e
    exact x_size0 (h1 ⟨hm, by rw [e]; decide⟩ _)
  · have e : w = 1 := e
    refine x_nth0 (x_key ?_)
    rw [xC0]
    exact h1 ⟨hm, by rw [e]; decide⟩ _
  · have e : w = 2 := e
    refine x_nth0 (x_value ?_)
    rw [xC0]
    exact h1 ⟨hm, by rw [e]; decide⟩ _
  · have e : w = 3 := e
    refine x_key ?_
    rw [xC0]
    exact h1 ⟨hm, by rw [e]; decide⟩ _
  · have g0 : ¬ w = 0 := e0
    have g1 : ¬ w = 1 := e1
    have g2 : ¬ w = 2 := e2
    have g3 : ¬ w = 3 := e3
    refine h2 (fun q => ?_)
    obtain ⟨j, hj, rfl⟩ := vp_in_of (rIn_vp (n := 4) (by decide) q.2) (by decide)
    match j, hj with
    | 0, _ => exact g0 rfl
    | 1, _ => exact g1 rfl
    | 2, _ => exact g2 rfl
    | 3, _ => exact g3 rfl
end LX
end
section
/-! THE REFERENCE'S METHODS: what needs no tree and no program -/
section LY
variable {d : Nat} {S : mv_S} {P : Option Value → mv_S → Prop}
theorem y_in {v a b : Int32} (h1 : ¬ (a ≤ v ∧ v ≤ b) → P (some (.int 0)) S) (h2 : a ≤ v ∧ v ≤ b → P (some (.int 1)) S) : mv_big layY sysY (d + 1) 0 [.int v, .int a, .int b] S P := by
  refine ⟨20, ?_⟩
  refine ⟨fun c => ⟨Or.inl rfl, h1 (fun q => absurd q.1 (Int32.not_le.mpr c))⟩, fun c => ⟨fun c2 => ⟨Or.inl rfl, h1 (fun q => absurd q.2 (Int32.not_le.mpr c2))⟩, fun c2 => ⟨Or.inr rfl, h2 ⟨Int32.not_lt.mp c, Int32.not_lt.mp c2⟩⟩⟩⟩
/-- what clearOwn leaves, c calls deep -/
def yCO (S : mv_S) (c : Nat) : mv_S := mv_pr (mv_pr (mv_pr (stR S 21 (rFill (S.2.1 21) (6 * c) (6 * c + 6) 0)) 22 (2 * c) 0) 22 (2 * c + 1) 0) 24 c (S.1 0 48)
theorem y_clearOwn {c : Nat} (hc : S.1 0 43 = nI c) (hc2 : c < 25) (h : P none (yCO S c)) : mv_big layY sysY (d + 1) 45 [.ref 0] S P := by
  have key := mv_loop (T := tT11) (nL := 2) (z := none) (il := mX11_clearOwn.2.2.2.2.2.2.2) (lay := layY) (sys := sysY) (d := d) (P := P) (pc := 2) 40 (fun k lv st S' => ∃ i, i + k = 6 ∧ lv = [(1, .int (nI i)), (0, .ref 0)] ∧ st = [] ∧ S' = stR S 21 (rFill (S.2.1 21) (6 * c) (6 * c + i) 0)) (by
      rintro n lv st S' ⟨i, hk, rfl, rfl, rfl⟩
      obtain rfl : i = 6 := hk
      have e0 : (2 : Int32) * S.1 0 43 = nI (2 * c) := by rw [hc]; exact pk_mul 2 c
      have e1 : (2 : Int32) * S.1 0 43 + 1 = nI (2 * c + 1) := by rw [e0]; exact nI_1 _
      refine ⟨fun _ => ⟨?_, ?_, ?_, ?_⟩, fun z => absurd (show nI 6 ≤ nI 6 by decide) z⟩
      · show vp_in ((2 : Int32) * S.1 0 43) 50
        rw [e0]; exact vp_in_nI (by omega) (by omega)
      · show vp_in ((2 : Int32) * S.1 0 43 + 1) 50
        rw [e1]; exact vp_in_nI (by omega) (by omega)
      · show vp_in (S.1 0 43) 25
        rw [hc]; exact vp_in_nI (by omega) (by omega)
      · show P none (mv_pr (mv_pr (mv_pr (stR S 21 (rFill (S.2.1 21) (6 * c) (6 * c + 6) 0)) 22 ((2 : Int32) * S.1 0 43).toNatClampNeg 0) 22 ((2 : Int32) * S.1 0 43 + 1).toNatClampNeg 0) 24 (S.1 0 43).toNatClampNeg (S.1 0 48))
        rw [e1, e0, hc, nI_clamp (by omega), nI_clamp (by omega), nI_clamp (by omega)]
        exact h) (by
      rintro k n lv st S' ⟨i, hk, rfl, rfl, rfl⟩ ih
      have e0 : (6 : Int32) * S.1 0 43 + nI i = nI (6 * c + i) := by rw [hc, show (6 : Int32) * nI c = nI (6 * c) from pk_mul 6 c, nI_add]
      refine ⟨fun z => ?_, fun z => ⟨?_, ?_⟩⟩
      · have c' : nI 6 ≤ nI i := z
        exact absurd ((nI_leI (by omega) (by omega)).mp c') (by omega)
      · show vp_in ((6 : Int32) * S.1 0 43 + nI i) 150
        rw [e0]; exact vp_in_nI (by omega) (by omega)
      · have hi := ih (n + 25) [(1, .int (nI (i + 1))), (0, .ref 0)] [] (stR S 21 (rFill (S.2.1 21) (6 * c) (6 * c + (i + 1)) 0)) (by omega) ⟨i + 1, by omega, rfl, rfl, rfl⟩
        rw [show 6 * c + (i + 1) = (6 * c + i) + 1 by omega, ← stR_fill S 21 _ (Nat.le_add_right _ _) (by omega) 0, ← e0] at hi
        exact ws_iinc (y := nI (i + 1)) rfl rfl rfl (nI_succ i).symm rfl rfl (ws_goto (t := 2) rfl (by decide) hi))
  refine ⟨402, ?_⟩
  refine ws_iconst (x := nI 0) rfl rfl rfl (ws_istore_n rfl rfl rfl rfl ?_)
  exact key 6 400 [(1, .int (nI 0)), (0, .ref 0)] [] S (by omega) ⟨0, rfl, rfl, rfl, by rw [Nat.add_zero, rFill_0, stR_self]⟩
/-- what clear leaves -/
def yCL (S : mv_S) (a : Int32) : mv_S := yCO (mv_pf (mv_pf (mv_pf (stR (mv_pr (stR S 19 (rFill (S.2.1 19) 0 8 0)) 19 0 a) 20 (rFill (S.2.1 20) 0 4 0)) 0 43 0) 0 48 0) 0 50 0) 0
theorem y_clear {a : Int32} (h : P none (yCL S a)) : mv_big layY sysY (d + 2) 44 [.ref 0, .int a] S P := by
  obtain ⟨S1, hS1⟩ : ∃ S1, S1 = mv_pr (stR S 19 (rFill (S.2.1 19) 0 8 0)) 19 0 a := ⟨_, rfl⟩
  have key2 := mv_loop (T := tT11) (nL := 3) (z := none) (il := mX11_clear.2.2.2.2.2.2.2) (lay := layY) (sys := sysY) (d := d + 1) (P := P) (pc := 30) 40 (fun k lv st S' => ∃ i, i + k = 4 ∧ lv = [(2, .int (nI i)), (0, .ref 0), (1, .int a)] ∧ st = [] ∧ S' = stR S1 20 (rFill (S1.2.1 20) 0 i 0)) (by
      rintro n lv st S' ⟨i, hk, rfl, rfl, rfl⟩
      obtain rfl : i = 4 := hk
      refine ⟨fun _ => ?_, fun z => absurd (show nI 4 ≤ nI 4 by decide) z⟩
      refine y_clearOwn (c := 0) rfl (by omega) ?_
      subst hS1
      exact h) (by
      rintro k n lv st S' ⟨i, hk, rfl, rfl, rfl⟩ ih
      refine ⟨fun z => ?_, fun z => ⟨vp_in_nI (by omega) (by omega), ?_⟩⟩
      · have c' : nI 4 ≤ nI i := z
        exact absurd ((nI_leI (by omega) (by omega)).mp c') (by omega)
      · have hi := ih (n + 30) [(2, .int (nI (i + 1))), (0, .ref 0), (1, .int a)] [] (stR S1 20 (rFill (S1.2.1 20) 0 (i + 1) 0)) (by omega) ⟨i + 1, by omega, rfl, rfl, rfl⟩
        rw [← stR_fill S1 20 _ (Nat.zero_le i) (by omega) 0] at hi
        exact ws_iinc (y := nI (i + 1)) rfl rfl rfl (nI_succ i).symm rfl rfl (ws_goto (t := 30) rfl (by decide) hi))
  have key1 := mv_loop (T := tT11) (nL := 3) (z := none) (il := mX11_clear.2.2.2.2.2.2.2) (lay := layY) (sys := sysY) (d := d + 1) (P := P) (pc := 2) 300 (fun k lv st S' => ∃ i, i + k = 8 ∧ lv = [(2, .int (nI i)), (0, .ref 0), (1, .int a)] ∧ st = [] ∧ S' = stR S 19 (rFill (S.2.1 19) 0 i 0)) (by
      rintro n lv st S' ⟨i, hk, rfl, rfl, rfl⟩
      obtain rfl : i = 8 := hk
      refine ⟨fun _ => ⟨vp_in_nI (n := 0) (by omega) (by omega), ?_⟩, fun z => absurd (show nI 8 ≤ nI 8 by decide) z⟩
      refine ws_iconst (x := nI 0) rfl rfl rfl (ws_istore_n rfl rfl rfl rfl ?_)
      have hk2 := key2 4 (n + 290) [(2, .int (nI 0)), (0, .ref 0), (1, .int a)] [] S1 (by omega) ⟨0, rfl, rfl, rfl, by rw [rFill_0, stR_self]⟩
      rw [hS1] at hk2
      exact hk2) (by
      rintro k n lv st S' ⟨i, hk, rfl, rfl, rfl⟩ ih
      refine ⟨fun z => ?_, fun z => ⟨vp_in_nI (by omega) (by omega), ?_⟩⟩
      · have c' : nI 8 ≤ nI i := z
        exact absurd ((nI_leI (by omega) (by omega)).mp c') (by omega)
      · have hi := ih (n + 290) [(2, .int (nI (i + 1))), (0, .ref 0), (1, .int a)] [] (stR S 19 (rFill (S.2.1 19) 0 (i + 1) 0)) (by omega) ⟨i + 1, by omega, rfl, rfl, rfl⟩
        rw [← stR_fill S 19 _ (Nat.zero_le i) (by omega) 0] at hi
        exact ws_iinc (y := nI (i + 1)) rfl rfl rfl (nI_succ i).symm rfl rfl (ws_goto (t := 2) rfl (by decide) hi))
  refine ⟨3002, ?_⟩
  refine ws_iconst (x := nI 0) rfl rfl rfl (ws_istore_n rfl rfl rfl rfl ?_)
  exact key1 8 3000 [(2, .int (nI 0)), (0, .ref 0), (1, .int a)] [] S (by omega) ⟨0, rfl, rfl, rfl, by rw [rFill_0, stR_self]⟩
end LY
end
section
section LY
variable {d : Nat} {S : mv_S} {P : Option Value → mv_S → Prop}
/-- what init leaves -/
def yIN (S : mv_S) (a b : Int32) : mv_S := mv_pf (mv_pf (mv_pf (mv_pf (yCL (mv_pf (mv_pf (mv_pf (mv_pf (mv_pf (mv_pf S 0 35 a) 0 36 b) 0 1 0) 0 4 (-1)) 0 5 0) 0 7 0) 0) 0 52 0) 0 33 0) 0 54 0) 0 53 6
theorem y_init {a b : Int32} (h1 : ¬ (1 ≤ b ∧ b ≤ 400) → P (some (.int (-2))) S) (h2 : 1 ≤ b → b ≤ 400 → P (some (.int 0)) (yIN S a b)) : mv_big layY sysY (d + 3) 1 [.ref 0, .int a, .int b] S P := by
  refine ⟨80, ?_⟩
  refine y_in (fun c => ?_) (fun c => ?_)
  · exact ⟨fun z => absurd rfl z, fun _ => h1 c⟩
  · refine ⟨fun _ => ?_, fun z => absurd (show (1 : Int32) = 0 from z) (by decide)⟩
    refine ⟨Or.inl rfl, ?_⟩
    refine y_clear ?_
    exact ⟨Or.inl rfl, h2 c.1 c.2⟩
/-- what a token more leaves -/
def yFD (S : mv_S) (k : Nat) (x : Int32) : mv_S := mv_pf (mv_pf (mv_pf (mv_pf (mv_pf (mv_pr S 1 k x) 0 1 (S.1 0 1 + 1)) 0 5 0) 0 54 0) 0 53 6) 0 4 (-1)
theorem y_feed {x : Int32} {k : Nat} (hk : S.1 0 1 = nI k) (hk2 : k ≤ 700) (h1 : k = 700 → P (some (.int (-3))) S) (h2 : k < 700 → P (some (.int (S.1 0 1 + 1))) (yFD S k x)) : mv_big layY sysY (d + 1) 2 [.ref 0, .int x] S P := by
  refine ⟨80, ?_⟩
  refine ⟨fun c => ?_, fun c => ?_⟩
  · have hlt : k < 700 := by
      rcases Nat.lt_or_ge k 700 with q | q
      · exact q
      · exact absurd (show S.1 0 1 = 700 by rw [hk, show k = 700 by omega]; rfl) c
    refine ⟨?_, Or.inl rfl, Or.inl rfl, ?_⟩
    · show vp_in (S.1 0 1) 700
      rw [hk]; exact vp_in_nI hlt (by decide)
    · have h3 := h2 hlt
      have e : (S.1 0 1).toNatClampNeg = k := by rw [hk]; exact nI_clamp (by omega)
      unfold yFD at h3
      rw [← e] at h3
      exact h3
  · have c : S.1 0 1 = 700 := c
    refine h1 ?_
    rw [hk] at c
    exact (nI_eq (by omega) (by decide)).mp (show nI k = nI 700 from c)
theorem y_place (h : P (some (.int (S.1 0 4))) S) : mv_big layY sysY (d + 1) 26 [.ref 0] S P := ⟨20, h⟩
theorem y_code0 {i : Int32} (h0 : S.1 0 5 = 0) (h : P (some (.int (-1))) S) : mv_big layY sysY (d + 1) 27 [.ref 0, .int i] S P := by
  refine ⟨40, ?_⟩
  exact ⟨fun _ => h, fun z => absurd h0 z⟩
theorem y_start0 {a : Int32} (h0 : S.1 0 5 = 0) (h : P (some (.int 6)) S) : mv_big layY sysY (d + 1) 46 [.ref 0, .int a] S P := by
  refine ⟨40, ?_⟩
  exact ⟨fun z => absurd h0 z, fun _ => h⟩
theorem y_run0 {n : Int32} (h0 : S.1 0 54 = 0) (h1 : ¬ (1 ≤ n ∧ n ≤ 5000) → P (some (.int (-2))) S) (h2 : 1 ≤ n ∧ n ≤ 5000 → P (some (.int 6)) S) : mv_big layY sysY (d + 2) 47 [.ref 0, .int n] S P := by
  refine ⟨40, ?_⟩
  refine y_in (fun c => ?_) (fun c => ?_)
  · exact ⟨fun z => absurd rfl z, fun _ => h1 c⟩
  · refine ⟨fun _ => ?_, fun z => absurd (show (1 : Int32) = 0 from z) (by decide)⟩
    exact ⟨fun z => absurd h0 z, fun _ => h2 c⟩
theorem y_interpret0 {a n : Int32} (h0 : S.1 0 5 = 0) (h1 : ¬ (1 ≤ n ∧ n ≤ 5000) → P (some (.int (-2))) S) (h2 : 1 ≤ n ∧ n ≤ 5000 → P (some (.int 6)) S) : mv_big layY sysY (d + 2) 48 [.ref 0, .int a, .int n] S P := by
  refine ⟨40, ?_⟩
  refine y_in (fun c => ?_) (fun c => ?_)
  · exact ⟨fun z => absurd rfl z, fun _ => h1 c⟩
  · refine ⟨fun _ => ?_, fun z => absurd (show (1 : Int32) = 0 from z) (by decide)⟩
    exact ⟨fun z => absurd h0 z, fun _ => h2 c⟩
theorem y_outSize (h : P (some (.int (S.1 0 50))) S) : mv_big layY sysY (d + 1) 69 [.ref 0] S P := ⟨20, h⟩
theorem y_out {i : Int32} {k : Nat} (hk : S.1 0 50 = nI k) (hk2 : k ≤ 300) (h1 : ¬ (∃ j, j < k ∧ i = nI j) → P (some (.int 0)) S) (h2 : ∀ j, j < k → i = nI j → P (some (.int (S.2.1 29 j))) S) : mv_big layY sysY (d + 2) 70 [.ref 0, .int i] S P := by
  have hcmp : (0 ≤ i ∧ i ≤ S.1 0 50 - 1) ↔ ∃ j, j < k ∧ i = nI j := by
    rw [hk]
    constructor
    · rintro ⟨a, b⟩
      have b' : i < nI k := by
        rw [Int32.le_iff_toInt_le, show (1 : Int32) = nI 1 from rfl, pk_sub_toInt (by omega) (by omega)] at b
        rw [Int32.lt_iff_toInt_lt, nI_toInt (by omega)]
        omega
      obtain ⟨j, hj, rfl⟩ := vp_in_of (rIn_vp (n := k) (by omega) ⟨a, b'⟩) (by omega)
      exact ⟨j, hj, rfl⟩
    · rintro ⟨j, hj, rfl⟩
      refine ⟨nI_pos' (by omega), ?_⟩
      rw [Int32.le_iff_toInt_le, show (1 : Int32) = nI 1 from rfl, pk_sub_toInt (by omega) (by omega), nI_toInt (by omega)]
      omega
  refine ⟨40, ?_⟩
  refine y_in (fun c => ?_) (fun c => ?_)
  · exact ⟨fun _ => h1 (fun q => c (hcmp.mpr q)), fun z => absurd rfl z⟩
  · refine ⟨fun z => absurd (show (1 : Int32) = 0 from z) (by decide), fun _ => ?_⟩
    obtain ⟨j, hj, rfl⟩ := hcmp.mp c
    refine ⟨vp_in_nI (by omega) (by omega), ?_⟩
    have h3 : P (some (.int (S.2.1 29 (nI j).toNatClampNeg))) S := by rw [nI_clamp (by omega)]; exact h2 j hj rfl
    exact h3
theorem y_variable {v : Int32} (h1 : ¬ (0 ≤ v ∧ v < 8) → P (some (.int 0)) S) (h2 : 0 ≤ v ∧ v < 8 → P (some (.int (S.2.1 19 v.toNatClampNeg))) S) : mv_big layY sysY (d + 2) 71 [.ref 0, .int v] S P := by
  have hcmp : (0 ≤ v ∧ v ≤ 7) ↔ (0 ≤ v ∧ v < 8) := by
    constructor
    · rintro ⟨a, b⟩
      refine ⟨a, ?_⟩
      rw [Int32.le_iff_toInt_le] at b
      rw [Int32.lt_iff_toInt_lt]
      have e1 : (7 : Int32).toInt = 7 := by decide
      have e2 : (8 : Int32).toInt = 8 := by decide
      omega
    · rintro ⟨a, b⟩
      refine ⟨a, ?_⟩
      rw [Int32.lt_iff_toInt_lt] at b
      rw [Int32.le_iff_toInt_le]
      have e1 : (7 : Int32).toInt = 7 := by decide
      have e2 : (8 : Int32).toInt = 8 := by decide
      omega
  refine ⟨40, ?_⟩
  refine y_in (fun c => ?_) (fun c => ?_)
  · exact ⟨fun _ => h1 (fun q => c (hcmp.mpr q)), fun z => absurd rfl z⟩
  · refine ⟨fun z => absurd (show (1 : Int32) = 0 from z) (by decide), fun _ => ?_⟩
    have c := hcmp.mp c
    exact ⟨rIn_vp (by decide) c, h2 c⟩
theorem y_token {k a : Nat} (ha : S.1 0 2 = nI a) (hk : S.1 0 1 = nI k) (hk2 : k ≤ 700) (ha2 : a < 2 ^ 31) (h : P (some (.int (if a < k then S.2.1 1 a else -1))) S) : mv_big layY sysY (d + 1) 3 [.ref 0] S P := by
  refine ⟨40, ?_⟩
  refine ⟨fun c => ?_, fun c => ?_⟩
  · have c : S.1 0 1 ≤ S.1 0 2 := c
    rw [ha, hk, nI_leI (by omega) (by omega)] at c
    rw [if_neg (by omega)] at h; exact h
  · have c : ¬ S.1 0 1 ≤ S.1 0 2 := c
    rw [ha, hk, nI_leI (by omega) (by omega)] at c
    rw [if_pos (by omega)] at h
    refine ⟨?_, ?_⟩
    · show vp_in (S.1 0 2) 700
      rw [ha]; exact vp_in_nI (by omega) (by omega)
    · have e : (S.1 0 2).toNatClampNeg = a := by rw [ha]; exact nI_clamp ha2
      rw [← e] at h; exact h
theorem y_wrong {w : Int32} (h1 : S.1 0 3 = 0 → P none (mv_pf (mv_pf S 0 3 w) 0 4 (S.1 0 2))) (h2 : ¬ S.1 0 3 = 0 → P none S) : mv_big layY sysY (d + 1) 4 [.ref 0, .int w] S P := by
  refine ⟨40, ?_⟩
  exact ⟨fun c => h2 c, fun c => h1 c⟩
end LY
end
section
/-! BOTH: counts, maps, a compile, where nothing is there -/
section LX
variable {d : Nat} {S : mv_S} {P : Option Value → mv_S → Prop}
theorem x_reachAll0 (hc : S.1 4 13 = 0) (ht : S.1 4 12 = 0) (hm : ∀ j, rAt 54 (S.2.1 24) j = 0) (h : P none (xBR S)) : mv_big layX sysX (d + 2) 123 [.ref 4] S P := by
  have key := mv_loop (T := tT5) (nL := 3) (z := none) (il := mX5_reachAll.2.2.2.2.2.2.2) (lay := layX) (sys := sysX) (d := d + 1) (P := P) (pc := 20) 40 (fun k lv st S' => ∃ i, i + k = 6 ∧ lv = [(2, .int (nI i)), (1, .int (nI 6)), (0, .ref 4)] ∧ st = [] ∧ S' = xBR S) (by
      rintro n lv st S' ⟨i, hk, rfl, rfl, rfl⟩
      obtain rfl : i = 6 := hk
      refine ⟨fun _ => ?_, fun z => absurd (show nI 6 ≤ nI 6 by decide) z⟩
      refine ⟨fun _ => h, fun z => absurd (show S.1 4 12 ≤ 0 by rw [ht]; decide) z⟩) (by
      rintro k n lv st S' ⟨i, hk, rfl, rfl, rfl⟩ ih
      refine ⟨fun z => absurd ((nI_leI (by omega) (by omega)).mp (show nI 6 ≤ nI i from z)) (by omega), fun z => ?_⟩
      refine x_at_24 ?_
      have e : rAt 54 ((xBR S).2.1 24) (nI i) = 0 := hm _
      rw [e]
      refine x_reach0 ?_
      have hi := ih (n + 28) [(2, .int (nI (i + 1))), (1, .int (nI 6)), (0, .ref 4)] [] (xBR S) (by omega) ⟨i + 1, by omega, rfl, rfl, rfl⟩
      exact ws_iinc (y := nI (i + 1)) rfl rfl rfl (nI_succ i).symm rfl rfl (ws_goto (t := 20) rfl (by decide) hi))
  refine ⟨414, ?_⟩
  refine ws_aload_n rfl rfl rfl (ws_getr rfl rfl rfl (ws_iv rfl rfl rfl ?_))
  refine x_beginReaching ?_
  refine ws_iconst (x := 4) rfl rfl rfl (ws_aload_n rfl rfl rfl (ws_geti (x := 0) rfl rfl hc rfl (ws_iconst (x := 1) rfl rfl rfl (ws_iadd (w := 1) rfl rfl rfl (ws_iconst (x := 2) rfl rfl rfl (ws_imul (w := 2) rfl rfl rfl (ws_iadd (w := nI 6) rfl rfl rfl (ws_istore_n rfl rfl rfl rfl (ws_iconst (x := nI 0) rfl rfl rfl (ws_istore_n rfl rfl rfl rfl ?_))))))))))
  exact key 6 400 [(2, .int (nI 0)), (1, .int (nI 6)), (0, .ref 4)] [] (xBR S) (by omega) ⟨0, rfl, rfl, rfl, rfl⟩
theorem x_live0 (hc : S.1 4 13 = 0) (ht : S.1 4 12 = 0) (hm : ∀ j, rAt 54 (S.2.1 24) j = 0) (h : P (some (.int 0)) (xBR S)) : mv_big layX sysX (d + 3) 122 [.ref 4] S P := by
  refine ⟨20, ?_⟩
  refine x_reachAll0 hc ht hm ?_
  refine x_reached ?_
  exact h
/-- count() where nothing is there -/
theorem x_count0 {w : Int32} (h0 : S.1 1 9 = 0) (h1 : S.1 1 11 = 0) (h2 : S.1 4 15 = 0) (hc : S.1 4 13 = 0) (ht : S.1 4 12 = 0) (hm : ∀ j, rAt 54 (S.2.1 24) j = 0) (h4 : S.1 4 16 = 0) (h6 : S.1 6 2 = 0)
    (k0 : 0 ≤ w ∧ w < 6 → ∀ S', P (some (.int 0)) S') (k6 : w = 6 → P (some (.int (-1))) S) (k7 : w = 7 → P (some (.int 6)) S) (k8 : ¬ (0 ≤ w ∧ w < 8) → P (some (.int (-2))) S) : mv_big layX sysX (d + 4) 170 [.ref 0, .int w] S P := by
  refine ⟨60, ?_⟩
  refine ⟨fun e => ?_, fun e0 => ⟨fun e => ?_, fun e1 => ⟨fun e => ?_, fun e2 => ⟨fun e => ?_, fun e3 => ⟨fun e => ?_, fun e4 => ⟨fun e => ?_, fun e5 => ⟨fun e => ?_, fun e6 => ⟨fun e => ?_, fun e7 => ?_⟩⟩⟩⟩⟩⟩⟩⟩
  · have e : w = 0 := e
    refine x_size ?_
    rw [h0]; exact k0 (by rw [e]; decide) _
  · have e : w = 1 := e
    refine x_wordCount ?_
    rw [if_pos h1]; exact k0 (by rw [e]; decide) _
  · have e : w = 2 := e
    refine x_steps ?_
    rw [h2]; exact k0 (by rw [e]; decide) _
  · have e : w = 3 := e
    refine x_live0 hc ht hm ?_
    exact k0 (by rw [e]; decide) _
  · have e : w = 4 := e
    refine x_mostMade ?_
    rw [h4]; exact k0 (by rw [e]; decide) _
  · have e : w = 5 := e
    refine x_calls ?_
    rw [hc]; exact k0 (by rw [e]; decide) _
  · have e : w = 6 := e
    refine x_there (Or.inl h6) ?_
    exact ⟨fun _ => k6 e, fun z => absurd h6 z⟩
  · have e : w = 7 := e
    refine x_there (Or.inl h6) ?_
    exact ⟨fun _ => k7 e, fun z => absurd h6 z⟩
  · refine k8 (fun q => ?_)
    obtain ⟨j, hj, rfl⟩ := vp_in_of (rIn_vp (n := 8) (by decide) q) (by decide)
    match j, hj with
    | 0, _ => exact e0 rfl
    | 1, _ => exact e1 rfl
    | 2, _ => exact e2 rfl
    | 3, _ => exact e3 rfl
    | 4, _ => exact e4 rfl
    | 5, _ => exact e5 rfl
    | 6, _ => exact e6 rfl
    | 7, _ => exact e7 rfl
end LX
section LY
variable {d : Nat} {S : mv_S} {P : Option Value → mv_S → Prop}
theorem y_mark0 (h : P none S) : mv_big layY sysY (d + 1) 30 [.ref 0, .int 0] S P := by
  refine ⟨60, ?_⟩
  exact ⟨fun _ => ⟨fun _ => h, fun z => absurd (show (0 : Int32) ≤ 0 by decide) z⟩, fun z => absurd (show (0 : Int32) ≤ 0 by decide) z⟩
theorem y_findLive0 (hm : ∀ j, j < 4 → S.2.1 20 j = 0) (hh : S.1 0 48 = 0) (h : ∀ S', S'.1 = (mv_pf S 0 30 0).1 → P none S') : mv_big layY sysY (d + 2) 31 [.ref 0, .int 0] S P := by
  obtain ⟨S1, hS1⟩ : ∃ S1, S1 = mv_pf S 0 30 0 := ⟨_, rfl⟩
  have key2 := mv_loop (T := tT11) (nL := 3) (z := none) (il := mX11_findLive.2.2.2.2.2.2.2) (lay := layY) (sys := sysY) (d := d + 1) (P := P) (pc := 29) 80 (fun k lv st S' => ∃ i, i + k = 4 ∧ lv = [(2, .int (nI i)), (0, .ref 0), (1, .int 0)] ∧ st = [] ∧ S' = stR S1 17 (rFill (S1.2.1 17) 0 900 0)) (by
      rintro n lv st S' ⟨i, hk, rfl, rfl, rfl⟩
      obtain rfl : i = 4 := hk
      refine ⟨fun _ => ?_, fun z => absurd (show nI 4 ≤ nI 4 by decide) z⟩
      have h' := h (stR S1 17 (rFill (S1.2.1 17) 0 900 0)) (by rw [hS1]; rfl)
      have hh' : (stR S1 17 (rFill (S1.2.1 17) 0 900 0)).1 0 48 = 0 := by rw [hS1]; exact hh
      have fin : (S1.1 0 48 ≤ 0 → P none (stR S1 17 (rFill (S1.2.1 17) 0 900 0))) := fun _ => h'
      refine ⟨fun _ => ⟨fun _ => h', fun z => absurd (show (stR S1 17 (rFill (S1.2.1 17) 0 900 0)).1 0 48 ≤ 0 by rw [hh']; decide) z⟩, fun _ => ⟨fun _ => ⟨fun _ => h', fun z => absurd (show (stR S1 17 (rFill (S1.2.1 17) 0 900 0)).1 0 48 ≤ 0 by rw [hh']; decide) z⟩, fun z => absurd rfl z⟩⟩) (by
      rintro k n lv st S' ⟨i, hk, rfl, rfl, rfl⟩ ih
      refine ⟨fun z => absurd ((nI_leI (by omega) (by omega)).mp (show nI 4 ≤ nI i from z)) (by omega), fun z => ⟨vp_in_nI (by omega) (by omega), ?_⟩⟩
      have e : (stR S1 17 (rFill (S1.2.1 17) 0 900 0)).2.1 20 (nI i).toNatClampNeg = 0 := by rw [nI_clamp (by omega), hS1]; exact hm i (by omega)
      rw [e]
      refine y_mark0 ?_
      have hi := ih (n + 69) [(2, .int (nI (i + 1))), (0, .ref 0), (1, .int 0)] [] (stR S1 17 (rFill (S1.2.1 17) 0 900 0)) (by omega) ⟨i + 1, by omega, rfl, rfl, rfl⟩
      exact ws_iinc (y := nI (i + 1)) rfl rfl rfl (nI_succ i).symm rfl rfl (ws_goto (t := 29) rfl (by decide) hi))
  have key1 := mv_loop (T := tT11) (nL := 3) (z := none) (il := mX11_findLive.2.2.2.2.2.2.2) (lay := layY) (sys := sysY) (d := d + 1) (P := P) (pc := 7) 500 (fun k lv st S' => ∃ i, i + k = 900 ∧ lv = [(2, .int (nI i)), (0, .ref 0), (1, .int 0)] ∧ st = [] ∧ S' = stR S1 17 (rFill (S1.2.1 17) 0 i 0)) (by
      rintro n lv st S' ⟨i, hk, rfl, rfl, rfl⟩
      obtain rfl : i = 900 := hk
      refine ws_iload_n rfl rfl rfl (ws_sipush (x := nI 900) rfl rfl rfl (ws_i rfl ⟨fun _ => ?_, fun z => absurd (show nI 900 ≤ nI 900 by decide) z⟩))
      refine ws_iconst (x := nI 0) rfl rfl rfl (ws_istore_n rfl rfl rfl rfl ?_)
      exact key2 4 (n + 495) [(2, .int (nI 0)), (0, .ref 0), (1, .int 0)] [] (stR S1 17 (rFill (S1.2.1 17) 0 900 0)) (by omega) ⟨0, rfl, rfl, rfl, rfl⟩) (by
      rintro k n lv st S' ⟨i, hk, rfl, rfl, rfl⟩ ih
      refine ⟨fun z => ?_, fun z => ⟨Or.inl rfl, vp_in_nI (by omega) (by omega), ?_⟩⟩
      · have c' : nI 900 ≤ nI i := z
        exact absurd ((nI_leI (by omega) (by omega)).mp c') (by omega)
      · have hi := ih (n + 490) [(2, .int (nI (i + 1))), (0, .ref 0), (1, .int 0)] [] (stR S1 17 (rFill (S1.2.1 17) 0 (i + 1) 0)) (by omega) ⟨i + 1, by omega, rfl, rfl, rfl⟩
        rw [← stR_fill S1 17 _ (Nat.zero_le i) (by omega) 0] at hi
        exact ws_iinc (y := nI (i + 1)) rfl rfl rfl (nI_succ i).symm rfl rfl (ws_goto (t := 7) rfl (by decide) hi))
  refine ⟨500005, ?_⟩
  refine ws_aload_n rfl rfl rfl (ws_iconst (x := 0) rfl rfl rfl (ws_puti rfl rfl rfl ?_))
  refine ws_iconst (x := nI 0) rfl rfl rfl (ws_istore_n rfl rfl rfl rfl ?_)
  rw [← hS1]
  exact key1 900 500000 [(2, .int (nI 0)), (0, .ref 0), (1, .int 0)] [] S1 (by omega) ⟨0, rfl, rfl, rfl, by rw [rFill_0, stR_self]⟩
end LY
end
section
/-! THE REFERENCE: counts, maps, a compile, where nothing is there -/
section LY
variable {d : Nat} {S : mv_S} {P : Option Value → mv_S → Prop}
theorem y_count0 {w : Int32} (h0 : S.1 0 1 = 0) (h1 : S.1 0 5 = 0) (h2 : S.1 0 52 = 0) (hm : ∀ j, j < 4 → S.2.1 20 j = 0) (hh : S.1 0 48 = 0) (h4 : S.1 0 33 = 0) (h6 : S.1 0 54 = 0)
    (k0 : 0 ≤ w ∧ w < 6 → ∀ S', P (some (.int 0)) S') (k6 : w = 6 → P (some (.int (-1))) S) (k7 : w = 7 → P (some (.int 6)) S) (k8 : ¬ (0 ≤ w ∧ w < 8) → P (some (.int (-2))) S) : mv_big layY sysY (d + 3) 73 [.ref 0, .int w] S P := by
  refine ⟨60, ?_⟩
  refine ⟨fun e => ?_, fun e0 => ⟨fun e => ?_, fun e1 => ⟨fun e => ?_, fun e2 => ⟨fun e => ?_, fun e3 => ⟨fun e => ?_, fun e4 => ⟨fun e => ?_, fun e5 => ⟨fun e => ?_, fun e6 => ⟨fun e => ?_, fun e7 => ?_⟩⟩⟩⟩⟩⟩⟩⟩
  · have e : w = 0 := e
    have h := k0 (by rw [e]; decide) S
    rw [← h0] at h; exact h
  · have e : w = 1 := e
    exact ⟨fun _ => k0 (by rw [e]; decide) S, fun z => absurd h1 z⟩
  · have e : w = 2 := e
    have h := k0 (by rw [e]; decide) S
    rw [← h2] at h; exact h
  · have e : w = 3 := e
    have e6 : S.1 0 54 = 0 := h6
    show mv_wp layY sysY _ _ _ _ _ _ _ _ _ _ _
    refine ws_aload_n rfl rfl rfl (ws_aload_n rfl rfl rfl (ws_getz (x := 0) rfl rfl h6 rfl (ws_iv rfl rfl rfl ?_)))
    refine y_findLive0 hm hh (fun S' hS' => ?_)
    have e30 : S'.1 0 30 = 0 := by rw [hS']; rfl
    have h := k0 (by rw [e]; decide) S'
    rw [← e30] at h; exact h
  · have e : w = 4 := e
    have h := k0 (by rw [e]; decide) S
    rw [← h4] at h; exact h
  · have e : w = 5 := e
    exact ⟨fun _ => k0 (by rw [e]; decide) S, fun z => absurd h6 z⟩
  · have e : w = 6 := e
    exact ⟨fun _ => k6 e, fun z => absurd h6 z⟩
  · have e : w = 7 := e
    exact ⟨fun _ => k7 e, fun z => absurd h6 z⟩
  · refine k8 (fun q => ?_)
    obtain ⟨j, hj, rfl⟩ := vp_in_of (rIn_vp (n := 8) (by decide) q) (by decide)
    match j, hj with
    | 0, _ => exact e0 rfl
    | 1, _ => exact e1 rfl
    | 2, _ => exact e2 rfl
    | 3, _ => exact e3 rfl
    | 4, _ => exact e4 rfl
    | 5, _ => exact e5 rfl
    | 6, _ => exact e6 rfl
    | 7, _ => exact e7 rfl
theorem y_size0 (h : P (some (.int 0)) S) : mv_big layY sysY (d + 1) 41 [.ref 0, .int 0] S P := by
  refine ⟨60, ?_⟩
  exact ⟨fun _ => ⟨fun _ => h, fun z => absurd (show (0 : Int32) ≤ 0 by decide) z⟩, fun z => absurd (show (0 : Int32) ≤ 0 by decide) z⟩
theorem y_above0 {k z : Int32} (h : P (some (.int 0)) S) : mv_big layY sysY (d + 1) 42 [.ref 0, .int 0, .int k, .int z] S P := by
  refine ⟨60, ?_⟩
  exact ⟨fun _ => h, fun z => absurd (show (0 : Int32) ≤ 0 by decide) z⟩
theorem le3_iff {v : Int32} : (0 ≤ v ∧ v ≤ 3) ↔ (0 ≤ v ∧ v < 4) := by
  have e1 : (3 : Int32).toInt = 3 := by decide
  have e2 : (4 : Int32).toInt = 4 := by decide
  constructor
  · rintro ⟨a, b⟩
    refine ⟨a, ?_⟩
    rw [Int32.le_iff_toInt_le] at b
    rw [Int32.lt_iff_toInt_lt]
    omega
  · rintro ⟨a, b⟩
    refine ⟨a, ?_⟩
    rw [Int32.lt_iff_toInt_lt] at b
    rw [Int32.le_iff_toInt_le]
    omega
theorem y_map0 {m w i : Int32} (hm : ∀ j, j < 4 → S.2.1 20 j = 0) (h1 : (0 ≤ m ∧ m < 4) ∧ (0 ≤ w ∧ w < 4) → P (some (.int 0)) S) (h2 : ¬ ((0 ≤ m ∧ m < 4) ∧ (0 ≤ w ∧ w < 4)) → P (some (.int (-2))) S) : mv_big layY sysY (d + 2) 72 [.ref 0, .int m, .int w, .int i] S P := by
  refine ⟨90, ?_⟩
  refine y_in (fun c => ?_) (fun c => ?_)
  · exact ⟨fun _ => h2 (fun q => c (le3_iff.mpr q.1)), fun z => absurd rfl z⟩
  · refine ⟨fun z => absurd (show (1 : Int32) = 0 from z) (by decide), fun _ => ?_⟩
    refine y_in (fun c2 => ?_) (fun c2 => ?_)
    · exact ⟨fun z => absurd rfl z, fun _ => h2 (fun q => c2 (le3_iff.mpr q.2))⟩
    · refine ⟨fun _ => ?_, fun z => absurd (show (1 : Int32) = 0 from z) (by decide)⟩
      have c' := le3_iff.mp c
      have h := h1 ⟨c', le3_iff.mp c2⟩
      obtain ⟨j, hj, rfl⟩ := vp_in_of (rIn_vp (n := 4) (by decide) c') (by decide)
      refine ⟨vp_in_nI hj (by decide), ?_⟩
      have e : S.2.1 20 (nI j).toNatClampNeg = 0 := by rw [nI_clamp (by omega)]; exact hm j hj
      rw [e]
      refine ⟨fun _ => ⟨fun _ => ⟨fun _ => y_above0 ⟨fun _ => ⟨fun z => absurd rfl z, fun _ => h⟩, fun _ => ⟨fun _ => ⟨fun z => absurd rfl z, fun _ => h⟩, fun z => absurd (show (0 : Int32) ≤ 0 by decide) z⟩⟩, fun _ => ⟨fun _ => ⟨fun z => absurd rfl z, fun _ => h⟩, fun _ => ⟨fun _ => ⟨fun z => absurd rfl z, fun _ => h⟩, fun z => absurd (show (0 : Int32) ≤ 0 by decide) z⟩⟩⟩, fun _ => ⟨fun _ => h, fun z => absurd (show (0 : Int32) ≤ 0 by decide) z⟩⟩, fun _ => y_size0 h⟩
/-- what a compile begins with -/
def yC0 (S : mv_S) : mv_S := mv_pf (mv_pf (mv_pf (mv_pf (mv_pf (mv_pf (mv_pf (mv_pf (mv_pf (mv_pf S 0 5 0) 0 54 0) 0 53 6) 0 2 0) 0 3 0) 0 4 (-1)) 0 7 0) 0 9 0) 0 20 0) 0 23 0
theorem y_compile0 (h0 : S.1 0 1 = 0) (h : ∀ S', P (some (.int (-11))) S') : mv_big layY sysY (d + 2) 25 [.ref 0] S P := by
  obtain ⟨S1, hS1⟩ : ∃ S1, S1 = yC0 S := ⟨_, rfl⟩
  have key := mv_loop (T := tT11) (nL := 2) (z := some .int) (il := mX11_compile.2.2.2.2.2.2.2) (lay := layY) (sys := sysY) (d := d + 1) (P := P) (pc := 53) 100 (fun k lv st S' => ∃ i, i + k = 8 ∧ lv = [(1, .int (nI i)), (0, .ref 0)] ∧ st = [] ∧ S' = stR S1 4 (rFill (S1.2.1 4) 0 i 0)) (by
      rintro n lv st S' ⟨i, hk, rfl, rfl, rfl⟩
      obtain rfl : i = 8 := hk
      obtain ⟨S2, hS2⟩ : ∃ S2, S2 = stR S1 4 (rFill (S1.2.1 4) 0 8 0) := ⟨_, rfl⟩
      rw [← hS2]
      have f3 : S2.1 0 3 = 0 := by rw [hS2, hS1]; rfl
      have f2 : S2.1 0 2 = 0 := by rw [hS2, hS1]; rfl
      have f1 : S2.1 0 1 = 0 := by rw [hS2, hS1]; exact h0
      refine ⟨fun _ => ⟨fun z => absurd f3 z, fun _ => ?_⟩, fun z => absurd (show nI 8 ≤ nI 8 by decide) z⟩
      refine y_token (a := 0) (k := 0) f2 f1 (by omega) (by decide) ?_
      rw [if_neg (by omega)]
      refine ⟨fun _ => ⟨fun z => absurd f3 z, fun _ => ⟨fun _ => ?_, fun z => absurd (show S2.1 0 2 = S2.1 0 1 by rw [f2, f1]) z⟩⟩, fun z => absurd (show (-1 : Int32) = 10 from z) (by decide)⟩
      refine y_wrong (fun _ => ?_) (fun z => absurd f3 z)
      have g3 : ∀ q, (mv_pf (mv_pf S2 0 3 (-11)) 0 4 q).1 0 3 = -11 := fun _ => rfl
      exact ⟨fun _ => ⟨fun _ => ⟨fun z => absurd (show (-11 : Int32) = 0 from z) (by decide), fun _ => h _⟩, fun z => absurd (show (-11 : Int32) = 0 from z) (by decide)⟩, fun z => absurd (show (-11 : Int32) = 0 from z) (by decide)⟩) (by
      rintro k n lv st S' ⟨i, hk, rfl, rfl, rfl⟩ ih
      refine ⟨fun z => ?_, fun z => ⟨Or.inl rfl, vp_in_nI (by omega) (by omega), ?_⟩⟩
      · have c' : nI 8 ≤ nI i := z
        exact absurd ((nI_leI (by omega) (by omega)).mp c') (by omega)
      · have hi := fun n' hn => ih n' [(1, .int (nI (i + 1))), (0, .ref 0)] [] (stR S1 4 (rFill (S1.2.1 4) 0 (i + 1) 0)) hn ⟨i + 1, by omega, rfl, rfl, rfl⟩
        rw [← stR_fill S1 4 _ (Nat.zero_le i) (by omega) 0] at hi
        exact ws_iinc (y := nI (i + 1)) rfl rfl rfl (nI_succ i).symm rfl rfl (ws_goto (t := 53) rfl (by decide) (hi (n + 90) (by omega))))
  refine ⟨1032, ?_⟩
  refine ws_aload_n rfl rfl rfl (ws_iconst (x := 0) rfl rfl rfl (ws_putz rfl rfl (Or.inl rfl) rfl ?_))
  refine ws_aload_n rfl rfl rfl (ws_iconst (x := 0) rfl rfl rfl (ws_putz rfl rfl (Or.inl rfl) rfl ?_))
  refine ws_aload_n rfl rfl rfl (ws_bipush (x := 6) rfl rfl rfl (ws_puti rfl rfl rfl ?_))
  refine ws_aload_n rfl rfl rfl (ws_iconst (x := 0) rfl rfl rfl (ws_puti rfl rfl rfl ?_))
  refine ws_aload_n rfl rfl rfl (ws_iconst (x := 0) rfl rfl rfl (ws_puti rfl rfl rfl ?_))
  refine ws_aload_n rfl rfl rfl (ws_iconst (x := -1) rfl rfl rfl (ws_puti rfl rfl rfl ?_))
  refine ws_aload_n rfl rfl rfl (ws_iconst (x := 0) rfl rfl rfl (ws_puti rfl rfl rfl ?_))
  refine ws_aload_n rfl rfl rfl (ws_iconst (x := 0) rfl rfl rfl (ws_puti rfl rfl rfl ?_))
  refine ws_aload_n rfl rfl rfl (ws_iconst (x := 0) rfl rfl rfl (ws_puti rfl rfl rfl ?_))
  refine ws_aload_n rfl rfl rfl (ws_iconst (x := 0) rfl rfl rfl (ws_puti rfl rfl rfl ?_))
  refine ws_iconst (x := nI 0) rfl rfl rfl (ws_istore_n rfl rfl rfl rfl ?_)
  have hk := key 8 1000 [(1, .int (nI 0)), (0, .ref 0)] [] S1 (by omega) ⟨0, rfl, rfl, rfl, by rw [rFill_0, stR_self]⟩
  rw [hS1] at hk
  exact hk
end LY
end
section
/-! THE CLASS'S METHODS: program and tokens -/
/-- a word more -/
def xE (S : mv_S) (w : Int32) : mv_S := mv_pf (sR S 11 1500 (S.1 1 10) w) 1 10 (S.1 1 10 + 1)
/-- a hole filled -/
def xF (S : mv_S) (h : Int32) : mv_S := sR S 11 1500 h (S.1 1 10)
def xHasF (S : mv_S) (f : Int32) : Prop := 0 ≤ f ∧ f < 8 ∧ ¬ S.2.1 12 f.toNatClampNeg = -1
section LX
variable {d : Nat} {S : mv_S} {P : Option Value → mv_S → Prop}
theorem x_rank {c : Int32} (h : P (some (.int (xC S 17 c))) S) : mv_big layX sysX (d + 1) 4 [.ref 3, .int c] S P := by
  refine ⟨20, ?_⟩
  unfold xC at h
  refine ⟨fun c1 => ?_, fun c1 => ⟨fun c2 => ?_, fun c2 => ⟨?_, ?_⟩⟩⟩
  · have c1 : c ≤ 0 := c1
    rw [if_neg (fun q => absurd q.1 (Int32.not_lt.mpr c1))] at h; exact h
  · have c2 : (803 : Int32) ≤ c := c2
    rw [if_neg (fun q => absurd q.2 (Int32.not_lt.mpr c2))] at h; exact h
  · exact vp_pos (by decide) (Int32.not_le.mp c1) (Int32.not_le.mp c2)
  · rw [if_pos ⟨Int32.not_le.mp c1, Int32.not_le.mp c2⟩] at h; exact h
theorem x_lesser {c : Int32} (h : P (some (.int (xC S 18 c))) S) : mv_big layX sysX (d + 1) 5 [.ref 3, .int c] S P := by
  refine ⟨20, ?_⟩
  unfold xC at h
  refine ⟨fun c1 => ?_, fun c1 => ⟨fun c2 => ?_, fun c2 => ⟨?_, ?_⟩⟩⟩
  · have c1 : c ≤ 0 := c1
    rw [if_neg (fun q => absurd q.1 (Int32.not_lt.mpr c1))] at h; exact h
  · have c2 : (803 : Int32) ≤ c := c2
    rw [if_neg (fun q => absurd q.2 (Int32.not_lt.mpr c2))] at h; exact h
  · exact vp_pos (by decide) (Int32.not_le.mp c1) (Int32.not_le.mp c2)
  · rw [if_pos ⟨Int32.not_le.mp c1, Int32.not_le.mp c2⟩] at h; exact h
theorem x_greater {c : Int32} (h : P (some (.int (xC S 19 c))) S) : mv_big layX sysX (d + 1) 6 [.ref 3, .int c] S P := by
  refine ⟨20, ?_⟩
  unfold xC at h
  refine ⟨fun c1 => ?_, fun c1 => ⟨fun c2 => ?_, fun c2 => ⟨?_, ?_⟩⟩⟩
  · have c1 : c ≤ 0 := c1
    rw [if_neg (fun q => absurd q.1 (Int32.not_lt.mpr c1))] at h; exact h
  · have c2 : (803 : Int32) ≤ c := c2
    rw [if_neg (fun q => absurd q.2 (Int32.not_lt.mpr c2))] at h; exact h
  · exact vp_pos (by decide) (Int32.not_le.mp c1) (Int32.not_le.mp c2)
  · rw [if_pos ⟨Int32.not_le.mp c1, Int32.not_le.mp c2⟩] at h; exact h
theorem x_behind {i : Int32} (h : P (some (.int (rAt 700 (S.2.1 9) i))) S) : mv_big layX sysX (d + 2) 58 [.ref 1, .int i] S P := ⟨20, x_at_9 h⟩
theorem x_setBehind {i x : Int32} (h : P none (sR S 9 700 i x)) : mv_big layX sysX (d + 2) 59 [.ref 1, .int i, .int x] S P := ⟨20, x_set_9 h⟩
theorem x_turn {i : Int32} (h : P (some (.int (rAt 700 (S.2.1 10) i))) S) : mv_big layX sysX (d + 2) 60 [.ref 1, .int i] S P := ⟨20, x_at_10 h⟩
theorem x_setTurn {i x : Int32} (h : P none (sR S 10 700 i x)) : mv_big layX sysX (d + 2) 61 [.ref 1, .int i, .int x] S P := ⟨20, x_set_10 h⟩
theorem x_firstWord {i : Int32} (h : P (some (.int (rAt 8 (S.2.1 13) i))) S) : mv_big layX sysX (d + 2) 66 [.ref 1, .int i] S P := ⟨20, x_at_13 h⟩
theorem x_firstToken {i : Int32} (h : P (some (.int (rAt 8 (S.2.1 14) i))) S) : mv_big layX sysX (d + 2) 67 [.ref 1, .int i] S P := ⟨20, x_at_14 h⟩
theorem x_hasToken {i : Int32} (h1 : ¬ (0 ≤ i ∧ i < S.1 1 9) → P (some (.int 0)) S) (h2 : 0 ≤ i ∧ i < S.1 1 9 → P (some (.int 1)) S) : mv_big layX sysX (d + 1) 56 [.ref 1, .int i] S P := by
  refine ⟨20, ?_⟩
  refine ⟨fun c => ⟨Or.inl rfl, h1 (fun q => absurd q.1 (Int32.not_le.mpr c))⟩, fun c => ⟨fun c2 => ⟨Or.inl rfl, ?_⟩, fun c2 => ⟨Or.inr rfl, ?_⟩⟩⟩
  · have c2 : S.1 1 9 ≤ i := c2
    exact h1 (fun q => absurd q.2 (Int32.not_lt.mpr c2))
  · have c2 : ¬ S.1 1 9 ≤ i := c2
    exact h2 ⟨Int32.not_lt.mp c, Int32.not_le.mp c2⟩
theorem x_hasFunction {f : Int32} (h1 : ¬ xHasF S f → P (some (.int 0)) S) (h2 : xHasF S f → P (some (.int 1)) S) : mv_big layX sysX (d + 1) 62 [.ref 1, .int f] S P := by
  refine ⟨30, ?_⟩
  refine ⟨fun c => ⟨Or.inl rfl, h1 (fun q => absurd q.1 (Int32.not_le.mpr c))⟩, fun c => ⟨fun c2 => ⟨Or.inl rfl, ?_⟩, fun c2 => ⟨?_, fun c3 => ⟨Or.inl rfl, h1 (fun q => q.2.2 c3)⟩, fun c3 => ⟨Or.inr rfl, ?_⟩⟩⟩⟩
  · have c2 : (8 : Int32) ≤ f := c2
    exact h1 (fun q => absurd q.2.1 (Int32.not_lt.mpr c2))
  · exact rIn_vp (by decide) (rIn_of c c2)
  · have c2 : ¬ (8 : Int32) ≤ f := c2
    exact h2 ⟨Int32.not_lt.mp c, Int32.not_le.mp c2, c3⟩
theorem x_parameters {f : Int32} (h1 : ¬ xHasF S f → P (some (.int 0)) S) (h2 : xHasF S f → P (some (.int (S.2.1 12 f.toNatClampNeg))) S) : mv_big layX sysX (d + 2) 65 [.ref 1, .int f] S P := by
  refine ⟨30, ?_⟩
  refine x_hasFunction (fun c => ?_) (fun c => ?_)
  · exact ⟨fun _ => h1 c, fun z => absurd rfl z⟩
  · refine ⟨fun z => absurd (show (1 : Int32) = 0 from z) (by decide), fun _ => ?_⟩
    refine x_at_12 ?_
    rw [rAt_in ⟨c.1, c.2.1⟩]
    exact h2 c
theorem x_addFunction {f n p : Int32} (h : P none (sR (sR (sR S 12 8 f n) 13 8 f ((sR S 12 8 f n).1 1 10)) 14 8 f p)) : mv_big layX sysX (d + 2) 63 [.ref 1, .int f, .int n, .int p] S P := ⟨40, x_set_12 (x_set_13 (x_set_14 h))⟩
theorem x_addMain {p : Int32} (h : P none (mv_pf (mv_pf S 1 7 (S.1 1 10)) 1 8 p)) : mv_big layX sysX (d + 1) 64 [.ref 1, .int p] S P := ⟨20, h⟩
theorem x_emit {w : Int32} (h : P none (xE S w)) : mv_big layX sysX (d + 2) 71 [.ref 1, .int w] S P := by
  refine ⟨30, ?_⟩
  refine x_set_11 ?_
  unfold xE at h
  have e : (sR S 11 1500 (S.1 1 10) w).1 1 10 = S.1 1 10 := by rw [sR_1]
  rw [← e] at h
  rw [e] at h
  have h3 : P none (mv_pf (sR S 11 1500 (S.1 1 10) w) 1 10 ((sR S 11 1500 (S.1 1 10) w).1 1 10 + 1)) := by rw [e]; exact h
  exact h3
theorem x_emitHole (h : P (some (.int (S.1 1 10))) (xE S 0)) : mv_big layX sysX (d + 3) 72 [.ref 1] S P := by
  refine ⟨30, ?_⟩
  refine x_emit ?_
  have e : (xE S 0).1 1 10 - 1 = S.1 1 10 := by
    show S.1 1 10 + 1 - 1 = S.1 1 10
    rw [Int32.add_sub_cancel]
  have h3 : P (some (.int ((xE S 0).1 1 10 - 1))) (xE S 0) := by rw [e]; exact h
  exact h3
theorem x_fillHole {p : Int32} (h : P none (xF S p)) : mv_big layX sysX (d + 2) 73 [.ref 1, .int p] S P := ⟨20, x_set_11 h⟩
end LX
end
section
/-! THE CLASS'S METHODS: the tokens' tables -/
def tkS (t : Int32) : Prop := 1 ≤ t ∧ t ≤ 9 ∧ ¬ t = 4
def tkE (t : Int32) : Prop := 20 ≤ t ∧ t ≤ 36
def tkM (t : Int32) : Prop := 40 ≤ t ∧ t ≤ 44
def tkArg (t : Int32) : Int32 := if t = 1 ∨ t = 2 ∨ t = 8 ∨ t = 20 ∨ t = 21 ∨ t = 36 ∨ t = 40 then 1 else if t = 6 then 3 else 0
def tkMaps (t : Int32) : Int32 := if t = 2 ∨ t = 32 ∨ t = 33 ∨ t = 34 ∨ t = 35 ∨ t = 42 ∨ t = 43 then 1 else if t = 44 then 2 else 0
def tkNums (t : Int32) : Int32 := if 22 ≤ t ∧ t ≤ 28 then 2 else if t = 1 ∨ t = 7 ∨ t = 9 ∨ t = 29 ∨ t = 32 ∨ t = 33 ∨ t = 43 then 1 else if t = 35 ∨ t = 42 then 2 else 0
section LX
variable {d : Nat} {S : mv_S} {P : Option Value → mv_S → Prop}
theorem x_isStatement {t : Int32} (h1 : ¬ tkS t → P (some (.int 0)) S) (h2 : tkS t → P (some (.int 1)) S) : mv_big layX sysX (d + 1) 124 [.int t] S P := by
  refine ⟨20, ?_⟩
  refine ⟨fun c => ⟨Or.inl rfl, h1 (fun q => absurd q.1 (Int32.not_le.mpr c))⟩, fun c => ⟨fun c2 => ⟨Or.inl rfl, ?_⟩, fun c2 => ⟨fun c3 => ⟨Or.inl rfl, h1 (fun q => q.2.2 c3)⟩, fun c3 => ⟨Or.inr rfl, ?_⟩⟩⟩⟩
  · have c2 : (9 : Int32) < t := c2
    exact h1 (fun q => absurd q.2.1 (Int32.not_le.mpr c2))
  · have c2 : ¬ (9 : Int32) < t := c2
    exact h2 ⟨Int32.not_lt.mp c, Int32.not_lt.mp c2, c3⟩
theorem x_isNumber {t : Int32} (h1 : ¬ tkE t → P (some (.int 0)) S) (h2 : tkE t → P (some (.int 1)) S) : mv_big layX sysX (d + 1) 125 [.int t] S P := by
  refine ⟨20, ?_⟩
  refine ⟨fun c => ⟨Or.inl rfl, ?_⟩, fun c => ⟨fun c2 => ⟨Or.inl rfl, ?_⟩, fun c2 => ⟨Or.inr rfl, ?_⟩⟩⟩
  · have c : t < (20 : Int32) := c
    exact h1 (fun q => absurd q.1 (Int32.not_le.mpr c))
  · have c2 : (36 : Int32) < t := c2
    exact h1 (fun q => absurd q.2 (Int32.not_le.mpr c2))
  · have c : ¬ t < (20 : Int32) := c
    have c2 : ¬ (36 : Int32) < t := c2
    exact h2 ⟨Int32.not_lt.mp c, Int32.not_lt.mp c2⟩
theorem x_isMap {t : Int32} (h1 : ¬ tkM t → P (some (.int 0)) S) (h2 : tkM t → P (some (.int 1)) S) : mv_big layX sysX (d + 1) 126 [.int t] S P := by
  refine ⟨20, ?_⟩
  refine ⟨fun c => ⟨Or.inl rfl, ?_⟩, fun c => ⟨fun c2 => ⟨Or.inl rfl, ?_⟩, fun c2 => ⟨Or.inr rfl, ?_⟩⟩⟩
  · have c : t < (40 : Int32) := c
    exact h1 (fun q => absurd q.1 (Int32.not_le.mpr c))
  · have c2 : (44 : Int32) < t := c2
    exact h1 (fun q => absurd q.2 (Int32.not_le.mpr c2))
  · have c : ¬ t < (40 : Int32) := c
    have c2 : ¬ (44 : Int32) < t := c2
    exact h2 ⟨Int32.not_lt.mp c, Int32.not_lt.mp c2⟩
theorem x_arguments {t : Int32} (h : P (some (.int (tkArg t))) S) : mv_big layX sysX (d + 1) 127 [.int t] S P := by
  refine ⟨20, ?_⟩
  refine ⟨fun e => ?_, fun e1 => ⟨fun e => ?_, fun e2 => ⟨fun e => ?_, fun e3 => ⟨fun e => ?_, fun e4 => ⟨fun e => ?_, fun e5 => ⟨fun e => ?_, fun e6 => ⟨fun e => ?_, fun e7 => ⟨fun e => ?_, fun e8 => ?_⟩⟩⟩⟩⟩⟩⟩⟩
  · have e : t = 1 := e
    subst e; exact h
  · have e : t = 2 := e
    subst e; exact h
  · have e : t = 6 := e
    subst e; exact h
  · have e : t = 8 := e
    subst e; exact h
  · have e : t = 20 := e
    subst e; exact h
  · have e : t = 21 := e
    subst e; exact h
  · have e : t = 36 := e
    subst e; exact h
  · have e : t = 40 := e
    subst e; exact h
  · have a1 : ¬ t = 1 := e1
    have a2 : ¬ t = 2 := e2
    have a3 : ¬ t = 6 := e3
    have a4 : ¬ t = 8 := e4
    have a5 : ¬ t = 20 := e5
    have a6 : ¬ t = 21 := e6
    have a7 : ¬ t = 36 := e7
    have a8 : ¬ t = 40 := e8
    have e : tkArg t = 0 := by simp only [tkArg, a1, a2, a3, a4, a5, a6, a7, a8, or_self, if_false]
    rw [e] at h; exact h
theorem x_maps {t : Int32} (h : P (some (.int (tkMaps t))) S) : mv_big layX sysX (d + 1) 128 [.int t] S P := by
  refine ⟨20, ?_⟩
  refine ⟨fun e => ?_, fun e1 => ⟨fun e => ?_, fun e2 => ⟨fun e => ?_, fun e3 => ⟨fun e => ?_, fun e4 => ⟨fun e => ?_, fun e5 => ⟨fun e => ?_, fun e6 => ⟨fun e => ?_, fun e7 => ⟨fun e => ?_, fun e8 => ?_⟩⟩⟩⟩⟩⟩⟩⟩
  · have e : t = 2 := e
    subst e; exact h
  · have e : t = 32 := e
    subst e; exact h
  · have e : t = 33 := e
    subst e; exact h
  · have e : t = 34 := e
    subst e; exact h
  · have e : t = 35 := e
    subst e; exact h
  · have e : t = 42 := e
    subst e; exact h
  · have e : t = 43 := e
    subst e; exact h
  · have e : t = 44 := e
    subst e; exact h
  · have a1 : ¬ t = 2 := e1
    have a2 : ¬ t = 32 := e2
    have a3 : ¬ t = 33 := e3
    have a4 : ¬ t = 34 := e4
    have a5 : ¬ t = 35 := e5
    have a6 : ¬ t = 42 := e6
    have a7 : ¬ t = 43 := e7
    have a8 : ¬ t = 44 := e8
    have e : tkMaps t = 0 := by simp only [tkMaps, a1, a2, a3, a4, a5, a6, a7, a8, or_self, if_false]
    rw [e] at h; exact h
end LX
end
section
/-! THE CLASS'S METHODS: tables by switches -/
def tkWord (t : Int32) : Int32 := if 22 ≤ t ∧ t ≤ 29 then 4 + t - 22 else if 32 ≤ t ∧ t ≤ 35 then 25 + t - 32 else if 42 ≤ t ∧ t ≤ 44 then 22 + t - 42 else if t = 1 then 3 else if t = 2 then 20 else if t = 7 then 15 else if t = 8 then 16 else if t = 20 then 1 else if t = 21 then 2 else if t = 36 then 16 else if t = 40 then 19 else if t = 41 then 21 else -1
def wdLen (w : Int32) : Int32 := if w = 1 ∨ w = 2 ∨ w = 3 ∨ w = 12 ∨ w = 13 ∨ w = 14 ∨ w = 16 ∨ w = 19 ∨ w = 20 then 2 else if w = 29 then 4 else 1
section LX
variable {d : Nat} {S : mv_S} {P : Option Value → mv_S → Prop}
theorem x_numbersT {t : Int32} (h : P (some (.int (tkNums t))) S) : mv_big layX sysX (d + 1) 129 [.int t] S P := by
  refine ⟨30, ?_⟩
  have main : ¬ (22 ≤ t ∧ t ≤ 28) → (t = 1 → P (some (.int 1)) S) ∧ (¬ t = 1 → (t = 7 → P (some (.int 1)) S) ∧ (¬ t = 7 → (t = 9 → P (some (.int 1)) S) ∧ (¬ t = 9 → (t = 29 → P (some (.int 1)) S) ∧ (¬ t = 29 → (t = 32 → P (some (.int 1)) S) ∧ (¬ t = 32 → (t = 33 → P (some (.int 1)) S) ∧ (¬ t = 33 → (t = 35 → P (some (.int 2)) S) ∧ (¬ t = 35 → (t = 42 → P (some (.int 2)) S) ∧ (¬ t = 42 → (t = 43 → P (some (.int 1)) S) ∧ (¬ t = 43 → P (some (.int 0)) S))))))))) := by
    intro hn
    refine ⟨fun e => ?_, fun e1 => ⟨fun e => ?_, fun e2 => ⟨fun e => ?_, fun e3 => ⟨fun e => ?_, fun e4 => ⟨fun e => ?_, fun e5 => ⟨fun e => ?_, fun e6 => ⟨fun e => ?_, fun e7 => ⟨fun e => ?_, fun e8 => ⟨fun e => ?_, fun e9 => ?_⟩⟩⟩⟩⟩⟩⟩⟩⟩
    · have e : t = 1 := e
      subst e; exact h
    · have e : t = 7 := e
      subst e; exact h
    · have e : t = 9 := e
      subst e; exact h
    · have e : t = 29 := e
      subst e; exact h
    · have e : t = 32 := e
      subst e; exact h
    · have e : t = 33 := e
      subst e; exact h
    · have e : t = 35 := e
      subst e; exact h
    · have e : t = 42 := e
      subst e; exact h
    · have e : t = 43 := e
      subst e; exact h
    · have a1 : ¬ t = 1 := e1
      have a2 : ¬ t = 7 := e2
      have a3 : ¬ t = 9 := e3
      have a4 : ¬ t = 29 := e4
      have a5 : ¬ t = 32 := e5
      have a6 : ¬ t = 33 := e6
      have a7 : ¬ t = 35 := e7
      have a8 : ¬ t = 42 := e8
      have a9 : ¬ t = 43 := e9
      have e : tkNums t = 0 := by
        unfold tkNums
        rw [if_neg hn]
        simp only [a1, a2, a3, a4, a5, a6, a7, a8, a9, or_self, if_false]
      rw [e] at h; exact h
  refine ⟨fun c => main (fun q => ?_), fun c => ⟨fun c2 => main (fun q => ?_), fun c2 => ?_⟩⟩
  · have c : t < (22 : Int32) := c
    exact absurd q.1 (Int32.not_le.mpr c)
  · have c2 : (28 : Int32) < t := c2
    exact absurd q.2 (Int32.not_le.mpr c2)
  · have c : ¬ t < (22 : Int32) := c
    have c2 : ¬ (28 : Int32) < t := c2
    have e : tkNums t = 2 := by
      unfold tkNums
      rw [if_pos ⟨Int32.not_lt.mp c, Int32.not_lt.mp c2⟩]
    rw [e] at h; exact h
theorem x_length {w : Int32} (h : P (some (.int (wdLen w))) S) : mv_big layX sysX (d + 1) 157 [.int w] S P := by
  refine ⟨20, ?_⟩
  refine ⟨fun e => ?_, fun e1 => ⟨fun e => ?_, fun e2 => ⟨fun e => ?_, fun e3 => ⟨fun e => ?_, fun e4 => ⟨fun e => ?_, fun e5 => ⟨fun e => ?_, fun e6 => ⟨fun e => ?_, fun e7 => ⟨fun e => ?_, fun e8 => ⟨fun e => ?_, fun e9 => ⟨fun e => ?_, fun e10 => ⟨fun e => ?_, fun e11 => ⟨fun e => ?_, fun e12 => ⟨fun e => ?_, fun e13 => ⟨fun e => ?_, fun e14 => ⟨fun e => ?_, fun e15 => ⟨fun e => ?_, fun e16 => ⟨fun e => ?_, fun e17 => ⟨fun e => ?_, fun e18 => ⟨fun e => ?_, fun e19 => ⟨fun e => ?_, fun e20 => ⟨fun e => ?_, fun e21 => ⟨fun e => ?_, fun e22 => ⟨fun e => ?_, fun e23 => ⟨fun e => ?_, fun e24 => ⟨fun e => ?_, fun e25 => ⟨fun e => ?_, fun e26 => ⟨fun e => ?_, fun e27 => ⟨fun e => ?_, fun e28 => ⟨fun e => ?_, fun e29 => ?_⟩⟩⟩⟩⟩⟩⟩⟩⟩⟩⟩⟩⟩⟩⟩⟩⟩⟩⟩⟩⟩⟩⟩⟩⟩⟩⟩⟩⟩
  · have e : w = 1 := e
    subst e; exact h
  · have e : w = 2 := e
    subst e; exact h
  · have e : w = 3 := e
    subst e; exact h
  · have e : w = 4 := e
    subst e; exact h
  · have e : w = 5 := e
    subst e; exact h
  · have e : w = 6 := e
    subst e; exact h
  · have e : w = 7 := e
    subst e; exact h
  · have e : w = 8 := e
    subst e; exact h
  · have e : w = 9 := e
    subst e; exact h
  · have e : w = 10 := e
    subst e; exact h
  · have e : w = 11 := e
    subst e; exact h
  · have e : w = 12 := e
    subst e; exact h
  · have e : w = 13 := e
    subst e; exact h
  · have e : w = 14 := e
    subst e; exact h
  · have e : w = 15 := e
    subst e; exact h
  · have e : w = 16 := e
    subst e; exact h
  · have e : w = 17 := e
    subst e; exact h
  · have e : w = 18 := e
    subst e; exact h
  · have e : w = 19 := e
    subst e; exact h
  · have e : w = 20 := e
    subst e; exact h
  · have e : w = 21 := e
    subst e; exact h
  · have e : w = 22 := e
    subst e; exact h
  · have e : w = 23 := e
    subst e; exact h
  · have e : w = 24 := e
    subst e; exact h
  · have e : w = 25 := e
    subst e; exact h
  · have e : w = 26 := e
    subst e; exact h
  · have e : w = 27 := e
    subst e; exact h
  · have e : w = 28 := e
    subst e; exact h
  · have e : w = 29 := e
    subst e; exact h
  · have a1 : ¬ w = 1 := e1
    have a2 : ¬ w = 2 := e2
    have a3 : ¬ w = 3 := e3
    have a4 : ¬ w = 4 := e4
    have a5 : ¬ w = 5 := e5
    have a6 : ¬ w = 6 := e6
    have a7 : ¬ w = 7 := e7
    have a8 : ¬ w = 8 := e8
    have a9 : ¬ w = 9 := e9
    have a10 : ¬ w = 10 := e10
    have a11 : ¬ w = 11 := e11
    have a12 : ¬ w = 12 := e12
    have a13 : ¬ w = 13 := e13
    have a14 : ¬ w = 14 := e14
    have a15 : ¬ w = 15 := e15
    have a16 : ¬ w = 16 := e16
    have a17 : ¬ w = 17 := e17
    have a18 : ¬ w = 18 := e18
    have a19 : ¬ w = 19 := e19
    have a20 : ¬ w = 20 := e20
    have a21 : ¬ w = 21 := e21
    have a22 : ¬ w = 22 := e22
    have a23 : ¬ w = 23 := e23
    have a24 : ¬ w = 24 := e24
    have a25 : ¬ w = 25 := e25
    have a26 : ¬ w = 26 := e26
    have a27 : ¬ w = 27 := e27
    have a28 : ¬ w = 28 := e28
    have a29 : ¬ w = 29 := e29
    have e : wdLen w = 1 := by simp only [wdLen, a1, a2, a3, a12, a13, a14, a16, a19, a20, a29, or_self, if_false]
    rw [e] at h; exact h
end LX
end
section
/-! THE CLASS'S METHODS: stacks, what is told, cells that are made -/
theorem sL_1 (S : mv_S) (q n : Nat) (i : Int32) (x : Int64) : (sL S q n i x).1 = S.1 := by unfold sL; split <;> rfl
/-- a number more on the stack -/
def xPush (S : mv_S) (x : Int32) : mv_S := if S.1 4 11 < 850 then mv_pf (sR S 25 850 (S.1 4 11) x) 4 11 (S.1 4 11 + 1) else S
def xPopS (S : mv_S) : mv_S := if 0 < S.1 4 11 then mv_pf S 4 11 (S.1 4 11 - 1) else S
def xPopV (S : mv_S) : Int32 := rAt 850 (S.2.1 25) ((xPopS S).1 4 11)
/-- a map more on the stack -/
def xPushM (S : mv_S) (x : Int32) : mv_S := if S.1 4 12 < 425 then mv_pf (sL (sR S 26 425 (S.1 4 12) x) 27 425 (S.1 4 12) (-2147483648)) 4 12 (S.1 4 12 + 1) else S
def xPopMS (S : mv_S) : mv_S := if 0 < S.1 4 12 then mv_pf S 4 12 (S.1 4 12 - 1) else S
def xPopMV (S : mv_S) : Int32 := rAt 425 (S.2.1 26) ((xPopMS S).1 4 12)
def xTell (S : mv_S) (x : Int32) : mv_S := mv_pf (sR S 31 300 (S.1 4 14) x) 4 14 (S.1 4 14 + 1)
/-- a tree hung into a hole -/
def xHang (S : mv_S) (h t : Int32) : mv_S := if 0 < h ∧ h < 803 then mv_pr S 18 h.toNatClampNeg t else if h < 0 ∧ -803 < h then mv_pr S 19 (-h).toNatClampNeg t else S
def xRank (s k : Int32) : Int32 :=
  let x := k ^^^ s
  let y := (x ^^^ (x.toUInt32 >>> ((16 : Int32).toUInt32 &&& Int32.toUInt32 31)).toInt32) * 2146121005
  let z := (y ^^^ (y.toUInt32 >>> ((15 : Int32).toUInt32 &&& Int32.toUInt32 31)).toInt32) * (-2073254261)
  (z ^^^ (z.toUInt32 >>> ((16 : Int32).toUInt32 &&& Int32.toUInt32 31)).toInt32) ^^^ (-2147483648)
section LX
variable {d : Nat} {S : mv_S} {P : Option Value → mv_S → Prop}
theorem x_push {x : Int32} (h : P none (xPush S x)) : mv_big layX sysX (d + 2) 106 [.ref 4, .int x] S P := by
  refine ⟨30, ?_⟩
  unfold xPush at h
  refine ⟨fun c => ?_, fun c => ?_⟩
  · have c : (850 : Int32) ≤ S.1 4 11 := c
    rw [if_neg (Int32.not_lt.mpr c)] at h; exact h
  · have c : ¬ (850 : Int32) ≤ S.1 4 11 := c
    rw [if_pos (Int32.not_le.mp c)] at h
    refine x_set_25 ?_
    have h3 : P none (mv_pf (sR S 25 850 (S.1 4 11) x) 4 11 ((sR S 25 850 (S.1 4 11) x).1 4 11 + 1)) := by rw [sR_1]; exact h
    exact h3
theorem x_pop (h : P (some (.int (xPopV S))) (xPopS S)) : mv_big layX sysX (d + 2) 107 [.ref 4] S P := by
  refine ⟨30, ?_⟩
  unfold xPopV xPopS at h
  refine ⟨fun c => ?_, fun c => ?_⟩
  · have c : S.1 4 11 ≤ 0 := c
    rw [if_neg (Int32.not_lt.mpr c)] at h
    exact x_at_25 h
  · have c : ¬ S.1 4 11 ≤ 0 := c
    rw [if_pos (Int32.not_le.mp c)] at h
    exact x_at_25 h
theorem x_pushMap {x : Int32} (h : P none (xPushM S x)) : mv_big layX sysX (d + 2) 108 [.ref 4, .int x] S P := by
  refine ⟨40, ?_⟩
  unfold xPushM at h
  refine ⟨fun c => ?_, fun c => ?_⟩
  · have c : (425 : Int32) ≤ S.1 4 12 := c
    rw [if_neg (Int32.not_lt.mpr c)] at h; exact h
  · have c : ¬ (425 : Int32) ≤ S.1 4 12 := c
    rw [if_pos (Int32.not_le.mp c)] at h
    refine x_set_26 ?_
    refine x_set_27 ?_
    have h3 : P none (mv_pf (sL (sR S 26 425 (S.1 4 12) x) 27 425 ((sR S 26 425 (S.1 4 12) x).1 4 12) (-2147483648)) 4 12 ((sL (sR S 26 425 (S.1 4 12) x) 27 425 ((sR S 26 425 (S.1 4 12) x).1 4 12) (-2147483648)).1 4 12 + 1)) := by rw [sL_1, sR_1]; exact h
    exact h3
theorem x_popMap (h : P (some (.int (xPopMV S))) (xPopMS S)) : mv_big layX sysX (d + 2) 109 [.ref 4] S P := by
  refine ⟨30, ?_⟩
  unfold xPopMV xPopMS at h
  refine ⟨fun c => ?_, fun c => ?_⟩
  · have c : S.1 4 12 ≤ 0 := c
    rw [if_neg (Int32.not_lt.mpr c)] at h
    exact x_at_26 h
  · have c : ¬ S.1 4 12 ≤ 0 := c
    rw [if_pos (Int32.not_le.mp c)] at h
    exact x_at_26 h
theorem x_tell {x : Int32} (h1 : 300 ≤ S.1 4 14 → P (some (.int 4)) S) (h2 : S.1 4 14 < 300 → P (some (.int 1)) (xTell S x)) : mv_big layX sysX (d + 2) 115 [.ref 4, .int x] S P := by
  refine ⟨30, ?_⟩
  refine ⟨fun c => ?_, fun c => h1 (Int32.not_lt.mp c)⟩
  refine x_set_31 ?_
  have h3 : P (some (.int 1)) (mv_pf (sR S 31 300 (S.1 4 14) x) 4 14 ((sR S 31 300 (S.1 4 14) x).1 4 14 + 1)) := by rw [sR_1]; exact h2 c
  exact h3
theorem x_goIf1 {p : Int32} (h : P none (mv_pf S 6 3 p)) : mv_big layX sysX (d + 1) 89 [.ref 6, .int 1, .int p] S P := ⟨20, fun z => absurd (show (1 : Int32) = 0 from z) (by decide), fun _ => h⟩
theorem x_goIf0 {p : Int32} (h : P none S) : mv_big layX sysX (d + 1) 89 [.ref 6, .int 0, .int p] S P := ⟨20, fun _ => h, fun z => absurd rfl z⟩
theorem x_rbegin (h : P none (mv_pf (mv_pf (mv_pf S 6 2 1) 6 3 (S.1 1 7)) 6 4 1)) : mv_big layX sysX (d + 2) 82 [.ref 6] S P := by
  refine ⟨30, ?_⟩
  refine ⟨Or.inr rfl, ?_⟩
  refine x_mainWord ?_
  exact h
theorem x_beginMaking (h : P none (mv_pf (mv_pf (mv_pf S 3 14 0) 3 15 0) 3 9 (S.1 3 8))) : mv_big layX sysX (d + 1) 8 [.ref 3] S P := ⟨20, Or.inl rfl, h⟩
theorem x_rankOf {k : Int32} (h : P (some (.int (xRank (S.1 3 12) k))) S) : mv_big layX sysX (d + 1) 7 [.ref 3, .int k] S P := ⟨40, h⟩
theorem x_surelyFits (h1 : ¬ (S.1 3 15 = 0 ∧ 800 - S.1 3 8 ≤ S.1 3 13) → P (some (.int 0)) S) (h2 : S.1 3 15 = 0 ∧ 800 - S.1 3 8 ≤ S.1 3 13 → P (some (.int 1)) S) : mv_big layX sysX (d + 1) 14 [.ref 3] S P := by
  refine ⟨30, ?_⟩
  refine ⟨fun c => ⟨Or.inl rfl, h1 (fun q => c q.1)⟩, fun c => ⟨fun c2 => ⟨Or.inl rfl, ?_⟩, fun c2 => ⟨Or.inr rfl, ?_⟩⟩⟩
  · have c2 : S.1 3 13 < 800 - S.1 3 8 := c2
    exact h1 (fun q => absurd q.2 (Int32.not_le.mpr c2))
  · have c2 : ¬ S.1 3 13 < 800 - S.1 3 8 := c2
    exact h2 ⟨c, Int32.not_lt.mp c2⟩
theorem x_fits (h1 : ¬ (S.1 3 15 = 0 ∧ S.1 3 11 + S.1 3 14 ≤ S.1 3 13) → P (some (.int 0)) S) (h2 : S.1 3 15 = 0 ∧ S.1 3 11 + S.1 3 14 ≤ S.1 3 13 → P (some (.int 1)) S) : mv_big layX sysX (d + 1) 15 [.ref 3] S P := by
  refine ⟨30, ?_⟩
  refine ⟨fun c => ⟨Or.inl rfl, h1 (fun q => c q.1)⟩, fun c => ⟨fun c2 => ⟨Or.inl rfl, ?_⟩, fun c2 => ⟨Or.inr rfl, ?_⟩⟩⟩
  · have c2 : S.1 3 13 < S.1 3 11 + S.1 3 14 := c2
    exact h1 (fun q => absurd q.2 (Int32.not_le.mpr c2))
  · have c2 : ¬ S.1 3 13 < S.1 3 11 + S.1 3 14 := c2
    exact h2 ⟨c, Int32.not_lt.mp c2⟩
end LX
end
section
/-! THE CLASS'S COMPILER: its small parts. P after true / false -/
/-- a fault noted -/
def xFl (S : mv_S) (w : Int32) : mv_S := mv_pf S 2 2 w
/-- a token passed -/
def xNx (S : mv_S) : mv_S := mv_pf S 2 1 (S.1 2 1 + 1)
/-- there is a token at the next place -/
def xHas (S : mv_S) : Prop := 0 ≤ S.1 2 1 ∧ S.1 2 1 < S.1 1 9
section LX
variable {d : Nat} {S : mv_S} {P : Option Value → mv_S → Prop}
theorem x_passEnd (h1 : ¬ xTok S (S.1 2 1) = 0 → P (some (.int 0)) (xFl S (-11))) (h2 : xTok S (S.1 2 1) = 0 → P (some (.int 1)) (xNx S)) : mv_big layX sysX (d + 2) 30 [.ref 2] S P := by
  refine ⟨40, ?_⟩
  refine x_token ?_
  refine ⟨fun c => ⟨Or.inr rfl, h2 c⟩, fun c => ?_⟩
  exact x_fail ⟨Or.inl rfl, h1 c⟩
theorem x_bare {n : Int32} (h1 : ¬ xHas S → P (some (.int 0)) (xFl S (-11))) (h2 : xHas S → ¬ (0 ≤ xTok S (S.1 2 1) ∧ xTok S (S.1 2 1) < n) → P (some (.int 0)) (xFl S (-12))) (h3 : xHas S → 0 ≤ xTok S (S.1 2 1) ∧ xTok S (S.1 2 1) < n → P (some (.int 1)) (xNx S)) : mv_big layX sysX (d + 2) 31 [.ref 2, .int n] S P := by
  refine ⟨60, ?_⟩
  refine x_hasToken (fun c => ?_) (fun c => ?_)
  · refine ⟨fun z => absurd rfl z, fun _ => ?_⟩
    exact x_fail ⟨Or.inl rfl, h1 c⟩
  · refine ⟨fun _ => ?_, fun z => absurd (show (1 : Int32) = 0 from z) (by decide)⟩
    refine x_token ?_
    refine ⟨fun c1 => ?_, fun c1 => ⟨fun c2 => ⟨Or.inr rfl, h3 c ⟨Int32.not_lt.mp c1, c2⟩⟩, fun c2 => ?_⟩⟩
    · exact x_fail ⟨Or.inl rfl, h2 c (fun q => absurd q.1 (Int32.not_le.mpr c1))⟩
    · exact x_fail ⟨Or.inl rfl, h2 c (fun q => c2 q.2)⟩
theorem x_anyNumber (h1 : ¬ xHas S → P (some (.int 0)) (xFl S (-11))) (h2 : xHas S → P (some (.int 1)) (xNx S)) : mv_big layX sysX (d + 2) 32 [.ref 2] S P := by
  refine ⟨60, ?_⟩
  refine x_hasToken (fun c => ?_) (fun c => ?_)
  · refine ⟨fun z => absurd rfl z, fun _ => ?_⟩
    exact x_fail ⟨Or.inl rfl, h1 c⟩
  · exact ⟨fun _ => ⟨Or.inr rfl, h2 c⟩, fun z => absurd (show (1 : Int32) = 0 from z) (by decide)⟩
theorem x_newFunction (h0 : xHasF S (xTok S (S.1 2 1)) → P (some (.int 0)) (xFl S (-13))) (h1 : ¬ xHasF S (xTok S (S.1 2 1)) → ¬ xHas S → P (some (.int 0)) (xFl S (-11))) (h2 : ¬ xHasF S (xTok S (S.1 2 1)) → xHas S → ¬ (0 ≤ xTok S (S.1 2 1) ∧ xTok S (S.1 2 1) < 8) → P (some (.int 0)) (xFl S (-12))) (h3 : ¬ xHasF S (xTok S (S.1 2 1)) → xHas S → 0 ≤ xTok S (S.1 2 1) ∧ xTok S (S.1 2 1) < 8 → P (some (.int 1)) (xNx S)) : mv_big layX sysX (d + 3) 33 [.ref 2] S P := by
  refine ⟨60, ?_⟩
  refine x_token ?_
  refine x_hasFunction (fun c => ?_) (fun c => ?_)
  · refine ⟨fun z => absurd rfl z, fun _ => ?_⟩
    exact x_bare (fun a => ⟨Or.inl rfl, h1 c a⟩) (fun a b => ⟨Or.inl rfl, h2 c a b⟩) (fun a b => ⟨Or.inr rfl, h3 c a b⟩)
  · refine ⟨fun _ => ?_, fun z => absurd (show (1 : Int32) = 0 from z) (by decide)⟩
    exact x_fail ⟨Or.inl rfl, h0 c⟩
theorem x_knownFunction (h0 : xHasF S (xTok S (S.1 2 1)) → P (some (.int 1)) (xNx S)) (h1 : ¬ xHasF S (xTok S (S.1 2 1)) → ¬ xHas S → P (some (.int 0)) (xFl S (-11))) (h2 : ¬ xHasF S (xTok S (S.1 2 1)) → xHas S → ¬ (0 ≤ xTok S (S.1 2 1) ∧ xTok S (S.1 2 1) < 8) → P (some (.int 0)) (xFl S (-12))) (h3 : ¬ xHasF S (xTok S (S.1 2 1)) → xHas S → 0 ≤ xTok S (S.1 2 1) ∧ xTok S (S.1 2 1) < 8 → P (some (.int 0)) (xFl S (-14))) : mv_big layX sysX (d + 3) 34 [.ref 2] S P := by
  refine ⟨60, ?_⟩
  refine x_token ?_
  refine x_hasFunction (fun c => ?_) (fun c => ?_)
  · refine ⟨fun _ => ?_, fun z => absurd rfl z⟩
    refine x_hasToken (fun a => ?_) (fun a => ?_)
    · refine ⟨fun z => absurd rfl z, fun _ => ?_⟩
      exact x_fail ⟨Or.inl rfl, h1 c a⟩
    · refine ⟨fun _ => ?_, fun z => absurd (show (1 : Int32) = 0 from z) (by decide)⟩
      refine ⟨fun c1 => ?_, fun c1 => ⟨fun c2 => ?_, fun c2 => ?_⟩⟩
      · exact x_fail ⟨Or.inl rfl, h2 c a (fun q => absurd q.1 (Int32.not_le.mpr c1))⟩
      · exact x_fail ⟨Or.inl rfl, h3 c a ⟨Int32.not_lt.mp c1, c2⟩⟩
      · exact x_fail ⟨Or.inl rfl, h2 c a (fun q => c2 q.2)⟩
  · exact ⟨fun z => absurd (show (1 : Int32) = 0 from z) (by decide), fun _ => ⟨Or.inr rfl, h0 c⟩⟩
end LX
end
section
/-! THE REFERENCE'S COMPILER: its small parts -/
def yLay (S : mv_S) (w m : Nat) (x : Int32) : mv_S := mv_pf (mv_pr (mv_pf (mv_pr S 2 w x) 0 7 (nI (w + 1))) 3 m x) 0 9 (nI (m + 1))
def yMark (S : mv_S) (m : Nat) : mv_S := mv_pf (mv_pr S 3 m 30) 0 9 (nI (m + 1))
def yLater (S : mv_S) (k : Nat) (a b c : Int32) : mv_S := mv_pf (mv_pr (mv_pr (mv_pr S 8 k a) 9 k b) 10 k c) 0 20 (nI (k + 1))
def yRem (S : mv_S) (h w m : Nat) : mv_S := mv_pr (mv_pr S 11 h (nI w)) 12 h (nI m)
def yFill (S : mv_S) (hw hm w m : Nat) : mv_S := mv_pr (mv_pr S 2 hw (nI w)) 3 hm (nI m)
section LY
variable {d : Nat} {S : mv_S} {P : Option Value → mv_S → Prop}
theorem y_lay {x : Int32} {w m : Nat} (hw : S.1 0 7 = nI w) (hw2 : w < 6000) (hm : S.1 0 9 = nI m) (hm2 : m < 8000) (h : P none (yLay S w m x)) : mv_big layY sysY (d + 1) 8 [.ref 0, .int x] S P := by
  have e1 : (S.1 0 7).toNatClampNeg = w := by rw [hw]; exact nI_clamp (by omega)
  have e2 : S.1 0 7 + 1 = nI (w + 1) := by rw [hw]; exact nI_1 w
  have e3 : (S.1 0 9).toNatClampNeg = m := by rw [hm]; exact nI_clamp (by omega)
  have e4 : S.1 0 9 + 1 = nI (m + 1) := by rw [hm]; exact nI_1 m
  refine ⟨40, ?_, ?_, ?_⟩
  · show vp_in (S.1 0 7) 6000
    rw [hw]; exact vp_in_nI hw2 (by omega)
  · show vp_in (S.1 0 9) 8000
    rw [hm]; exact vp_in_nI hm2 (by omega)
  · have h3 : P none (mv_pf (mv_pr (mv_pf (mv_pr S 2 (S.1 0 7).toNatClampNeg x) 0 7 (S.1 0 7 + 1)) 3 (S.1 0 9).toNatClampNeg x) 0 9 (S.1 0 9 + 1)) := by rw [e1, e2, e3, e4]; exact h
    exact h3
theorem y_mark {m : Nat} (hm : S.1 0 9 = nI m) (hm2 : m < 8000) (h : P none (yMark S m)) : mv_big layY sysY (d + 1) 9 [.ref 0] S P := by
  have e3 : (S.1 0 9).toNatClampNeg = m := by rw [hm]; exact nI_clamp (by omega)
  have e4 : S.1 0 9 + 1 = nI (m + 1) := by rw [hm]; exact nI_1 m
  refine ⟨40, ?_, ?_⟩
  · show vp_in (S.1 0 9) 8000
    rw [hm]; exact vp_in_nI hm2 (by omega)
  · have h3 : P none (mv_pf (mv_pr S 3 (S.1 0 9).toNatClampNeg 30) 0 9 (S.1 0 9 + 1)) := by rw [e3, e4]; exact h
    exact h3
theorem y_later {a b c : Int32} {k : Nat} (hk : S.1 0 20 = nI k) (hk2 : k < 4000) (h : P none (yLater S k a b c)) : mv_big layY sysY (d + 1) 7 [.ref 0, .int a, .int b, .int c] S P := by
  have e3 : (S.1 0 20).toNatClampNeg = k := by rw [hk]; exact nI_clamp (by omega)
  have e4 : S.1 0 20 + 1 = nI (k + 1) := by rw [hk]; exact nI_1 k
  have hv : vp_in (S.1 0 20) 4000 := by rw [hk]; exact vp_in_nI hk2 (by omega)
  refine ⟨40, hv, hv, hv, ?_⟩
  have h3 : P none (mv_pf (mv_pr (mv_pr (mv_pr S 8 (S.1 0 20).toNatClampNeg a) 9 (S.1 0 20).toNatClampNeg b) 10 (S.1 0 20).toNatClampNeg c) 0 20 (S.1 0 20 + 1)) := by rw [e3, e4]; exact h
  exact h3
theorem y_newHole {k : Nat} (hk : S.1 0 23 = nI k) (h : P (some (.int (nI k))) (mv_pf S 0 23 (nI (k + 1)))) : mv_big layY sysY (d + 1) 10 [.ref 0] S P := by
  have e4 : S.1 0 23 + 1 = nI (k + 1) := by rw [hk]; exact nI_1 k
  have e5 : nI (k + 1) - 1 = nI k := nI_pred k
  refine ⟨40, ?_⟩
  have h3 : P (some (.int (S.1 0 23 + 1 - 1))) (mv_pf S 0 23 (S.1 0 23 + 1)) := by rw [e4, e5]; exact h
  exact h3
theorem y_remember {q w m : Nat} (hw : S.1 0 7 = nI w) (hm : S.1 0 9 = nI m) (hq : q < 2000) (h : P none (yRem S q w m)) : mv_big layY sysY (d + 1) 14 [.ref 0, .int (nI q)] S P := by
  have e3 : (nI q).toNatClampNeg = q := nI_clamp (by omega)
  have hv : vp_in (nI q) 2000 := vp_in_nI hq (by omega)
  refine ⟨40, hv, hv, ?_⟩
  have h3 : P none (mv_pr (mv_pr S 11 (nI q).toNatClampNeg (S.1 0 7)) 12 (nI q).toNatClampNeg (S.1 0 9)) := by rw [e3, hw, hm]; exact h
  exact h3
theorem y_layHole {q w m : Nat} (hw : S.1 0 7 = nI w) (hw2 : w < 6000) (hm : S.1 0 9 = nI m) (hm2 : m < 8000) (hq : q < 2000) (h : P none (yLay (yRem S q w m) w m 0)) : mv_big layY sysY (d + 2) 11 [.ref 0, .int (nI q)] S P := by
  have e3 : (nI q).toNatClampNeg = q := nI_clamp (by omega)
  have hv : vp_in (nI q) 2000 := vp_in_nI hq (by omega)
  refine ⟨40, hv, hv, ?_⟩
  refine y_lay (w := w) (m := m) hw hw2 hm hm2 ?_
  have h3 : P none (yLay (mv_pr (mv_pr S 11 (nI q).toNatClampNeg (S.1 0 7)) 12 (nI q).toNatClampNeg (S.1 0 9)) w m 0) := by rw [e3, hw, hm]; exact h
  exact h3
theorem y_fill {q a b w m : Nat} (hw : S.1 0 7 = nI w) (hm : S.1 0 9 = nI m) (hq : q < 2000) (ha : S.2.1 11 q = nI a) (ha2 : a < 6000) (hb : S.2.1 12 q = nI b) (hb2 : b < 8000) (h : P none (yFill S a b w m)) : mv_big layY sysY (d + 1) 12 [.ref 0, .int (nI q)] S P := by
  have e3 : (nI q).toNatClampNeg = q := nI_clamp (by omega)
  have hv : vp_in (nI q) 2000 := vp_in_nI hq (by omega)
  have f1 : S.2.1 11 (nI q).toNatClampNeg = nI a := by rw [e3]; exact ha
  have f2 : S.2.1 12 (nI q).toNatClampNeg = nI b := by rw [e3]; exact hb
  refine ⟨40, hv, ?_, hv, ?_, ?_⟩
  · show vp_in (S.2.1 11 (nI q).toNatClampNeg) 6000
    rw [f1]; exact vp_in_nI ha2 (by omega)
  · show vp_in (S.2.1 12 (nI q).toNatClampNeg) 8000
    rw [f2]; exact vp_in_nI hb2 (by omega)
  · have h3 : P none (mv_pr (mv_pr S 2 (S.2.1 11 (nI q).toNatClampNeg).toNatClampNeg (S.1 0 7)) 3 (S.2.1 12 (nI q).toNatClampNeg).toNatClampNeg (S.1 0 9)) := by rw [f1, f2, nI_clamp (by omega), nI_clamp (by omega), hw, hm]; exact h
    exact h3
theorem y_rank {k s : Int32} (h : P (some (.int (xRank s k))) S) : mv_big layY sysY (d + 1) 28 [.int k, .int s] S P := ⟨40, h⟩
end LY
end
section
/-! THE REFERENCE'S MACHINE: its small parts -/
def yPush (S : mv_S) (h : Nat) (x : Int32) : mv_S := mv_pf (mv_pr (mv_pr S 25 h 0) 26 h x) 0 48 (nI (h + 1))
def yPushM (S : mv_S) (h : Nat) (x : Int32) : mv_S := mv_pf (mv_pr (mv_pr (mv_pr S 25 h 1) 27 h 0) 26 h x) 0 48 (nI (h + 1))
/-- the word k behind the next one -/
def yWd (S : mv_S) (p k : Nat) : Int32 := if S.1 0 55 = 0 then S.2.1 2 (p + k) else S.2.1 3 (p + k)
section LY
variable {d : Nat} {S : mv_S} {P : Option Value → mv_S → Prop}
theorem y_word {p k : Nat} (hp : S.1 0 51 = nI p) (h0 : S.1 0 55 = 0 → p + k < 6000) (h1 : ¬ S.1 0 55 = 0 → p + k < 8000) (h : P (some (.int (yWd S p k))) S) : mv_big layY sysY (d + 1) 49 [.ref 0, .int (nI k)] S P := by
  have e : S.1 0 51 + nI k = nI (p + k) := by rw [hp, nI_add]
  refine ⟨40, ?_⟩
  unfold yWd at h
  refine ⟨fun c => ⟨?_, ?_⟩, fun c => ⟨?_, ?_⟩⟩
  · have c : S.1 0 55 = 0 := c
    show vp_in (S.1 0 51 + nI k) 6000
    rw [e]; exact vp_in_nI (h0 c) (by decide)
  · have c : S.1 0 55 = 0 := c
    rw [if_pos c] at h
    have := h0 c
    have h3 : P (some (.int (S.2.1 2 (S.1 0 51 + nI k).toNatClampNeg))) S := by rw [e, nI_clamp (by omega)]; exact h
    exact h3
  · have c : ¬ S.1 0 55 = 0 := c
    show vp_in (S.1 0 51 + nI k) 8000
    rw [e]; exact vp_in_nI (h1 c) (by decide)
  · have c : ¬ S.1 0 55 = 0 := c
    rw [if_neg c] at h
    have := h1 c
    have h3 : P (some (.int (S.2.1 3 (S.1 0 51 + nI k).toNatClampNeg))) S := by rw [e, nI_clamp (by omega)]; exact h
    exact h3
theorem y_push {x : Int32} {q : Nat} (hq : S.1 0 48 = nI q) (hq2 : q < 4000) (h : P none (yPush S q x)) : mv_big layY sysY (d + 1) 53 [.ref 0, .int x] S P := by
  have e3 : (S.1 0 48).toNatClampNeg = q := by rw [hq]; exact nI_clamp (by omega)
  have e4 : S.1 0 48 + 1 = nI (q + 1) := by rw [hq]; exact nI_1 q
  have hv : vp_in (S.1 0 48) 4000 := by rw [hq]; exact vp_in_nI hq2 (by omega)
  refine ⟨40, Or.inl rfl, hv, hv, ?_⟩
  have h3 : P none (mv_pf (mv_pr (mv_pr S 25 (S.1 0 48).toNatClampNeg 0) 26 (S.1 0 48).toNatClampNeg x) 0 48 (S.1 0 48 + 1)) := by rw [e3, e4]; exact h
  exact h3
theorem y_pushMap {x : Int32} {q : Nat} (hq : S.1 0 48 = nI q) (hq2 : q < 4000) (h : P none (yPushM S q x)) : mv_big layY sysY (d + 1) 54 [.ref 0, .int x] S P := by
  have e3 : (S.1 0 48).toNatClampNeg = q := by rw [hq]; exact nI_clamp (by omega)
  have e4 : S.1 0 48 + 1 = nI (q + 1) := by rw [hq]; exact nI_1 q
  have hv : vp_in (S.1 0 48) 4000 := by rw [hq]; exact vp_in_nI hq2 (by omega)
  refine ⟨40, Or.inr rfl, hv, Or.inl rfl, hv, hv, ?_⟩
  have h3 : P none (mv_pf (mv_pr (mv_pr (mv_pr S 25 (S.1 0 48).toNatClampNeg 1) 27 (S.1 0 48).toNatClampNeg 0) 26 (S.1 0 48).toNatClampNeg x) 0 48 (S.1 0 48 + 1)) := by rw [e3, e4]; exact h
  exact h3
theorem y_pop {q : Nat} (hq : S.1 0 48 = nI (q + 1)) (hq2 : q < 4000) (h : P (some (.int (S.2.1 26 q))) (mv_pf S 0 48 (nI q))) : mv_big layY sysY (d + 1) 55 [.ref 0] S P := by
  have e4 : S.1 0 48 - 1 = nI q := by rw [hq]; exact nI_pred q
  refine ⟨40, ?_, ?_⟩
  · show vp_in (S.1 0 48 - 1) 4000
    rw [e4]; exact vp_in_nI hq2 (by omega)
  · have h3 : P (some (.int (S.2.1 26 (S.1 0 48 - 1).toNatClampNeg))) (mv_pf S 0 48 (S.1 0 48 - 1)) := by rw [e4, nI_clamp (by omega)]; exact h
    exact h3
theorem y_variable0 {v : Nat} (hv : v < 8) (h : P (some (.int (S.2.1 19 v))) S) : mv_big layY sysY (d + 1) 56 [.ref 0, .int (nI v), .int 0] S P := by
  refine ⟨40, fun _ => ⟨vp_in_nI hv (by decide), ?_⟩, fun z => absurd rfl z⟩
  have h3 : P (some (.int (S.2.1 19 (nI v).toNatClampNeg))) S := by rw [nI_clamp (by omega)]; exact h
  exact h3
theorem own_ix {c v : Nat} (hv : 8 ≤ v) : (6 : Int32) * nI c + nI v - 8 = nI (6 * c + (v - 8)) := by
  rw [show (6 : Int32) * nI c = nI (6 * c) from pk_mul 6 c, nI_add, show (8 : Int32) = nI 8 from rfl, pk_sub (by omega)]
  congr 1
  omega
theorem y_variable1 {v c : Nat} (hc : S.1 0 43 = nI c) (hc2 : c < 25) (hv : 8 ≤ v) (hv2 : v < 14) (h : P (some (.int (S.2.1 21 (6 * c + (v - 8))))) S) : mv_big layY sysY (d + 1) 56 [.ref 0, .int (nI v), .int 1] S P := by
  have e : (6 : Int32) * S.1 0 43 + nI v - 8 = nI (6 * c + (v - 8)) := by rw [hc]; exact own_ix hv
  refine ⟨40, fun z => absurd (show (1 : Int32) = 0 from z) (by decide), fun _ => ⟨?_, ?_⟩⟩
  · show vp_in ((6 : Int32) * S.1 0 43 + nI v - 8) 150
    rw [e]; exact vp_in_nI (by omega) (by decide)
  · have h3 : P (some (.int (S.2.1 21 ((6 : Int32) * S.1 0 43 + nI v - 8).toNatClampNeg))) S := by rw [e, nI_clamp (by omega)]; exact h
    exact h3
theorem y_setVariable {v c : Nat} {x : Int32} (hc : S.1 0 43 = nI c) (hc2 : c < 25) (hv2 : v < 14) (h : P none (if v < 8 then mv_pr S 19 v x else mv_pr S 21 (6 * c + (v - 8)) x)) : mv_big layY sysY (d + 1) 57 [.ref 0, .int (nI v), .int x] S P := by
  refine ⟨40, ?_⟩
  refine ⟨fun z => ?_, fun z => ?_⟩
  · have z : nI 8 ≤ nI v := z
    have hv : 8 ≤ v := (nI_leI (by omega) (by omega)).mp z
    have e : (6 : Int32) * S.1 0 43 + nI v - 8 = nI (6 * c + (v - 8)) := by rw [hc]; exact own_ix hv
    rw [if_neg (by omega)] at h
    refine ⟨?_, ?_⟩
    · show vp_in ((6 : Int32) * S.1 0 43 + nI v - 8) 150
      rw [e]; exact vp_in_nI (by omega) (by decide)
    · have h3 : P none (mv_pr S 21 ((6 : Int32) * S.1 0 43 + nI v - 8).toNatClampNeg x) := by rw [e, nI_clamp (by omega)]; exact h
      exact h3
  · have z : ¬ nI 8 ≤ nI v := z
    have hv : v < 8 := by
      rcases Nat.lt_or_ge v 8 with q | q
      · exact q
      · exact absurd ((nI_leI (by omega) (by omega)).mpr q) z
    rw [if_pos hv] at h
    refine ⟨vp_in_nI hv (by decide), ?_⟩
    have h3 : P none (mv_pr S 19 (nI v).toNatClampNeg x) := by rw [nI_clamp (by omega)]; exact h
    exact h3
theorem y_end {w : Int32} {p : Nat} (hp : S.1 0 51 = nI p) (h0 : S.1 0 55 = 0 → p < 6000) (h1 : ¬ S.1 0 55 = 0 → p < 8000) (h : P none (mv_pf (mv_pf S 0 53 w) 0 51 (nI (if yWd S p 0 = 16 then p + 2 else p + 1)))) : mv_big layY sysY (d + 2) 59 [.ref 0, .int w] S P := by
  refine ⟨40, ?_⟩
  refine y_word (p := p) (k := 0) hp h0 h1 ?_
  have ew : yWd (mv_pf S 0 53 w) p 0 = yWd S p 0 := rfl
  rw [ew]
  refine ⟨fun z => ?_, fun z => ?_⟩
  · have z : ¬ yWd S p 0 = 16 := z
    rw [if_neg z] at h
    have e : S.1 0 51 + 1 = nI (p + 1) := by rw [hp]; exact nI_1 p
    have h3 : P none (mv_pf (mv_pf S 0 53 w) 0 51 (S.1 0 51 + 1)) := by rw [e]; exact h
    exact h3
  · have z : yWd S p 0 = 16 := z
    rw [if_pos z] at h
    have e : S.1 0 51 + 2 = nI (p + 2) := by rw [hp]; exact nI_add p 2
    have h3 : P none (mv_pf (mv_pf S 0 53 w) 0 51 (S.1 0 51 + 2)) := by rw [e]; exact h
    exact h3
end LY
end
section
/-! THE CLASS'S CELLS: one more, hung -/
/-- the cell that would be taken -/
def xFr (S : mv_S) : Int32 := if S.1 3 14 < S.1 3 13 ∧ 0 < S.1 3 8 ∧ S.1 3 8 ≤ 803 then S.2.1 20 (S.1 3 8 - 1).toNatClampNeg else 0
def xCpOk (S : mv_S) (c : Int32) : Prop := (1 ≤ xFr S ∧ xFr S < 803) ∧ 0 ≤ c ∧ c < 803
/-- the store with cell c copied to f, which is taken -/
def xCp (S : mv_S) (f c : Nat) : mv_S :=
  let S1 := mv_pf (mv_pf S 3 8 (S.1 3 8 - 1)) 3 14 (S.1 3 14 + 1)
  mv_pr (mv_pr (mv_pr (mv_pr (mv_pr S1 15 f (S.2.1 15 c)) 16 f (S.2.1 16 c)) 17 f (S.2.1 17 c)) 18 f (S.2.1 18 c)) 19 f (S.2.1 19 c)
theorem vp_pred {i : Int32} (h0 : 0 < i) (h1 : i ≤ 803) : vp_in (i - 1) 803 := by
  have e1 : (803 : Int32).toInt = 803 := by decide
  rw [Int32.lt_iff_toInt_lt] at h0
  rw [Int32.le_iff_toInt_le] at h1
  have h0 : 0 < i.toInt := by simpa using h0
  obtain ⟨j, hj, rfl⟩ : ∃ j : Nat, j < 2 ^ 31 ∧ i = nI j := nI_of (by rw [Int32.lt_iff_toInt_lt]; simp; omega)
  rw [nI_toInt hj] at h0 h1
  obtain ⟨k, rfl⟩ : ∃ k, j = k + 1 := ⟨j - 1, by omega⟩
  rw [nI_pred]
  exact vp_in_nI (by omega) (by decide)
section LX
variable {d : Nat} {S : mv_S} {P : Option Value → mv_S → Prop}
set_option maxHeartbeats 4000000 in
set_option maxRecDepth 100000 in
theorem x_copy {c : Int32} (h1 : ¬ xCpOk S c → P (some (.int 0)) (mv_pf S 3 15 1)) (h2 : xCpOk S c → P (some (.int (xFr S))) (xCp S (xFr S).toNatClampNeg c.toNatClampNeg)) : mv_big layX sysX (d + 1) 9 [.ref 3, .int c] S P := by
  have tail : ∀ f : Int32, f = xFr S → ((f < 1 → (1 : Int32) = 0 ∨ (1 : Int32) = 1) ∧ True) := fun f _ => ⟨fun _ => Or.inr rfl, trivial⟩
  have key : (xFr S < 1 → ((1 : Int32) = 0 ∨ (1 : Int32) = 1) ∧ P (some (.int 0)) (mv_pf S 3 15 1)) ∧ (¬ xFr S < 1 → ((803 : Int32) ≤ xFr S → ((1 : Int32) = 0 ∨ (1 : Int32) = 1) ∧ P (some (.int 0)) (mv_pf S 3 15 1)) ∧ (¬ (803 : Int32) ≤ xFr S → (c < 0 → ((1 : Int32) = 0 ∨ (1 : Int32) = 1) ∧ P (some (.int 0)) (mv_pf S 3 15 1)) ∧ (¬ c < 0 → (c < 803 → vp_in c 803 ∧ vp_in (xFr S) 803 ∧ vp_in c 803 ∧ vp_in (xFr S) 803 ∧ vp_in c 803 ∧ vp_in (xFr S) 803 ∧ vp_in c 803 ∧ vp_in (xFr S) 803 ∧ vp_in c 803 ∧ vp_in (xFr S) 803 ∧ P (some (.int (xFr S))) (xCp S (xFr S).toNatClampNeg c.toNatClampNeg)) ∧ (¬ c < 803 → ((1 : Int32) = 0 ∨ (1 : Int32) = 1) ∧ P (some (.int 0)) (mv_pf S 3 15 1))))) := by
    refine ⟨fun a => ⟨Or.inr rfl, h1 (fun q => absurd q.1.1 (Int32.not_le.mpr a))⟩, fun a => ⟨fun b => ⟨Or.inr rfl, h1 (fun q => absurd q.1.2 (Int32.not_lt.mpr b))⟩, fun b => ⟨fun e => ⟨Or.inr rfl, h1 (fun q => absurd q.2.1 (Int32.not_le.mpr e))⟩, fun e => ⟨fun g => ?_, fun g => ⟨Or.inr rfl, h1 (fun q => g q.2.2)⟩⟩⟩⟩⟩
    have hc : vp_in c 803 := rIn_vp (by decide) ⟨Int32.not_lt.mp e, g⟩
    have hf : vp_in (xFr S) 803 := vp_pos (by decide) (Int32.lt_of_lt_of_le (by decide) (Int32.not_lt.mp a)) (Int32.not_le.mp b)
    exact ⟨hc, hf, hc, hf, hc, hf, hc, hf, hc, hf, h2 ⟨⟨Int32.not_lt.mp a, Int32.not_le.mp b⟩, Int32.not_lt.mp e, g⟩⟩
  refine ⟨120, ?_⟩
  unfold xFr at key
  refine ⟨fun a => ?_, fun a => ⟨fun b => ?_, fun b => ⟨fun e => ?_, fun e => ⟨?_, ?_⟩⟩⟩⟩
  · have a : S.1 3 13 ≤ S.1 3 14 := a
    rw [if_neg (fun q => absurd q.1 (Int32.not_lt.mpr a))] at key
    exact key
  · have b : S.1 3 8 ≤ 0 := b
    rw [if_neg (fun q => absurd q.2.1 (Int32.not_lt.mpr b))] at key
    exact key
  · have e : (803 : Int32) < S.1 3 8 := e
    rw [if_neg (fun q => absurd q.2.2 (Int32.not_le.mpr e))] at key
    exact key
  · have b : ¬ S.1 3 8 ≤ 0 := b
    have e : ¬ (803 : Int32) < S.1 3 8 := e
    exact vp_pred (Int32.not_le.mp b) (Int32.not_lt.mp e)
  · have a : ¬ S.1 3 13 ≤ S.1 3 14 := a
    have b : ¬ S.1 3 8 ≤ 0 := b
    have e : ¬ (803 : Int32) < S.1 3 8 := e
    rw [if_pos ⟨Int32.not_le.mp a, Int32.not_le.mp b, Int32.not_lt.mp e⟩] at key
    exact key
end LX
end
section
/-! THE CLASS'S CELLS: hung, made -/
/-- the store with a new cell f -/
def xMk (S : mv_S) (f : Nat) (k v l g : Int32) : mv_S := mv_pr (mv_pr (mv_pr (mv_pr (mv_pr (xCp S f 0) 15 f k) 16 f v) 17 f (xRank (S.1 3 12) k)) 18 f l) 19 f g
theorem vp_neg {h : Int32} (h0 : h < 0) (h1 : -803 < h) : vp_in (-h) 803 := by
  have e1 : (-803 : Int32).toInt = -803 := by decide
  rw [Int32.lt_iff_toInt_lt] at h0 h1
  rw [e1] at h1
  have h0 : h.toInt < 0 := by simpa using h0
  rw [vp_in_iff, Int32.toInt_neg]
  have : (-h.toInt).bmod (2 ^ 32) = -h.toInt := by
    apply Int.bmod_eq_of_le <;> omega
  rw [this]
  omega
section LX
variable {d : Nat} {S : mv_S} {P : Option Value → mv_S → Prop}
theorem x_hang {q t : Int32} (h : P none (xHang S q t)) : mv_big layX sysX (d + 1) 11 [.ref 3, .int q, .int t] S P := by
  unfold xHang at h
  have low : ¬ (0 < q ∧ q < 803) → ((0 ≤ q → P none S) ∧ (¬ 0 ≤ q → (q ≤ -803 → P none S) ∧ (¬ q ≤ -803 → vp_in (-q) 803 ∧ P none (mv_pr S 19 (-q).toNatClampNeg t)))) := by
    intro hn
    rw [if_neg hn] at h
    refine ⟨fun a => ?_, fun a => ⟨fun b => ?_, fun b => ⟨vp_neg (Int32.not_le.mp a) (Int32.not_le.mp b), ?_⟩⟩⟩
    · rw [if_neg (fun z => absurd a (Int32.not_le.mpr z.1))] at h; exact h
    · rw [if_neg (fun z => absurd z.2 (Int32.not_lt.mpr b))] at h; exact h
    · rw [if_pos ⟨Int32.not_le.mp a, Int32.not_le.mp b⟩] at h; exact h
  refine ⟨40, ?_⟩
  refine ⟨fun a => ?_, fun a => ⟨fun b => ?_, fun b => ⟨?_, ?_⟩⟩⟩
  · exact low (fun z => absurd z.1 (Int32.not_lt.mpr a))
  · have b : (803 : Int32) ≤ q := b
    exact low (fun z => absurd z.2 (Int32.not_lt.mpr b))
  · exact vp_pos (by decide) (Int32.not_le.mp a) (Int32.not_le.mp b)
  · rw [if_pos ⟨Int32.not_le.mp a, Int32.not_le.mp b⟩] at h; exact h
end LX
end
section
section LX
variable {d : Nat} {S : mv_S} {P : Option Value → mv_S → Prop}
set_option maxHeartbeats 4000000 in
set_option maxRecDepth 100000 in
theorem x_make {k v l g : Int32} (h1 : ¬ xCpOk S 0 → P (some (.int 0)) (mv_pf S 3 15 1)) (h2 : xCpOk S 0 → P (some (.int (xFr S))) (xMk S (xFr S).toNatClampNeg k v l g)) : mv_big layX sysX (d + 2) 10 [.ref 3, .int k, .int v, .int l, .int g] S P := by
  refine ⟨80, ?_⟩
  refine x_copy (fun c => ?_) (fun c => ?_)
  · exact ⟨fun _ => h1 c, fun z => absurd (show (0 : Int32) ≤ 0 by decide) z⟩
  · have hp : 0 < xFr S := Int32.lt_of_lt_of_le (by decide) c.1.1
    have hf : vp_in (xFr S) 803 := vp_pos (by decide) hp c.1.2
    refine ⟨fun z => absurd hp (Int32.not_lt.mpr z), fun _ => ⟨fun z => absurd c.1.2 (Int32.not_lt.mpr z), fun _ => ⟨hf, hf, ?_⟩⟩⟩
    refine x_rankOf ?_
    exact ⟨hf, hf, hf, h2 c⟩
end LX
end
section
/-! THE CLASS'S CELLS: ways down a tree -/
def xFindN : Nat → mv_S → Int32 → Int32 → Int32
  | 0, _, c, _ => c
  | n + 1, S, c, k => if c = 0 ∨ xC S 15 c = k then c else xFindN n S (if k < xC S 15 c then xC S 18 c else xC S 19 c) k
section LX
variable {d : Nat} {S : mv_S} {P : Option Value → mv_S → Prop}
theorem x_find {t key : Int32} (h : P (some (.int (xFindN 803 S t key))) S) : mv_big layX sysX (d + 2) 22 [.ref 3, .int t, .int key] S P := by
  have kk := mv_loop (T := tT0) (nL := 5) (z := some .int) (il := mX0_find.2.2.2.2.2.2.2) (lay := layX) (sys := sysX) (d := d + 1) (P := P) (pc := 5) 60 (fun k lv st S' => ∃ (i : Nat) (c : Int32), i + k = 803 ∧ lv = [(4, .int (nI i)), (3, .int c), (0, .ref 3), (1, .int t), (2, .int key)] ∧ st = [] ∧ S' = S ∧ xFindN k S c key = xFindN 803 S t key) (by
      rintro n lv st S' ⟨i, c, hk, rfl, rfl, rfl, hr⟩
      obtain rfl : i = 803 := hk
      rw [← hr] at h
      exact ⟨fun _ => h, fun z => absurd (show nI 803 ≤ nI 803 by decide) z⟩) (by
      rintro k n lv st S' ⟨i, c, hk, rfl, rfl, rfl, hr⟩ ih
      rw [xFindN] at hr
      refine ⟨fun z => absurd ((nI_leI (by omega) (by omega)).mp (show nI 803 ≤ nI i from z)) (by omega), fun _ => ⟨fun a => ?_, fun a => ?_⟩⟩
      · have a : c = 0 := a
        rw [if_pos (Or.inl a)] at hr
        rw [← hr] at h; exact h
      · have a : ¬ c = 0 := a
        refine x_key ⟨fun b => ?_, fun b => ?_⟩
        · have b : xC S' 15 c = key := b
          rw [if_pos (Or.inr b)] at hr
          rw [← hr] at h; exact h
        · have b : ¬ xC S' 15 c = key := b
          rw [if_neg (fun q => q.elim a b)] at hr
          refine x_key ⟨fun e => ?_, fun e => ?_⟩
          · have e : xC S' 15 c ≤ key := e
            rw [if_neg (Int32.not_lt.mpr e)] at hr
            refine x_greater ?_
            exact ws_istore_n rfl rfl rfl rfl (ws_iinc (y := nI (i + 1)) rfl rfl rfl (nI_succ i).symm rfl rfl (ws_goto (t := 5) rfl (by decide) (ih _ [(4, .int (nI (i + 1))), (3, .int (xC S' 19 c)), (0, .ref 3), (1, .int t), (2, .int key)] [] S' (by omega) ⟨i + 1, _, by omega, rfl, rfl, rfl, hr⟩)))
          · have e : ¬ xC S' 15 c ≤ key := e
            rw [if_pos (Int32.not_le.mp e)] at hr
            refine x_lesser ?_
            exact ws_goto (t := 48) rfl (by decide) (ws_istore_n rfl rfl rfl rfl (ws_iinc (y := nI (i + 1)) rfl rfl rfl (nI_succ i).symm rfl rfl (ws_goto (t := 5) rfl (by decide) (ih _ [(4, .int (nI (i + 1))), (3, .int (xC S' 18 c)), (0, .ref 3), (1, .int t), (2, .int key)] [] S' (by omega) ⟨i + 1, _, by omega, rfl, rfl, rfl, hr⟩)))))
  refine ⟨48244, ?_⟩
  refine ws_iload_n rfl rfl rfl (ws_istore_n rfl rfl rfl rfl (ws_iconst (x := nI 0) rfl rfl rfl (ws_istore rfl rfl rfl rfl ?_)))
  exact kk 803 48240 [(4, .int (nI 0)), (3, .int t), (0, .ref 3), (1, .int t), (2, .int key)] [] S (by omega) ⟨0, t, rfl, rfl, rfl, rfl, rfl⟩
end LX
end
section
def xFloorN : Nat → mv_S → Int32 → Int32 → Int32 → Int32
  | 0, _, b, _, _ => b
  | n + 1, S, b, c, k => if c = 0 then b else if xC S 15 c ≤ k then xFloorN n S c (xC S 19 c) k else xFloorN n S b (xC S 18 c) k
def xLeastN : Nat → mv_S → Int32 → Int32 → Int64 → Int32
  | 0, _, b, _, _ => b
  | n + 1, S, b, c, k => if c = 0 then b else if lg_cmp (xC S 15 c).toInt64 k < 0 then xLeastN n S b (xC S 19 c) k else xLeastN n S c (xC S 18 c) k
section LX
variable {d : Nat} {S : mv_S} {P : Option Value → mv_S → Prop}
theorem x_floor {t key : Int32} (h : P (some (.int (xFloorN 803 S 0 t key))) S) : mv_big layX sysX (d + 2) 24 [.ref 3, .int t, .int key] S P := by
  have kk := mv_loop (T := tT0) (nL := 6) (z := some .int) (il := mX0_floor.2.2.2.2.2.2.2) (lay := layX) (sys := sysX) (d := d + 1) (P := P) (pc := 8) 60 (fun k lv st S' => ∃ (i : Nat) (c b : Int32), i + k = 803 ∧ lv = [(5, .int (nI i)), (4, .int c), (3, .int b), (0, .ref 3), (1, .int t), (2, .int key)] ∧ st = [] ∧ S' = S ∧ xFloorN k S b c key = xFloorN 803 S 0 t key) (by
      rintro n lv st S' ⟨i, c, b, hk, rfl, rfl, rfl, hr⟩
      obtain rfl : i = 803 := hk
      rw [← hr] at h
      exact ⟨fun _ => h, fun z => absurd (show nI 803 ≤ nI 803 by decide) z⟩) (by
      rintro k n lv st S' ⟨i, c, b, hk, rfl, rfl, rfl, hr⟩ ih
      rw [xFloorN] at hr
      refine ⟨fun z => absurd ((nI_leI (by omega) (by omega)).mp (show nI 803 ≤ nI i from z)) (by omega), fun _ => ⟨fun a => ?_, fun a => ?_⟩⟩
      · have a : c = 0 := a
        rw [if_pos a] at hr
        rw [← hr] at h; exact h
      · have a : ¬ c = 0 := a
        rw [if_neg a] at hr
        refine x_key ⟨fun e => ?_, fun e => ?_⟩
        · have e : key < xC S' 15 c := e
          rw [if_neg (Int32.not_le.mpr e)] at hr
          refine x_lesser ?_
          exact ws_istore rfl rfl rfl rfl (ws_iinc (y := nI (i + 1)) rfl rfl rfl (nI_succ i).symm rfl rfl (ws_goto (t := 8) rfl (by decide) (ih _ [(5, .int (nI (i + 1))), (4, .int (xC S' 18 c)), (3, .int b), (0, .ref 3), (1, .int t), (2, .int key)] [] S' (by omega) ⟨i + 1, _, _, by omega, rfl, rfl, rfl, hr⟩)))
        · have e : ¬ key < xC S' 15 c := e
          rw [if_pos (Int32.not_lt.mp e)] at hr
          refine x_greater ?_
          exact ws_istore rfl rfl rfl rfl (ws_goto (t := 53) rfl (by decide) (ws_iinc (y := nI (i + 1)) rfl rfl rfl (nI_succ i).symm rfl rfl (ws_goto (t := 8) rfl (by decide) (ih _ [(5, .int (nI (i + 1))), (4, .int (xC S' 19 c)), (3, .int c), (0, .ref 3), (1, .int t), (2, .int key)] [] S' (by omega) ⟨i + 1, _, _, by omega, rfl, rfl, rfl, hr⟩)))))
  refine ⟨48246, ?_⟩
  refine ws_iconst (x := 0) rfl rfl rfl (ws_istore_n rfl rfl rfl rfl (ws_iload_n rfl rfl rfl (ws_istore rfl rfl rfl rfl (ws_iconst (x := nI 0) rfl rfl rfl (ws_istore rfl rfl rfl rfl ?_)))))
  exact kk 803 48240 [(5, .int (nI 0)), (4, .int t), (3, .int 0), (0, .ref 3), (1, .int t), (2, .int key)] [] S (by omega) ⟨0, t, 0, rfl, rfl, rfl, rfl, rfl⟩
theorem x_least {t : Int32} {key : Int64} (h : P (some (.int (xLeastN 803 S 0 t key))) S) : mv_big layX sysX (d + 2) 23 [.ref 3, .int t, .long key] S P := by
  have kk := mv_loop (T := tT0) (nL := 7) (z := some .int) (il := mX0_least.2.2.2.2.2.2.2) (lay := layX) (sys := sysX) (d := d + 1) (P := P) (pc := 9) 60 (fun k lv st S' => ∃ (i : Nat) (c b : Int32), i + k = 803 ∧ lv = [(6, .int (nI i)), (5, .int c), (4, .int b), (0, .ref 3), (1, .int t), (2, .long key)] ∧ st = [] ∧ S' = S ∧ xLeastN k S b c key = xLeastN 803 S 0 t key) (by
      rintro n lv st S' ⟨i, c, b, hk, rfl, rfl, rfl, hr⟩
      obtain rfl : i = 803 := hk
      rw [← hr] at h
      exact ⟨fun _ => h, fun z => absurd (show nI 803 ≤ nI 803 by decide) z⟩) (by
      rintro k n lv st S' ⟨i, c, b, hk, rfl, rfl, rfl, hr⟩ ih
      rw [xLeastN] at hr
      refine ⟨fun z => absurd ((nI_leI (by omega) (by omega)).mp (show nI 803 ≤ nI i from z)) (by omega), fun _ => ⟨fun a => ?_, fun a => ?_⟩⟩
      · have a : c = 0 := a
        rw [if_pos a] at hr
        rw [← hr] at h; exact h
      · have a : ¬ c = 0 := a
        rw [if_neg a] at hr
        refine x_key ⟨fun e => ?_, fun e => ?_⟩
        · have e : lg_cmp (xC S' 15 c).toInt64 key < 0 := e
          rw [if_pos e] at hr
          refine x_greater ?_
          exact ws_istore rfl rfl rfl rfl (ws_iinc (y := nI (i + 1)) rfl rfl rfl (nI_succ i).symm rfl rfl (ws_goto (t := 9) rfl (by decide) (ih _ [(6, .int (nI (i + 1))), (5, .int (xC S' 19 c)), (4, .int b), (0, .ref 3), (1, .int t), (2, .long key)] [] S' (by omega) ⟨i + 1, _, _, by omega, rfl, rfl, rfl, hr⟩)))
        · have e : ¬ lg_cmp (xC S' 15 c).toInt64 key < 0 := e
          rw [if_neg e] at hr
          refine x_lesser ?_
          exact ws_istore rfl rfl rfl rfl (ws_goto (t := 57) rfl (by decide) (ws_iinc (y := nI (i + 1)) rfl rfl rfl (nI_succ i).symm rfl rfl (ws_goto (t := 9) rfl (by decide) (ih _ [(6, .int (nI (i + 1))), (5, .int (xC S' 18 c)), (4, .int c), (0, .ref 3), (1, .int t), (2, .long key)] [] S' (by omega) ⟨i + 1, _, _, by omega, rfl, rfl, rfl, hr⟩)))))
  refine ⟨48246, ?_⟩
  refine ws_iconst (x := 0) rfl rfl rfl (ws_istore rfl rfl rfl rfl (ws_iload_n rfl rfl rfl (ws_istore rfl rfl rfl rfl (ws_iconst (x := nI 0) rfl rfl rfl (ws_istore rfl rfl rfl rfl ?_)))))
  exact kk 803 48240 [(6, .int (nI 0)), (5, .int t), (4, .int 0), (0, .ref 3), (1, .int t), (2, .long key)] [] S (by omega) ⟨0, t, 0, rfl, rfl, rfl, rfl, rfl⟩
end LX
end
section
def xNthN : Nat → mv_S → Int32 → Int32 → Int32
  | 0, _, _, c => c
  | n + 1, S, t, c => if c = 0 then c else xNthN n S t (xLeastN 803 S 0 t ((xC S 15 c).toInt64 + 1))
/-- the n-th cell of a tree -/
def xNth (S : mv_S) (t n : Int32) : Int32 := if n < 0 then 0 else xNthN n.toNatClampNeg S t (xLeastN 803 S 0 t (-2147483648))
section LX
variable {d : Nat} {S : mv_S} {P : Option Value → mv_S → Prop}
theorem x_nth {t m : Int32} (h : P (some (.int (xNth S t m))) S) : mv_big layX sysX (d + 3) 25 [.ref 3, .int t, .int m] S P := by
  unfold xNth at h
  by_cases hm : m < 0
  · rw [if_pos hm] at h
    refine ⟨60, ?_⟩
    exact ⟨fun z => absurd (show 0 ≤ m from z) (Int32.not_le.mpr hm), fun _ => h⟩
  · rw [if_neg hm] at h
    obtain ⟨N, hN, rfl⟩ := nI_of hm
    rw [nI_clamp hN] at h
    obtain ⟨c0, hc0⟩ : ∃ c0, c0 = xLeastN 803 S 0 t (-2147483648) := ⟨_, rfl⟩
    rw [← hc0] at h
    have kk := mv_loop (T := tT0) (nL := 5) (z := some .int) (il := mX0_nth.2.2.2.2.2.2.2) (lay := layX) (sys := sysX) (d := d + 2) (P := P) (pc := 18) 60 (fun k lv st S' => ∃ (i : Nat) (c : Int32), i + k = N ∧ lv = [(4, .int (nI i)), (3, .int c), (0, .ref 3), (1, .int t), (2, .int (nI N))] ∧ st = [] ∧ S' = S ∧ xNthN k S t c = xNthN N S t c0) (by
        rintro n lv st S' ⟨i, c, hk, rfl, rfl, rfl, hr⟩
        obtain rfl : i = N := hk
        rw [← hr] at h
        exact ⟨fun _ => h, fun z => absurd (show nI i ≤ nI i from Int32.le_refl _) z⟩) (by
        rintro k n lv st S' ⟨i, c, hk, rfl, rfl, rfl, hr⟩ ih
        rw [xNthN] at hr
        refine ⟨fun z => absurd ((nI_leI (by omega) (by omega)).mp (show nI N ≤ nI i from z)) (by omega), fun _ => ⟨fun a => ?_, fun a => ?_⟩⟩
        · have a : c = 0 := a
          rw [if_pos a] at hr
          rw [← hr] at h; exact h
        · have a : ¬ c = 0 := a
          rw [if_neg a] at hr
          refine x_key ?_
          refine x_least ?_
          exact ws_istore_n rfl rfl rfl rfl (ws_iinc (y := nI (i + 1)) rfl rfl rfl (nI_succ i).symm rfl rfl (ws_goto (t := 18) rfl (by decide) (ih _ [(4, .int (nI (i + 1))), (3, .int _), (0, .ref 3), (1, .int t), (2, .int (nI N))] [] S' (by omega) ⟨i + 1, _, by omega, rfl, rfl, rfl, hr⟩))))
    refine ⟨60 * (N + 1) + 10, ?_⟩
    refine ws_iload_n rfl rfl rfl (ws_i rfl ⟨fun _ => ?_, fun z => absurd (nI_pos' hN) z⟩)
    subst hc0
    refine x_least ?_
    exact ws_istore_n rfl rfl rfl rfl (ws_iconst (x := nI 0) rfl rfl rfl (ws_istore rfl rfl rfl rfl (kk N _ [(4, .int (nI 0)), (3, .int (xLeastN 803 S 0 t (-2147483648))), (0, .ref 3), (1, .int t), (2, .int (nI N))] [] S (by omega) ⟨0, _, by omega, rfl, rfl, rfl, rfl⟩)))
end LX
end
section
/-! THE REFERENCE'S CELLS: a way down a tree that ends -/
def yFindN : Nat → mv_S → Int32 → Int32 → Option Int32
  | 0, _, _, _ => none
  | n + 1, S, c, k => if c ≤ 0 then some c else if 900 ≤ c then none else if S.2.1 13 c.toNatClampNeg = k then some c else yFindN n S (if k < S.2.1 13 c.toNatClampNeg then S.2.1 15 c.toNatClampNeg else S.2.1 16 c.toNatClampNeg) k
section LY
variable {d : Nat} {S : mv_S} {P : Option Value → mv_S → Prop}
theorem y_find {t key r : Int32} {N : Nat} (hN : yFindN N S t key = some r) (h : P (some (.int r)) S) : mv_big layY sysY (d + 1) 37 [.ref 0, .int t, .int key] S P := by
  have kk := mv_loop (T := tT11) (nL := 4) (z := some .int) (il := mX11_find.2.2.2.2.2.2.2) (lay := layY) (sys := sysY) (d := d) (P := P) (pc := 2) 60 (fun k lv st S' => ∃ c : Int32, lv = [(3, .int c), (0, .ref 0), (1, .int t), (2, .int key)] ∧ st = [] ∧ S' = S ∧ yFindN k S c key = some r) (by
      rintro n lv st S' ⟨c, rfl, rfl, rfl, hr⟩
      cases hr) (by
      rintro k n lv st S' ⟨c, rfl, rfl, rfl, hr⟩ ih
      rw [yFindN] at hr
      refine ⟨fun a => ?_, fun a => ?_⟩
      · have a : c ≤ 0 := a
        rw [if_pos a] at hr
        cases hr; exact h
      · have a : ¬ c ≤ 0 := a
        rw [if_neg a] at hr
        by_cases b : (900 : Int32) ≤ c
        · rw [if_pos b] at hr; cases hr
        · rw [if_neg b] at hr
          have hv : vp_in c 900 := vp_pos (by decide) (Int32.not_le.mp a) (Int32.not_le.mp b)
          refine ⟨hv, fun e => ?_, fun e => ⟨hv, fun g => ⟨hv, ?_⟩, fun g => ⟨hv, ?_⟩⟩⟩
          · have e : S'.2.1 13 c.toNatClampNeg = key := e
            rw [if_pos e] at hr
            cases hr; exact h
          · have e : ¬ S'.2.1 13 c.toNatClampNeg = key := e
            have g : S'.2.1 13 c.toNatClampNeg ≤ key := g
            rw [if_neg e, if_neg (Int32.not_lt.mpr g)] at hr
            exact ws_istore_n rfl rfl rfl rfl (ws_goto (t := 2) rfl (by decide) (ih _ [(3, .int (S'.2.1 16 c.toNatClampNeg)), (0, .ref 0), (1, .int t), (2, .int key)] [] S' (by omega) ⟨_, rfl, rfl, rfl, hr⟩))
          · have e : ¬ S'.2.1 13 c.toNatClampNeg = key := e
            have g : ¬ S'.2.1 13 c.toNatClampNeg ≤ key := g
            rw [if_neg e, if_pos (Int32.not_le.mp g)] at hr
            exact ws_goto (t := 41) rfl (by decide) (ws_istore_n rfl rfl rfl rfl (ws_goto (t := 2) rfl (by decide) (ih _ [(3, .int (S'.2.1 15 c.toNatClampNeg)), (0, .ref 0), (1, .int t), (2, .int key)] [] S' (by omega) ⟨_, rfl, rfl, rfl, hr⟩))))
  refine ⟨60 * (N + 1) + 2, ?_⟩
  refine ws_iload_n rfl rfl rfl (ws_istore_n rfl rfl rfl rfl ?_)
  exact kk N _ [(3, .int t), (0, .ref 0), (1, .int t), (2, .int key)] [] S (by omega) ⟨t, rfl, rfl, rfl, hN⟩
end LY
end
section
def yFloorN : Nat → mv_S → Int32 → Int32 → Int32 → Option Int32
  | 0, _, _, _, _ => none
  | n + 1, S, f, c, k => if c ≤ 0 then some f else if 900 ≤ c then none else if S.2.1 13 c.toNatClampNeg ≤ k then yFloorN n S c (S.2.1 16 c.toNatClampNeg) k else yFloorN n S f (S.2.1 15 c.toNatClampNeg) k
section LY
variable {d : Nat} {S : mv_S} {P : Option Value → mv_S → Prop}
theorem y_floor {t key r : Int32} {N : Nat} (hN : yFloorN N S 0 t key = some r) (h : P (some (.int r)) S) : mv_big layY sysY (d + 1) 43 [.ref 0, .int t, .int key] S P := by
  have one : ¬ (1 : Int32) = 0 := by decide
  have kk := mv_loop (T := tT11) (nL := 6) (z := some .int) (il := mX11_floor.2.2.2.2.2.2.2) (lay := layY) (sys := sysY) (d := d) (P := P) (pc := 5) 60 (fun k lv st S' => ∃ c f : Int32, (lv = [(4, .int f), (3, .int c), (0, .ref 0), (1, .int t), (2, .int key)] ∨ ∃ w : Int32, lv = [(3, .int c), (4, .int f), (5, .int w), (0, .ref 0), (1, .int t), (2, .int key)]) ∧ st = [] ∧ S' = S ∧ yFloorN k S f c key = some r) (by
      rintro n lv st S' ⟨c, f, -, rfl, rfl, hr⟩
      cases hr) (by
      rintro k n lv st S' ⟨c, f, hlv, rfl, rfl, hr⟩ ih
      rw [yFloorN] at hr
      have hv : ¬ c ≤ 0 → ¬ (900 : Int32) ≤ c → vp_in c 900 := fun a b => vp_pos (by decide) (Int32.not_le.mp a) (Int32.not_le.mp b)
      rcases hlv with rfl | ⟨w, rfl⟩
      all_goals
        refine ⟨fun a => ?_, fun a => ?_⟩
        · have a : c ≤ 0 := a
          rw [if_pos a] at hr
          cases hr; exact h
        · have a : ¬ c ≤ 0 := a
          rw [if_neg a] at hr
          by_cases b : (900 : Int32) ≤ c
          · rw [if_pos b] at hr; cases hr
          · rw [if_neg b] at hr
            have hv := hv a b
            refine ⟨hv, fun e => ⟨fun _ => ⟨fun _ => ⟨hv, ?_⟩, fun z => absurd rfl z⟩, fun z => absurd rfl z⟩, fun e => ⟨fun z => absurd z one, fun _ => ⟨fun z => absurd z one, fun _ => ⟨hv, ?_⟩⟩⟩⟩
            · have e : key < S'.2.1 13 c.toNatClampNeg := e
              rw [if_neg (Int32.not_le.mpr e)] at hr
              exact ws_istore_n rfl rfl rfl rfl (ws_goto (t := 5) rfl (by decide) (ih _ [(3, .int (S'.2.1 15 c.toNatClampNeg)), (4, .int f), (5, .int 0), (0, .ref 0), (1, .int t), (2, .int key)] [] S' (by omega) ⟨_, _, Or.inr ⟨_, rfl⟩, rfl, rfl, hr⟩))
            · have e : ¬ key < S'.2.1 13 c.toNatClampNeg := e
              rw [if_pos (Int32.not_lt.mp e)] at hr
              exact ws_goto (t := 59) rfl (by decide) (ws_istore_n rfl rfl rfl rfl (ws_goto (t := 5) rfl (by decide) (ih _ [(3, .int (S'.2.1 16 c.toNatClampNeg)), (4, .int c), (5, .int 1), (0, .ref 0), (1, .int t), (2, .int key)] [] S' (by omega) ⟨_, _, Or.inr ⟨_, rfl⟩, rfl, rfl, hr⟩))))
  refine ⟨60 * (N + 1) + 4, ?_⟩
  refine ws_iload_n rfl rfl rfl (ws_istore_n rfl rfl rfl rfl (ws_iconst (x := 0) rfl rfl rfl (ws_istore rfl rfl rfl rfl ?_)))
  exact kk N _ [(4, .int 0), (3, .int t), (0, .ref 0), (1, .int t), (2, .int key)] [] S (by omega) ⟨t, 0, Or.inl rfl, rfl, rfl, hN⟩
end LY
end
section
def yAboveN : Nat → mv_S → Int32 → Int32 → Int32 → Int32 → Option Int32
  | 0, _, _, _, _, _ => none
  | n + 1, S, f, c, k, al => if c ≤ 0 then some f else if 900 ≤ c then none else if ¬ al = 0 ∨ k < S.2.1 13 c.toNatClampNeg then yAboveN n S c (S.2.1 15 c.toNatClampNeg) k al else yAboveN n S f (S.2.1 16 c.toNatClampNeg) k al
section LY
variable {d : Nat} {S : mv_S} {P : Option Value → mv_S → Prop}
theorem y_above {t key al r : Int32} {N : Nat} (hN : yAboveN N S 0 t key al = some r) (h : P (some (.int r)) S) : mv_big layY sysY (d + 1) 42 [.ref 0, .int t, .int key, .int al] S P := by
  have one : ¬ (1 : Int32) = 0 := by decide
  have kk := mv_loop (T := tT11) (nL := 7) (z := some .int) (il := mX11_above.2.2.2.2.2.2.2) (lay := layY) (sys := sysY) (d := d) (P := P) (pc := 6) 60 (fun k lv st S' => ∃ c f : Int32, (lv = [(5, .int f), (4, .int c), (0, .ref 0), (1, .int t), (2, .int key), (3, .int al)] ∨ ∃ w : Int32, lv = [(4, .int c), (5, .int f), (6, .int w), (0, .ref 0), (1, .int t), (2, .int key), (3, .int al)]) ∧ st = [] ∧ S' = S ∧ yAboveN k S f c key al = some r) (by
      rintro n lv st S' ⟨c, f, -, rfl, rfl, hr⟩
      cases hr) (by
      rintro k n lv st S' ⟨c, f, hlv, rfl, rfl, hr⟩ ih
      rw [yAboveN] at hr
      have hv : ¬ c ≤ 0 → ¬ (900 : Int32) ≤ c → vp_in c 900 := fun a b => vp_pos (by decide) (Int32.not_le.mp a) (Int32.not_le.mp b)
      rcases hlv with rfl | ⟨w, rfl⟩
      all_goals
        refine ⟨fun a => ?_, fun a => ?_⟩
        · have a : c ≤ 0 := a
          rw [if_pos a] at hr
          cases hr; exact h
        · have a : ¬ c ≤ 0 := a
          rw [if_neg a] at hr
          by_cases b : (900 : Int32) ≤ c
          · rw [if_pos b] at hr; cases hr
          · rw [if_neg b] at hr
            have hv := hv a b
            refine ⟨fun e => ⟨fun z => absurd z one, fun _ => ⟨fun z => absurd z one, fun _ => ⟨hv, ?_⟩⟩⟩, fun e => ⟨hv, fun g => ⟨fun _ => ⟨fun _ => ⟨hv, ?_⟩, fun z => absurd rfl z⟩, fun z => absurd rfl z⟩, fun g => ⟨fun z => absurd z one, fun _ => ⟨fun z => absurd z one, fun _ => ⟨hv, ?_⟩⟩⟩⟩⟩
            · have e : ¬ al = 0 := e
              rw [if_pos (Or.inl e)] at hr
              exact ws_goto (t := 69) rfl (by decide) (ws_istore rfl rfl rfl rfl (ws_goto (t := 6) rfl (by decide) (ih _ [(4, .int (S'.2.1 15 c.toNatClampNeg)), (5, .int c), (6, .int 1), (0, .ref 0), (1, .int t), (2, .int key), (3, .int al)] [] S' (by omega) ⟨_, _, Or.inr ⟨_, rfl⟩, rfl, rfl, hr⟩)))
            · have e : al = 0 := e
              have g : S'.2.1 13 c.toNatClampNeg ≤ key := g
              rw [if_neg (fun q => q.elim (fun z => z e) (fun z => absurd z (Int32.not_lt.mpr g)))] at hr
              exact ws_istore rfl rfl rfl rfl (ws_goto (t := 6) rfl (by decide) (ih _ [(4, .int (S'.2.1 16 c.toNatClampNeg)), (5, .int f), (6, .int 0), (0, .ref 0), (1, .int t), (2, .int key), (3, .int al)] [] S' (by omega) ⟨_, _, Or.inr ⟨_, rfl⟩, rfl, rfl, hr⟩))
            · have g : ¬ S'.2.1 13 c.toNatClampNeg ≤ key := g
              rw [if_pos (Or.inr (Int32.not_le.mp g))] at hr
              exact ws_goto (t := 69) rfl (by decide) (ws_istore rfl rfl rfl rfl (ws_goto (t := 6) rfl (by decide) (ih _ [(4, .int (S'.2.1 15 c.toNatClampNeg)), (5, .int c), (6, .int 1), (0, .ref 0), (1, .int t), (2, .int key), (3, .int al)] [] S' (by omega) ⟨_, _, Or.inr ⟨_, rfl⟩, rfl, rfl, hr⟩))))
  refine ⟨60 * (N + 1) + 4, ?_⟩
  refine ws_iload_n rfl rfl rfl (ws_istore rfl rfl rfl rfl (ws_iconst (x := 0) rfl rfl rfl (ws_istore rfl rfl rfl rfl ?_)))
  exact kk N _ [(5, .int 0), (4, .int t), (0, .ref 0), (1, .int t), (2, .int key), (3, .int al)] [] S (by omega) ⟨t, 0, Or.inl rfl, rfl, rfl, hN⟩
end LY
end
section
/-- what an instruction 4 .. 10 makes of two numbers, as the reference says it -/
def opY (w a b : Int32) : Int32 := if w = 4 then a + b else if w = 5 then a - b else if w = 6 then a * b else if w = 7 then (if b = -1 then -a else a / b) else if w = 8 then (if b = -1 then 0 else a - a / b * b) else if w = 9 then (if a < b then 1 else 0) else (if a = b then 1 else 0)
section LY
variable {d : Nat} {S : mv_S} {P : Option Value → mv_S → Prop}
theorem y_of {w a b : Int32} (hz : w = 7 ∨ w = 8 → ¬ b = 0) (h : P (some (.int (opY w a b))) S) : mv_big layY sysY (d + 1) 61 [.int w, .int a, .int b] S P := by
  refine ⟨40, ?_⟩
  refine ⟨fun e => ?_, fun e4 => ⟨fun e => ?_, fun e5 => ⟨fun e => ?_, fun e6 => ⟨fun e => ?_, fun e7 => ⟨fun e => ?_, fun e8 => ⟨fun e => ?_, fun e9 => ?_⟩⟩⟩⟩⟩⟩
  · have e : w = 4 := e
    subst e; exact h
  · have e : w = 5 := e
    subst e; exact h
  · have e : w = 6 := e
    subst e; exact h
  · have e : w = 7 := e
    have hz2 := hz (Or.inl e)
    subst e
    have h : P (some (.int (if b = -1 then -a else a / b))) S := h
    refine ⟨fun c => ⟨hz2, ?_⟩, fun c => ?_⟩
    · have c : ¬ b = -1 := c
      rw [if_neg c] at h; exact h
    · have c : b = -1 := c
      rw [if_pos c] at h; exact h
  · have e : w = 8 := e
    have hz2 := hz (Or.inr e)
    subst e
    have h : P (some (.int (if b = -1 then 0 else a - a / b * b))) S := h
    refine ⟨fun c => ⟨hz2, ?_⟩, fun c => ?_⟩
    · have c : ¬ b = -1 := c
      rw [if_neg c] at h; exact h
    · have c : b = -1 := c
      rw [if_pos c] at h; exact h
  · have e : w = 9 := e
    subst e
    have h : P (some (.int (if a < b then 1 else 0))) S := h
    refine ⟨fun c => ?_, fun c => ?_⟩
    · have c : b ≤ a := c
      rw [if_neg (Int32.not_lt.mpr c)] at h; exact h
    · have c : ¬ b ≤ a := c
      rw [if_pos (Int32.not_le.mp c)] at h; exact h
  · have g4 : ¬ w = 4 := e4
    have g5 : ¬ w = 5 := e5
    have g6 : ¬ w = 6 := e6
    have g7 : ¬ w = 7 := e7
    have g8 : ¬ w = 8 := e8
    have g9 : ¬ w = 9 := e9
    unfold opY at h
    rw [if_neg g4, if_neg g5, if_neg g6, if_neg g7, if_neg g8, if_neg g9] at h
    refine ⟨fun c => ?_, fun c => ?_⟩
    · have c : ¬ a = b := c
      rw [if_neg c] at h; exact h
    · have c : a = b := c
      rw [if_pos c] at h; exact h
end LY
end
section
/-! THE COMPILER AS A FUNCTION: what both sides make of the tokens. n tokens tk (beyond them -1), parameters par (-1: no such function), mk: with marks, mn: in the main part. An answer is a fault and its place, or the place behind, the words, and what is noted of places (false: behind, true: turn) -/
abbrev cRes : Type := Except (Int32 × Nat) (Nat × List Int32 × List (Bool × Nat × Nat))
abbrev cEr (w : Int32) (p : Nat) : cRes := Except.error (w, p)
abbrev cHasF (par : Nat → Int32) (f : Int32) : Prop := 0 ≤ f ∧ f < 8 ∧ ¬ par f.toNatClampNeg = -1
abbrev cKind (m : Bool) (t : Int32) : Prop := if m then 40 ≤ t ∧ t ≤ 44 else 20 ≤ t ∧ t ≤ 36
abbrev cIsS (t : Int32) : Prop := 1 ≤ t ∧ t ≤ 9 ∧ ¬ t = 4
def cThen (a : cRes) (f : Nat → Nat → cRes) : cRes :=
  match a with
  | .error e => .error e
  | .ok (p1, l1, s1) =>
    match f p1 l1.length with
    | .error e => .error e
    | .ok (p2, l2, s2) => .ok (p2, l1 ++ l2, s1 ++ s2)
def cMany (rec : Nat → Nat → cRes) : Nat → Nat → Nat → cRes
  | 0, p, _ => .ok (p, [], [])
  | k + 1, p, b => cThen (rec p b) (fun p1 w => cMany rec k p1 (b + w))
def cLoop (tk : Nat → Int32) (st : Nat → Nat → cRes) : Nat → Nat → Nat → cRes
  | 0, p, _ => .ok (p, [], [])
  | k + 1, p, b => if cIsS (tk p) then cThen (st p b) (fun p1 w => cLoop tk st k p1 (b + w)) else .ok (p, [], [])
def cBare (n : Nat) (tk : Nat → Int32) (lim : Int32) (p : Nat) : Except (Int32 × Nat) Nat :=
  if p < n then (if 0 ≤ tk p ∧ tk p < lim then .ok (p + 1) else .error (-12, p)) else .error (-11, p)
def cKnown (n : Nat) (tk : Nat → Int32) (par : Nat → Int32) (p : Nat) : Except (Int32 × Nat) Nat :=
  if cHasF par (tk p) then .ok (p + 1) else if p < n then (if 0 ≤ tk p ∧ tk p < 8 then .error (-14, p) else .error (-12, p)) else .error (-11, p)
def cArg (n : Nat) (tk : Nat → Int32) (par : Nat → Int32) (t : Int32) (p : Nat) : Except (Int32 × Nat) Nat :=
  if t = 1 ∨ t = 21 then cBare n tk 14 p else if t = 2 ∨ t = 40 then cBare n tk 6 p else if t = 8 ∨ t = 36 then cKnown n tk par p else if t = 20 then (if p < n then .ok (p + 1) else .error (-11, p)) else .ok p
def cPar (par : Nat → Int32) (f : Int32) : Int32 := if cHasF par f then par f.toNatClampNeg else 0
def cNums (tk : Nat → Int32) (par : Nat → Int32) (p : Nat) : Int32 := if tk p = 8 ∨ tk p = 36 then cPar par (tk (p + 1)) else tkNums (tk p)
def cParts (rec : Bool → Nat → Nat → cRes) (m k p b : Nat) : cRes := cThen (cMany (rec true) m p b) (fun p2 w => cMany (rec false) k p2 (b + w))
def cPlain (n : Nat) (tk : Nat → Int32) (par : Nat → Int32) (rec : Bool → Nat → Nat → cRes) (p b : Nat) : cRes :=
  match cArg n tk par (tk p) (p + 1) with
  | .error e => .error e
  | .ok p1 =>
    match cParts rec (tkMaps (tk p)).toNatClampNeg (cNums tk par p).toNatClampNeg p1 b with
    | .error e => .error e
    | .ok (p3, l, s) => .ok (p3, l ++ tkWord (tk p) :: (if 0 < tkArg (tk p) then [tk (p + 1)] else []), s)
def cEither (rec : Bool → Nat → Nat → cRes) (t : Int32) (p b : Nat) : cRes :=
  match rec false (p + 1) b with
  | .error e => .error e
  | .ok (p1, l1, s1) =>
    match rec false p1 (b + l1.length + 2) with
    | .error e => .error e
    | .ok (p2, l2, s2) => .ok (p2, l1 ++ (if t = 30 then 13 else 14) :: nI (b + l1.length + 2 + l2.length + 4) :: (l2 ++ [11, 11, 12, nI (b + l1.length + 2 + l2.length + 6), 1, if t = 30 then 0 else 1]), s1 ++ s2)
def cMark (mk : Bool) (note : Nat → List (Bool × Nat × Nat)) (a : cRes) : cRes :=
  match a with
  | .error e => .error e
  | .ok (p1, l, s) => .ok (p1, if mk then 30 :: l else l, s ++ note p1)
/-- an E (m false) or M (m true) at p, its words from b; r levels are left -/
def cEM (n : Nat) (tk : Nat → Int32) (par : Nat → Int32) (mk : Bool) : Nat → Bool → Nat → Nat → cRes
  | 0, m, p, _ => if cKind m (tk p) then cEr (-15) p else cEr (-11) p
  | r + 1, m, p, b => if cKind m (tk p) then cMark mk (fun p1 => if m then [] else [(false, p, p1)]) (if tk p = 30 ∨ tk p = 31 then cEither (cEM n tk par mk r) (tk p) p (b + mk.toNat) else cPlain n tk par (cEM n tk par mk r) p (b + mk.toNat)) else cEr (-11) p
def cIf (tk : Nat → Int32) (rec : Bool → Nat → Nat → cRes) (blk : Nat → Nat → cRes) (p b : Nat) : cRes :=
  match rec false (p + 1) b with
  | .error e => .error e
  | .ok (p1, l1, s1) =>
    match blk p1 (b + l1.length + 2) with
    | .error e => .error e
    | .ok (p2, l2, s2) =>
      if tk p2 = 4 then
        match blk (p2 + 1) (b + l1.length + 2 + l2.length + 2) with
        | .error e => .error e
        | .ok (p3, l3, s3) => if tk p3 = 0 then .ok (p3 + 1, l1 ++ 13 :: nI (b + l1.length + 2 + l2.length + 2) :: (l2 ++ 12 :: nI (b + l1.length + 2 + l2.length + 2 + l3.length) :: l3), s1 ++ (s2 ++ (true, p, p2) :: s3)) else cEr (-11) p3
      else if tk p2 = 0 then .ok (p2 + 1, l1 ++ 13 :: nI (b + l1.length + 2 + l2.length) :: l2, s1 ++ (s2 ++ [(true, p, p2)])) else cEr (-11) p2
def cWhile (tk : Nat → Int32) (rec : Bool → Nat → Nat → cRes) (blk : Nat → Nat → cRes) (p b : Nat) : cRes :=
  match rec false (p + 1) b with
  | .error e => .error e
  | .ok (p1, l1, s1) =>
    match blk p1 (b + l1.length + 2) with
    | .error e => .error e
    | .ok (p2, l2, s2) => if tk p2 = 0 then .ok (p2 + 1, l1 ++ 13 :: nI (b + l1.length + 2 + l2.length + 2) :: (l2 ++ [12, nI b]), s1 ++ s2) else cEr (-11) p2
def cEach (n : Nat) (tk : Nat → Int32) (blk : Nat → Nat → cRes) (p b : Nat) : cRes :=
  match cBare n tk 6 (p + 1) with
  | .error e => .error e
  | .ok _ =>
    match cBare n tk 14 (p + 2) with
    | .error e => .error e
    | .ok _ =>
      match cBare n tk 14 (p + 3) with
      | .error e => .error e
      | .ok _ =>
        match blk (p + 4) (b + 6) with
        | .error e => .error e
        | .ok (p2, l2, s2) => if tk p2 = 0 then .ok (p2 + 1, 19 :: tk (p + 1) :: 29 :: tk (p + 2) :: tk (p + 3) :: nI (b + 6 + l2.length + 2) :: (l2 ++ [12, nI (b + 2)]), s2) else cEr (-11) p2
def cAnswer (mn : Bool) (rec : Bool → Nat → Nat → cRes) (p b : Nat) : cRes :=
  match rec false (p + 1) b with
  | .error e => .error e
  | .ok (p1, l1, s1) => .ok (p1, l1 ++ (if mn then [18, 0] else [17]), s1)
def cCallS (a : cRes) : cRes :=
  match a with
  | .error e => .error e
  | .ok (p1, l1, s1) => .ok (p1, l1 ++ [18], s1)
/-- an S at p -/
def cStm (n : Nat) (tk : Nat → Int32) (par : Nat → Int32) (mk mn : Bool) : Nat → Nat → Nat → cRes
  | 0, p, _ => cEr (-15) p
  | r + 1, p, b => cMark mk (fun p1 => [(false, p, p1)])
      (if tk p = 3 then cIf tk (cEM n tk par mk r) (cLoop tk (cStm n tk par mk mn r) 700) p (b + mk.toNat)
       else if tk p = 5 then cWhile tk (cEM n tk par mk r) (cLoop tk (cStm n tk par mk mn r) 700) p (b + mk.toNat)
       else if tk p = 6 then cEach n tk (cLoop tk (cStm n tk par mk mn r) 700) p (b + mk.toNat)
       else if tk p = 9 then cAnswer mn (cEM n tk par mk r) p (b + mk.toNat)
       else if tk p = 8 then cCallS (cPlain n tk par (cEM n tk par mk r) p (b + mk.toNat))
       else cPlain n tk par (cEM n tk par mk r) p (b + mk.toNat))
def cBlk (n : Nat) (tk : Nat → Int32) (par : Nat → Int32) (mk mn : Bool) (r p b : Nat) : cRes := cLoop tk (cStm n tk par mk mn r) 700 p b
/-- the functions: place behind, words, notes, parameters, and of each function its number, first word and place -/
def cFuns (n : Nat) (tk : Nat → Int32) (mk : Bool) : Nat → (Nat → Int32) → Nat → Nat → Except (Int32 × Nat) (Nat × List Int32 × List (Bool × Nat × Nat) × (Nat → Int32) × List (Nat × Nat × Nat))
  | 0, par, p, _ => .ok (p, [], [], par, [])
  | k + 1, par, p, b =>
    if tk p = 10 then
      if cHasF par (tk (p + 1)) then .error (-13, p + 1) else
      match cBare n tk 8 (p + 1) with
      | .error e => .error e
      | .ok _ =>
        match cBare n tk 4 (p + 2) with
        | .error e => .error e
        | .ok _ =>
          match cBlk n tk (upd par (tk (p + 1)).toNatClampNeg (tk (p + 2))) mk false 16 (p + 3) b with
          | .error e => .error e
          | .ok (p1, l1, s1) =>
            if tk p1 = 0 then
              match cFuns n tk mk k (upd par (tk (p + 1)).toNatClampNeg (tk (p + 2))) (p1 + 1) (b + l1.length + 3) with
              | .error e => .error e
              | .ok (p2, l2, s2, par2, fs) => .ok (p2, l1 ++ 1 :: 0 :: 17 :: l2, s1 ++ s2, par2, ((tk (p + 1)).toNatClampNeg, b, p) :: fs)
            else .error (-11, p1)
    else .ok (p, [], [], par, [])
/-- the whole: words, notes, parameters, functions, the main part's first word and place -/
def cAll (n : Nat) (tk : Nat → Int32) (mk : Bool) : Except (Int32 × Nat) (List Int32 × List (Bool × Nat × Nat) × (Nat → Int32) × List (Nat × Nat × Nat) × Nat × Nat) :=
  match cFuns n tk mk 9 (fun _ => -1) 0 0 with
  | .error e => .error e
  | .ok (p, l, s, par, fs) =>
    if tk p = 11 then
      match cBlk n tk par mk true 16 (p + 1) l.length with
      | .error e => .error e
      | .ok (p1, l1, s1) =>
        if tk p1 = 0 then (if p1 + 1 < n then .error (-11, p1 + 1) else .ok (l ++ (l1 ++ [0]), s ++ s1, par, fs, l.length, p)) else .error (-11, p1)
    else .error (-11, p)
end
section
/-! THE COMPILER AS A FUNCTION: it goes on, and lays at most W words for a token -/
/-- what stands before p is passed, no token beyond n, at most W words for each -/
def cLn (n W p : Nat) (a : cRes) : Prop := ∀ p1 l s, a = .ok (p1, l, s) → p ≤ p1 ∧ p1 ≤ n ∧ l.length + W * p ≤ W * p1
def cLs (n W p : Nat) (a : cRes) : Prop := ∀ p1 l s, a = .ok (p1, l, s) → p < p1 ∧ p1 ≤ n ∧ l.length + W * p ≤ W * p1
theorem cThen_ok {a : cRes} {f : Nat → Nat → cRes} {p l s} (h : cThen a f = .ok (p, l, s)) : ∃ p1 l1 s1 l2 s2, a = .ok (p1, l1, s1) ∧ f p1 l1.length = .ok (p, l2, s2) ∧ l = l1 ++ l2 ∧ s = s1 ++ s2 := by
  unfold cThen at h
  match a, h with
  | .ok (p1, l1, s1), h =>
    simp only at h
    match hf : f p1 l1.length, h with
    | .ok (p2, l2, s2), h =>
      simp only [Except.ok.injEq, Prod.mk.injEq] at h
      obtain ⟨rfl, rfl, rfl⟩ := h
      exact ⟨p1, l1, s1, l2, s2, rfl, hf, rfl, rfl⟩
    | .error e, h => cases h
theorem cLn_then {n W p : Nat} {a : cRes} {f : Nat → Nat → cRes} (ha : cLn n W p a) (hf : ∀ p1 w, p ≤ p1 → p1 ≤ n → cLn n W p1 (f p1 w)) : cLn n W p (cThen a f) := by
  intro p2 l s h
  obtain ⟨p1, l1, s1, l2, s2, h1, h2, rfl, rfl⟩ := cThen_ok h
  have a1 := ha _ _ _ h1
  have a2 := hf p1 l1.length a1.1 a1.2.1 _ _ _ h2
  rw [List.length_append]
  omega
theorem cLs_ln {n W p : Nat} {a : cRes} (h : cLs n W p a) : cLn n W p a := fun p1 l s e => ⟨Nat.le_of_lt (h p1 l s e).1, (h p1 l s e).2⟩
theorem cLn_many {n W : Nat} {rec : Nat → Nat → cRes} (hr : ∀ p b, p ≤ n → cLn n W p (rec p b)) : ∀ k p b, p ≤ n → cLn n W p (cMany rec k p b) := by
  intro k
  induction k with
  | zero =>
    intro p b hp p1 l s h
    simp only [cMany, Except.ok.injEq, Prod.mk.injEq] at h
    obtain ⟨rfl, rfl, rfl⟩ := h
    simp [hp]
  | succ k ih =>
    intro p b hp
    exact cLn_then (hr p b hp) (fun p1 w _ h2 => ih p1 (b + w) h2)
theorem cLn_loop {n W : Nat} {tk : Nat → Int32} {st : Nat → Nat → cRes} (hr : ∀ p b, p ≤ n → cLn n W p (st p b)) : ∀ k p b, p ≤ n → cLn n W p (cLoop tk st k p b) := by
  intro k
  induction k with
  | zero =>
    intro p b hp p1 l s h
    simp only [cLoop, Except.ok.injEq, Prod.mk.injEq] at h
    obtain ⟨rfl, rfl, rfl⟩ := h
    simp [hp]
  | succ k ih =>
    intro p b hp p1 l s h
    unfold cLoop at h
    split at h
    · exact cLn_then (hr p b hp) (fun p1 w _ h2 => ih p1 (b + w) h2) _ _ _ h
    · simp only [Except.ok.injEq, Prod.mk.injEq] at h
      obtain ⟨rfl, rfl, rfl⟩ := h
      simp [hp]
theorem cBare_ok {n : Nat} {tk : Nat → Int32} {lim : Int32} {p q : Nat} (h : cBare n tk lim p = .ok q) : q = p + 1 ∧ p < n ∧ 0 ≤ tk p ∧ tk p < lim := by
  unfold cBare at h
  split at h
  · split at h
    · cases h; exact ⟨rfl, ‹_›, ‹_›⟩
    · cases h
  · cases h
theorem cKnown_ok {n : Nat} {tk par : Nat → Int32} (ht : ∀ p, n ≤ p → tk p = -1) {p q : Nat} (h : cKnown n tk par p = .ok q) : q = p + 1 ∧ p < n ∧ cHasF par (tk p) := by
  unfold cKnown at h
  split at h
  · rename_i hf
    cases h
    refine ⟨rfl, ?_, hf⟩
    by_cases hp : p < n
    · exact hp
    · have := hf.1
      rw [ht p (by omega)] at this
      exact absurd this (by decide)
  · split at h
    · split at h <;> cases h
    · cases h
theorem cArg_ok {n : Nat} {tk par : Nat → Int32} (ht : ∀ p, n ≤ p → tk p = -1) {t : Int32} {p q : Nat} (h : cArg n tk par t p = .ok q) : (tkArg t = 0 ∨ t = 6) ∧ q = p ∨ tkArg t = 1 ∧ q = p + 1 ∧ p < n ∧ (t = 1 ∨ t = 21 → 0 ≤ tk p ∧ tk p < 14) ∧ (t = 2 ∨ t = 40 → 0 ≤ tk p ∧ tk p < 6) ∧ (t = 8 ∨ t = 36 → cHasF par (tk p)) := by
  unfold cArg at h
  split at h
  · rename_i c
    have := cBare_ok h
    refine Or.inr ⟨by rcases c with rfl | rfl <;> rfl, this.1, this.2.1, fun _ => this.2.2, fun e => ?_, fun e => ?_⟩ <;> rcases c with rfl | rfl <;> rcases e with e | e <;> exact absurd e (by decide)
  · split at h
    · rename_i c
      have := cBare_ok h
      refine Or.inr ⟨by rcases c with rfl | rfl <;> rfl, this.1, this.2.1, fun e => ?_, fun _ => this.2.2, fun e => ?_⟩ <;> rcases c with rfl | rfl <;> rcases e with e | e <;> exact absurd e (by decide)
    · split at h
      · rename_i c
        have := cKnown_ok ht h
        refine Or.inr ⟨by rcases c with rfl | rfl <;> rfl, this.1, this.2.1, fun e => ?_, fun e => ?_, fun _ => this.2.2⟩ <;> rcases c with rfl | rfl <;> rcases e with e | e <;> exact absurd e (by decide)
      · split at h
        · rename_i c
          subst c
          split at h
          · cases h
            refine Or.inr ⟨rfl, rfl, ‹_›, fun e => ?_, fun e => ?_, fun e => ?_⟩ <;> rcases e with e | e <;> exact absurd e (by decide)
          · cases h
        · rename_i c1 c2 c3 c4
          cases h
          refine Or.inl ⟨?_, rfl⟩
          unfold tkArg
          simp only [not_or] at c1 c2 c3
          simp only [c1, c2, c3, c4, or_self, if_false]
          by_cases h6 : t = 6 <;> simp [h6]
theorem cParts_ln {n W : Nat} {rec : Bool → Nat → Nat → cRes} (hr : ∀ m p b, p ≤ n → cLn n W p (rec m p b)) {m k p b : Nat} (hp : p ≤ n) : cLn n W p (cParts rec m k p b) :=
  cLn_then (cLn_many (hr true) m p b hp) (fun p1 w _ h2 => cLn_many (hr false) k p1 (b + w) h2)
theorem cPlain_ok {n : Nat} {tk par : Nat → Int32} {rec : Bool → Nat → Nat → cRes} {p b p1 : Nat} {l s} (h : cPlain n tk par rec p b = .ok (p1, l, s)) : ∃ p0 l0, cArg n tk par (tk p) (p + 1) = .ok p0 ∧ cParts rec (tkMaps (tk p)).toNatClampNeg (cNums tk par p).toNatClampNeg p0 b = .ok (p1, l0, s) ∧ l = l0 ++ tkWord (tk p) :: (if 0 < tkArg (tk p) then [tk (p + 1)] else []) := by
  unfold cPlain at h
  match ha : cArg n tk par (tk p) (p + 1), h with
  | .ok p0, h =>
    simp only at h
    match hc : cParts rec (tkMaps (tk p)).toNatClampNeg (cNums tk par p).toNatClampNeg p0 b, h with
    | .ok (p3, l0, s0), h =>
      simp only [Except.ok.injEq, Prod.mk.injEq] at h
      obtain ⟨rfl, rfl, rfl⟩ := h
      exact ⟨p0, l0, rfl, hc, rfl⟩
    | .error e, h => cases h
  | .error e, h => cases h
theorem cEither_ok {rec : Bool → Nat → Nat → cRes} {t : Int32} {p b p2 : Nat} {l s} (h : cEither rec t p b = .ok (p2, l, s)) : ∃ p1 l1 s1 l2 s2, rec false (p + 1) b = .ok (p1, l1, s1) ∧ rec false p1 (b + l1.length + 2) = .ok (p2, l2, s2) ∧ l = l1 ++ (if t = 30 then 13 else 14) :: nI (b + l1.length + 2 + l2.length + 4) :: (l2 ++ [11, 11, 12, nI (b + l1.length + 2 + l2.length + 6), 1, if t = 30 then 0 else 1]) ∧ s = s1 ++ s2 := by
  unfold cEither at h
  match ha : rec false (p + 1) b, h with
  | .ok (p1, l1, s1), h =>
    simp only at h
    match hc : rec false p1 (b + l1.length + 2), h with
    | .ok (p3, l2, s2), h =>
      simp only [Except.ok.injEq, Prod.mk.injEq] at h
      obtain ⟨rfl, rfl, rfl⟩ := h
      exact ⟨p1, l1, s1, l2, s2, rfl, hc, rfl, rfl⟩
    | .error e, h => cases h
  | .error e, h => cases h
theorem cMark_ok {mk : Bool} {note : Nat → List (Bool × Nat × Nat)} {a : cRes} {p1 l s} (h : cMark mk note a = .ok (p1, l, s)) : ∃ l0 s0, a = .ok (p1, l0, s0) ∧ l = (if mk then 30 :: l0 else l0) ∧ s = s0 ++ note p1 := by
  unfold cMark at h
  match a, h with
  | .ok (p, l0, s0), h =>
    simp only [Except.ok.injEq, Prod.mk.injEq] at h
    obtain ⟨rfl, rfl, rfl⟩ := h
    exact ⟨l0, s0, rfl, rfl, rfl⟩
theorem cPlain_ls {n W : Nat} {tk par : Nat → Int32} {rec : Bool → Nat → Nat → cRes} (ht : ∀ p, n ≤ p → tk p = -1) (hW : 4 ≤ W) (hr : ∀ m p b, p ≤ n → cLn n W p (rec m p b)) {p b : Nat} (hp : p < n) {p1 l s} (h : cPlain n tk par rec p b = .ok (p1, l, s)) : p < p1 ∧ p1 ≤ n ∧ l.length + W * p + (W - 2) ≤ W * p1 := by
  obtain ⟨p0, l0, h1, h2, rfl⟩ := cPlain_ok h
  have h3 := cArg_ok ht h1
  have hl : (l0 ++ tkWord (tk p) :: (if 0 < tkArg (tk p) then [tk (p + 1)] else [])).length ≤ l0.length + 2 := by
    rw [List.length_append, List.length_cons]
    split <;> simp
  have hm : W * (p + 1) = W * p + W := Nat.mul_succ W p
  have hm2 : W * (p + 2) = W * p + W + W := by rw [Nat.mul_succ W (p + 1), hm]
  rcases h3 with ⟨_, rfl⟩ | ⟨_, rfl, h4, _⟩
  · have := cParts_ln hr (by omega) _ _ _ h2
    omega
  · have := cParts_ln hr (by omega) _ _ _ h2
    have hm3 : W * (p + 1 + 1) = W * p + W + W := hm2
    omega
theorem cEither_ls {n W : Nat} {rec : Bool → Nat → Nat → cRes} (hW : 8 ≤ W) (hr : ∀ m p b, p ≤ n → cLn n W p (rec m p b)) {t : Int32} {p b : Nat} (hp : p < n) {p1 l s} (h : cEither rec t p b = .ok (p1, l, s)) : p < p1 ∧ p1 ≤ n ∧ l.length + W * p + (W - 8) ≤ W * p1 := by
  obtain ⟨p2, l1, s1, l2, s2, h1, h2, rfl, rfl⟩ := cEither_ok h
  have a1 := hr false (p + 1) b hp _ _ _ h1
  have a2 := hr false p2 _ a1.2.1 _ _ _ h2
  have hm : W * (p + 1) = W * p + W := Nat.mul_succ W p
  simp only [List.length_append, List.length_cons, List.length_nil]
  omega
theorem tk_in {n : Nat} {tk : Nat → Int32} (ht : ∀ p, n ≤ p → tk p = -1) {p : Nat} (h : ¬ tk p = -1) : p < n := by
  by_cases hp : p < n
  · exact hp
  · exact absurd (ht p (by omega)) h
theorem cKind_in {n : Nat} {tk : Nat → Int32} (ht : ∀ p, n ≤ p → tk p = -1) {m : Bool} {p : Nat} (h : cKind m (tk p)) : p < n := by
  refine tk_in ht (fun e => ?_)
  rw [e] at h
  cases m <;> revert h <;> decide
theorem cEM_ls {n : Nat} {tk par : Nat → Int32} {mk : Bool} (ht : ∀ p, n ≤ p → tk p = -1) : ∀ r m p b, cLs n (8 + mk.toNat) p (cEM n tk par mk r m p b) := by
  intro r
  induction r with
  | zero =>
    intro m p b p1 l s h
    unfold cEM at h
    split at h <;> cases h
  | succ r ih =>
    intro m p b p1 l s h
    unfold cEM at h
    have hr : ∀ m p b, p ≤ n → cLn n (8 + mk.toNat) p (cEM n tk par mk r m p b) := fun m p b _ => cLs_ln (ih m p b)
    split at h
    · rename_i hk
      have hp := cKind_in ht hk
      obtain ⟨l0, s0, h1, rfl, rfl⟩ := cMark_ok h
      have hl : (if mk then 30 :: l0 else l0).length = l0.length + mk.toNat := by cases mk <;> rfl
      rw [hl]
      split at h1
      · have := cEither_ls (by omega) hr hp h1
        omega
      · have := cPlain_ls ht (by omega) hr hp h1
        have hb : mk.toNat ≤ 1 := by cases mk <;> decide
        omega
    · cases h
end
section
/-! THE COMPILER AS A FUNCTION: statements go on -/
theorem cIf_ok {tk : Nat → Int32} {rec : Bool → Nat → Nat → cRes} {blk : Nat → Nat → cRes} {p b p' : Nat} {l s} (h : cIf tk rec blk p b = .ok (p', l, s)) : ∃ p1 l1 s1 p2 l2 s2, rec false (p + 1) b = .ok (p1, l1, s1) ∧ blk p1 (b + l1.length + 2) = .ok (p2, l2, s2) ∧ ((tk p2 = 4 ∧ ∃ p3 l3 s3, blk (p2 + 1) (b + l1.length + 2 + l2.length + 2) = .ok (p3, l3, s3) ∧ tk p3 = 0 ∧ p' = p3 + 1 ∧ l = l1 ++ 13 :: nI (b + l1.length + 2 + l2.length + 2) :: (l2 ++ 12 :: nI (b + l1.length + 2 + l2.length + 2 + l3.length) :: l3) ∧ s = s1 ++ (s2 ++ (true, p, p2) :: s3)) ∨ (tk p2 = 0 ∧ p' = p2 + 1 ∧ l = l1 ++ 13 :: nI (b + l1.length + 2 + l2.length) :: l2 ∧ s = s1 ++ (s2 ++ [(true, p, p2)]))) := by
  unfold cIf at h
  match ha : rec false (p + 1) b, h with
  | .ok (p1, l1, s1), h =>
    simp only at h
    match hc : blk p1 (b + l1.length + 2), h with
    | .ok (p2, l2, s2), h =>
      simp only at h
      refine ⟨p1, l1, s1, p2, l2, s2, rfl, hc, ?_⟩
      split at h
      · rename_i h4
        match hd : blk (p2 + 1) (b + l1.length + 2 + l2.length + 2), h with
        | .ok (p3, l3, s3), h =>
          simp only at h
          split at h
          · rename_i h0
            simp only [Except.ok.injEq, Prod.mk.injEq] at h
            obtain ⟨rfl, rfl, rfl⟩ := h
            exact Or.inl ⟨h4, p3, l3, s3, rfl, h0, rfl, rfl, rfl⟩
          · cases h
        | .error e, h => cases h
      · split at h
        · rename_i h0
          simp only [Except.ok.injEq, Prod.mk.injEq] at h
          obtain ⟨rfl, rfl, rfl⟩ := h
          exact Or.inr ⟨h0, rfl, rfl, rfl⟩
        · cases h
    | .error e, h => cases h
  | .error e, h => cases h
theorem cWhile_ok {tk : Nat → Int32} {rec : Bool → Nat → Nat → cRes} {blk : Nat → Nat → cRes} {p b p' : Nat} {l s} (h : cWhile tk rec blk p b = .ok (p', l, s)) : ∃ p1 l1 s1 p2 l2 s2, rec false (p + 1) b = .ok (p1, l1, s1) ∧ blk p1 (b + l1.length + 2) = .ok (p2, l2, s2) ∧ tk p2 = 0 ∧ p' = p2 + 1 ∧ l = l1 ++ 13 :: nI (b + l1.length + 2 + l2.length + 2) :: (l2 ++ [12, nI b]) ∧ s = s1 ++ s2 := by
  unfold cWhile at h
  match ha : rec false (p + 1) b, h with
  | .ok (p1, l1, s1), h =>
    simp only at h
    match hc : blk p1 (b + l1.length + 2), h with
    | .ok (p2, l2, s2), h =>
      simp only at h
      split at h
      · rename_i h0
        simp only [Except.ok.injEq, Prod.mk.injEq] at h
        obtain ⟨rfl, rfl, rfl⟩ := h
        exact ⟨p1, l1, s1, p2, l2, s2, rfl, hc, h0, rfl, rfl, rfl⟩
      · cases h
    | .error e, h => cases h
  | .error e, h => cases h
theorem cEach_ok {n : Nat} {tk : Nat → Int32} {blk : Nat → Nat → cRes} {p b p' : Nat} {l s} (h : cEach n tk blk p b = .ok (p', l, s)) : ∃ p2 l2, cBare n tk 6 (p + 1) = .ok (p + 2) ∧ cBare n tk 14 (p + 2) = .ok (p + 3) ∧ cBare n tk 14 (p + 3) = .ok (p + 4) ∧ blk (p + 4) (b + 6) = .ok (p2, l2, s) ∧ tk p2 = 0 ∧ p' = p2 + 1 ∧ l = 19 :: tk (p + 1) :: 29 :: tk (p + 2) :: tk (p + 3) :: nI (b + 6 + l2.length + 2) :: (l2 ++ [12, nI (b + 2)]) := by
  unfold cEach at h
  match h1 : cBare n tk 6 (p + 1), h with
  | .ok q1, h =>
    simp only at h
    match h2 : cBare n tk 14 (p + 2), h with
    | .ok q2, h =>
      simp only at h
      match h3 : cBare n tk 14 (p + 3), h with
      | .ok q3, h =>
        simp only at h
        match hc : blk (p + 4) (b + 6), h with
        | .ok (p2, l2, s2), h =>
          simp only at h
          split at h
          · rename_i h0
            simp only [Except.ok.injEq, Prod.mk.injEq] at h
            obtain ⟨rfl, rfl, rfl⟩ := h
            obtain rfl := (cBare_ok h1).1
            obtain rfl := (cBare_ok h2).1
            obtain rfl := (cBare_ok h3).1
            exact ⟨p2, l2, rfl, rfl, rfl, rfl, h0, rfl, rfl⟩
          · cases h
        | .error e, h => cases h
      | .error e, h => cases h
    | .error e, h => cases h
  | .error e, h => cases h
theorem cAnswer_ok {mn : Bool} {rec : Bool → Nat → Nat → cRes} {p b p' : Nat} {l s} (h : cAnswer mn rec p b = .ok (p', l, s)) : ∃ l1, rec false (p + 1) b = .ok (p', l1, s) ∧ l = l1 ++ (if mn then [18, 0] else [17]) := by
  unfold cAnswer at h
  match ha : rec false (p + 1) b, h with
  | .ok (p1, l1, s1), h =>
    simp only [Except.ok.injEq, Prod.mk.injEq] at h
    obtain ⟨rfl, rfl, rfl⟩ := h
    exact ⟨l1, rfl, rfl⟩
  | .error e, h => cases h
theorem cCallS_ok {a : cRes} {p' : Nat} {l s} (h : cCallS a = .ok (p', l, s)) : ∃ l1, a = .ok (p', l1, s) ∧ l = l1 ++ [18] := by
  unfold cCallS at h
  match a, h with
  | .ok (p1, l1, s1), h =>
    simp only [Except.ok.injEq, Prod.mk.injEq] at h
    obtain ⟨rfl, rfl, rfl⟩ := h
    exact ⟨l1, rfl, rfl⟩
theorem cIf_ls {n W : Nat} {tk : Nat → Int32} (ht : ∀ p, n ≤ p → tk p = -1) {rec : Bool → Nat → Nat → cRes} {blk : Nat → Nat → cRes} (hW : 8 ≤ W) (hr : ∀ m p b, p ≤ n → cLn n W p (rec m p b)) (hb : ∀ p b, p ≤ n → cLn n W p (blk p b)) {p b : Nat} (hp : p < n) {p1 l s} (h : cIf tk rec blk p b = .ok (p1, l, s)) : p < p1 ∧ p1 ≤ n ∧ l.length + W * p + (W - 2) ≤ W * p1 := by
  obtain ⟨p2, l1, s1, p3, l2, s2, h1, h2, h3⟩ := cIf_ok h
  have a1 := hr false (p + 1) b hp _ _ _ h1
  have a2 := hb p2 _ a1.2.1 _ _ _ h2
  have hm : W * (p + 1) = W * p + W := Nat.mul_succ W p
  have hm2 : W * (p3 + 1) = W * p3 + W := Nat.mul_succ W p3
  rcases h3 with ⟨h4, p4, l3, s3, h5, h0, rfl, rfl, _⟩ | ⟨h0, rfl, rfl, _⟩
  · have hn4 : p3 < n := tk_in ht (by rw [h4]; decide)
    have a3 := hb (p3 + 1) _ hn4 _ _ _ h5
    have hn : p4 < n := tk_in ht (by rw [h0]; decide)
    have hm3 : W * (p4 + 1) = W * p4 + W := Nat.mul_succ W p4
    simp only [List.length_append, List.length_cons]
    omega
  · have hn : p3 < n := tk_in ht (by rw [h0]; decide)
    simp only [List.length_append, List.length_cons]
    omega
theorem cWhile_ls {n W : Nat} {tk : Nat → Int32} (ht : ∀ p, n ≤ p → tk p = -1) {rec : Bool → Nat → Nat → cRes} {blk : Nat → Nat → cRes} (hW : 8 ≤ W) (hr : ∀ m p b, p ≤ n → cLn n W p (rec m p b)) (hb : ∀ p b, p ≤ n → cLn n W p (blk p b)) {p b : Nat} (hp : p < n) {p1 l s} (h : cWhile tk rec blk p b = .ok (p1, l, s)) : p < p1 ∧ p1 ≤ n ∧ l.length + W * p + (W - 2) ≤ W * p1 := by
  obtain ⟨p2, l1, s1, p3, l2, s2, h1, h2, h0, rfl, rfl, _⟩ := cWhile_ok h
  have a1 := hr false (p + 1) b hp _ _ _ h1
  have a2 := hb p2 _ a1.2.1 _ _ _ h2
  have hm : W * (p + 1) = W * p + W := Nat.mul_succ W p
  have hm2 : W * (p3 + 1) = W * p3 + W := Nat.mul_succ W p3
  have hn : p3 < n := tk_in ht (by rw [h0]; decide)
  simp only [List.length_append, List.length_cons, List.length_nil]
  omega
theorem cEach_ls {n W : Nat} {tk : Nat → Int32} (ht : ∀ p, n ≤ p → tk p = -1) {blk : Nat → Nat → cRes} (hW : 8 ≤ W) (hb : ∀ p b, p ≤ n → cLn n W p (blk p b)) {p b : Nat} {p1 l s} (h : cEach n tk blk p b = .ok (p1, l, s)) : p < p1 ∧ p1 ≤ n ∧ l.length + W * p + (W - 2) ≤ W * p1 := by
  obtain ⟨p2, l2, h1, h2, h3, h4, h0, rfl, rfl⟩ := cEach_ok h
  have a2 := hb (p + 4) _ (cBare_ok h3).2.1 _ _ _ h4
  have hm : W * (p + 4) = W * p + W * 4 := Nat.mul_add W p 4
  have hm2 : W * (p2 + 1) = W * p2 + W := Nat.mul_succ W p2
  have hn : p2 < n := tk_in ht (by rw [h0]; decide)
  simp only [List.length_append, List.length_cons, List.length_nil]
  omega
theorem cIsS_in {n : Nat} {tk : Nat → Int32} (ht : ∀ p, n ≤ p → tk p = -1) {p : Nat} (h : cIsS (tk p)) : p < n := by
  refine tk_in ht (fun e => ?_)
  rw [e] at h
  revert h; decide
theorem cStm_ls {n : Nat} {tk par : Nat → Int32} {mk mn : Bool} (ht : ∀ p, n ≤ p → tk p = -1) : ∀ r p b, p < n → cLs n (8 + mk.toNat) p (cStm n tk par mk mn r p b) := by
  intro r
  induction r with
  | zero =>
    intro p b _ p1 l s h
    unfold cStm at h
    cases h
  | succ r ih =>
    intro p b hp p1 l s h
    unfold cStm at h
    have hr : ∀ m p b, p ≤ n → cLn n (8 + mk.toNat) p (cEM n tk par mk r m p b) := fun m p b _ => cLs_ln (cEM_ls ht r m p b)
    have hb : ∀ p b, p ≤ n → cLn n (8 + mk.toNat) p (cLoop tk (cStm n tk par mk mn r) 700 p b) := fun p b h => by
      have key : ∀ k p b, p ≤ n → cLn n (8 + mk.toNat) p (cLoop tk (cStm n tk par mk mn r) k p b) := by
        intro k
        induction k with
        | zero =>
          intro p b hp p1 l s h
          simp only [cLoop, Except.ok.injEq, Prod.mk.injEq] at h
          obtain ⟨rfl, rfl, rfl⟩ := h
          simp [hp]
        | succ k ih2 =>
          intro p b hp p1 l s h
          unfold cLoop at h
          split at h
          · exact cLn_then (cLs_ln (ih p b (cIsS_in ht ‹_›))) (fun p1 w _ h2 => ih2 p1 (b + w) h2) _ _ _ h
          · simp only [Except.ok.injEq, Prod.mk.injEq] at h
            obtain ⟨rfl, rfl, rfl⟩ := h
            simp [hp]
      exact key 700 p b h
    obtain ⟨l0, s0, h1, rfl, rfl⟩ := cMark_ok h
    have hl : (if mk then 30 :: l0 else l0).length = l0.length + mk.toNat := by cases mk <;> rfl
    have hk : mk.toNat ≤ 1 := by cases mk <;> decide
    rw [hl]
    have hm : (8 + mk.toNat) * (p + 1) = (8 + mk.toNat) * p + (8 + mk.toNat) := Nat.mul_succ _ p
    split at h1
    · have := cIf_ls ht (by omega) hr hb hp h1
      omega
    · split at h1
      · have := cWhile_ls ht (by omega) hr hb hp h1
        omega
      · split at h1
        · have := cEach_ls ht (by omega) hb h1
          omega
        · split at h1
          · obtain ⟨l1, h2, rfl⟩ := cAnswer_ok h1
            have := hr false (p + 1) _ hp _ _ _ h2
            have hq : (if mn then [18, (0 : Int32)] else [17]).length ≤ 2 := by cases mn <;> decide
            rw [List.length_append]
            omega
          · split at h1
            · obtain ⟨l1, h2, rfl⟩ := cCallS_ok h1
              have := cPlain_ls ht (by omega) hr hp h2
              rw [List.length_append, List.length_singleton]
              omega
            · have := cPlain_ls ht (by omega) hr hp h1
              omega
theorem cBlk_ln {n : Nat} {tk par : Nat → Int32} {mk mn : Bool} (ht : ∀ p, n ≤ p → tk p = -1) {r p b : Nat} (hp : p ≤ n) (k : Nat) : cLn n (8 + mk.toNat) p (cLoop tk (cStm n tk par mk mn r) k p b) := by
  have key : ∀ k p b, p ≤ n → cLn n (8 + mk.toNat) p (cLoop tk (cStm n tk par mk mn r) k p b) := by
    intro k
    induction k with
    | zero =>
      intro p b hp p1 l s h
      simp only [cLoop, Except.ok.injEq, Prod.mk.injEq] at h
      obtain ⟨rfl, rfl, rfl⟩ := h
      simp [hp]
    | succ k ih2 =>
      intro p b hp p1 l s h
      unfold cLoop at h
      split at h
      · exact cLn_then (cLs_ln (cStm_ls ht r p b (cIsS_in ht ‹_›))) (fun p1 w _ h2 => ih2 p1 (b + w) h2) _ _ _ h
      · simp only [Except.ok.injEq, Prod.mk.injEq] at h
        obtain ⟨rfl, rfl, rfl⟩ := h
        simp [hp]
  exact key k p b hp
end
section
/-! THE COMPILER AS A FUNCTION: where its notes are of -/
def cNt (p : Nat) (a : cRes) : Prop := ∀ p1 l s, a = .ok (p1, l, s) → ∀ g q e, (g, q, e) ∈ s → p ≤ q
theorem cNt_then {n W p : Nat} {a : cRes} {f : Nat → Nat → cRes} (ha : cLn n W p a) (hna : cNt p a) (hf : ∀ p1 w, p ≤ p1 → p1 ≤ n → cNt p1 (f p1 w)) : cNt p (cThen a f) := by
  intro p2 l s h g q e hm
  obtain ⟨p1, l1, s1, l2, s2, h1, h2, rfl, rfl⟩ := cThen_ok h
  have a1 := ha _ _ _ h1
  rcases List.mem_append.mp hm with hm | hm
  · exact hna _ _ _ h1 g q e hm
  · have := hf p1 _ a1.1 a1.2.1 _ _ _ h2 g q e hm
    omega
theorem cNt_many {n W : Nat} {rec : Nat → Nat → cRes} (hr : ∀ p b, p ≤ n → cLn n W p (rec p b)) (hn : ∀ p b, p ≤ n → cNt p (rec p b)) : ∀ k p b, p ≤ n → cNt p (cMany rec k p b) := by
  intro k
  induction k with
  | zero =>
    intro p b hp p1 l s h g q e hm
    simp only [cMany, Except.ok.injEq, Prod.mk.injEq] at h
    obtain ⟨rfl, rfl, rfl⟩ := h
    simp at hm
  | succ k ih =>
    intro p b hp
    exact cNt_then (hr p b hp) (hn p b hp) (fun p1 w _ h2 => ih p1 (b + w) h2)
theorem cParts_nt {n W : Nat} {rec : Bool → Nat → Nat → cRes} (hr : ∀ m p b, p ≤ n → cLn n W p (rec m p b)) (hn : ∀ m p b, p ≤ n → cNt p (rec m p b)) {m k p b : Nat} (hp : p ≤ n) : cNt p (cParts rec m k p b) :=
  cNt_then (cLn_many (hr true) m p b hp) (cNt_many (hr true) (hn true) m p b hp) (fun p1 w _ h2 => cNt_many (hr false) (hn false) k p1 (b + w) h2)
theorem cPlain_nt {n W : Nat} {tk par : Nat → Int32} {rec : Bool → Nat → Nat → cRes} (ht : ∀ p, n ≤ p → tk p = -1) (hr : ∀ m p b, p ≤ n → cLn n W p (rec m p b)) (hn : ∀ m p b, p ≤ n → cNt p (rec m p b)) {p b : Nat} (hp : p < n) : cNt (p + 1) (cPlain n tk par rec p b) := by
  intro p1 l s h g q e hm
  obtain ⟨p0, l0, h1, h2, rfl⟩ := cPlain_ok h
  have h3 := cArg_ok ht h1
  have hq : p + 1 ≤ p0 ∧ p0 ≤ n := by rcases h3 with ⟨_, rfl⟩ | ⟨_, rfl, h4, _⟩ <;> omega
  have := cParts_nt hr hn hq.2 _ _ _ h2 g q e hm
  omega
theorem cEither_nt {n W : Nat} {rec : Bool → Nat → Nat → cRes} (hr : ∀ m p b, p ≤ n → cLn n W p (rec m p b)) (hn : ∀ m p b, p ≤ n → cNt p (rec m p b)) {t : Int32} {p b : Nat} (hp : p < n) : cNt (p + 1) (cEither rec t p b) := by
  intro p1 l s h g q e hm
  obtain ⟨p2, l1, s1, l2, s2, h1, h2, rfl, rfl⟩ := cEither_ok h
  have a1 := hr false (p + 1) b hp _ _ _ h1
  rcases List.mem_append.mp hm with hm | hm
  · exact hn false (p + 1) b hp _ _ _ h1 g q e hm
  · have := hn false p2 _ a1.2.1 _ _ _ h2 g q e hm
    omega
theorem cEM_nt {n : Nat} {tk par : Nat → Int32} {mk : Bool} (ht : ∀ p, n ≤ p → tk p = -1) : ∀ r m p b, cNt p (cEM n tk par mk r m p b) := by
  intro r
  induction r with
  | zero =>
    intro m p b p1 l s h
    unfold cEM at h
    split at h <;> cases h
  | succ r ih =>
    intro m p b p1 l s h g q e hm
    unfold cEM at h
    have hr : ∀ m p b, p ≤ n → cLn n (8 + mk.toNat) p (cEM n tk par mk r m p b) := fun m p b _ => cLs_ln (cEM_ls ht r m p b)
    have hn : ∀ m p b, p ≤ n → cNt p (cEM n tk par mk r m p b) := fun m p b _ => ih m p b
    split at h
    · rename_i hk
      have hp := cKind_in ht hk
      obtain ⟨l0, s0, h1, rfl, rfl⟩ := cMark_ok h
      rcases List.mem_append.mp hm with hm | hm
      · split at h1
        · have := cEither_nt hr hn hp _ _ _ h1 g q e hm
          omega
        · have := cPlain_nt ht hr hn hp _ _ _ h1 g q e hm
          omega
      · cases m
        · simp only [Bool.false_eq_true, if_false, List.mem_singleton, Prod.mk.injEq] at hm
          omega
        · simp at hm
    · cases h
/-- what a statement's inner part notes of its own place is its turn only -/
def cNi (p : Nat) (a : cRes) : Prop := ∀ p1 l s, a = .ok (p1, l, s) → ∀ g q e, (g, q, e) ∈ s → p ≤ q ∧ (g = false → p + 1 ≤ q)
theorem cIf_ni {n W : Nat} {tk : Nat → Int32} (ht : ∀ p, n ≤ p → tk p = -1) {rec : Bool → Nat → Nat → cRes} {blk : Nat → Nat → cRes} (hr : ∀ m p b, p ≤ n → cLn n W p (rec m p b)) (hb : ∀ p b, p ≤ n → cLn n W p (blk p b)) (hn : ∀ m p b, p ≤ n → cNt p (rec m p b)) (hbn : ∀ p b, p ≤ n → cNt p (blk p b)) {p b : Nat} (hp : p < n) : cNi p (cIf tk rec blk p b) := by
  intro p1 l s h g q e hm
  obtain ⟨p2, l1, s1, p3, l2, s2, h1, h2, h3⟩ := cIf_ok h
  have a1 := hr false (p + 1) b hp _ _ _ h1
  have a2 := hb p2 _ a1.2.1 _ _ _ h2
  have n1 := hn false (p + 1) b hp _ _ _ h1
  have n2 := hbn p2 _ a1.2.1 _ _ _ h2
  rcases h3 with ⟨h4, p4, l3, s3, h5, h0, rfl, rfl, rfl⟩ | ⟨h0, rfl, rfl, rfl⟩
  · have hn4 : p3 < n := tk_in ht (by rw [h4]; decide)
    have n3 := hbn (p3 + 1) _ hn4 _ _ _ h5
    simp only [List.mem_append, List.mem_cons, Prod.mk.injEq] at hm
    rcases hm with hm | hm | hm | hm
    · have := n1 g q e hm; omega
    · have := n2 g q e hm; omega
    · obtain ⟨rfl, rfl, rfl⟩ := hm; exact ⟨Nat.le_refl _, fun z => by cases z⟩
    · have := n3 g q e hm; omega
  · simp only [List.mem_append, List.mem_cons, Prod.mk.injEq, List.not_mem_nil, or_false] at hm
    rcases hm with hm | hm | hm
    · have := n1 g q e hm; omega
    · have := n2 g q e hm; omega
    · obtain ⟨rfl, rfl, rfl⟩ := hm; exact ⟨Nat.le_refl _, fun z => by cases z⟩
theorem cWhile_ni {n W : Nat} {tk : Nat → Int32} {rec : Bool → Nat → Nat → cRes} {blk : Nat → Nat → cRes} (hr : ∀ m p b, p ≤ n → cLn n W p (rec m p b)) (hn : ∀ m p b, p ≤ n → cNt p (rec m p b)) (hbn : ∀ p b, p ≤ n → cNt p (blk p b)) {p b : Nat} (hp : p < n) : cNi p (cWhile tk rec blk p b) := by
  intro p1 l s h g q e hm
  obtain ⟨p2, l1, s1, p3, l2, s2, h1, h2, h0, rfl, rfl, rfl⟩ := cWhile_ok h
  have a1 := hr false (p + 1) b hp _ _ _ h1
  rcases List.mem_append.mp hm with hm | hm
  · have := hn false (p + 1) b hp _ _ _ h1 g q e hm; omega
  · have := hbn p2 _ a1.2.1 _ _ _ h2 g q e hm; omega
theorem cEach_ni {n : Nat} {tk : Nat → Int32} {blk : Nat → Nat → cRes} (hbn : ∀ p b, p ≤ n → cNt p (blk p b)) {p b : Nat} : cNi p (cEach n tk blk p b) := by
  intro p1 l s h g q e hm
  obtain ⟨p2, l2, h1, h2, h3, h4, h0, rfl, rfl⟩ := cEach_ok h
  have := hbn (p + 4) _ (cBare_ok h3).2.1 _ _ _ h4 g q e hm
  omega
theorem cAnswer_ni {n : Nat} {mn : Bool} {rec : Bool → Nat → Nat → cRes} (hn : ∀ m p b, p ≤ n → cNt p (rec m p b)) {p b : Nat} (hp : p < n) : cNi p (cAnswer mn rec p b) := by
  intro p1 l s h g q e hm
  obtain ⟨l1, h2, rfl⟩ := cAnswer_ok h
  have := hn false (p + 1) b hp _ _ _ h2 g q e hm
  omega
theorem cPlain_ni {n W : Nat} {tk par : Nat → Int32} {rec : Bool → Nat → Nat → cRes} (ht : ∀ p, n ≤ p → tk p = -1) (hr : ∀ m p b, p ≤ n → cLn n W p (rec m p b)) (hn : ∀ m p b, p ≤ n → cNt p (rec m p b)) {p b : Nat} (hp : p < n) : cNi p (cPlain n tk par rec p b) := by
  intro p1 l s h g q e hm
  have := cPlain_nt ht hr hn hp p1 l s h g q e hm
  omega
theorem cCallS_ni {p : Nat} {a : cRes} (h : cNi p a) : cNi p (cCallS a) := by
  intro p1 l s e
  obtain ⟨l1, h2, rfl⟩ := cCallS_ok e
  exact h p1 l1 s h2
theorem cStm_nt {n : Nat} {tk par : Nat → Int32} {mk mn : Bool} (ht : ∀ p, n ≤ p → tk p = -1) : ∀ r, (∀ p b, p < n → cNt p (cStm n tk par mk mn r p b)) ∧ (∀ k p b, p ≤ n → cNt p (cLoop tk (cStm n tk par mk mn r) k p b)) := by
  intro r
  have loop : (∀ p b, p < n → cNt p (cStm n tk par mk mn r p b)) → ∀ k p b, p ≤ n → cNt p (cLoop tk (cStm n tk par mk mn r) k p b) := by
    intro hs k
    induction k with
    | zero =>
      intro p b hp p1 l s h g q e hm
      simp only [cLoop, Except.ok.injEq, Prod.mk.injEq] at h
      obtain ⟨rfl, rfl, rfl⟩ := h
      simp at hm
    | succ k ih =>
      intro p b hp p1 l s h g q e hm
      unfold cLoop at h
      split at h
      · rename_i hc
        have hp := cIsS_in ht hc
        exact cNt_then (cLs_ln (cStm_ls ht r p b hp)) (hs p b hp) (fun p1 w _ h2 => ih p1 (b + w) h2) _ _ _ h g q e hm
      · simp only [Except.ok.injEq, Prod.mk.injEq] at h
        obtain ⟨rfl, rfl, rfl⟩ := h
        simp at hm
  induction r with
  | zero =>
    refine ⟨?_, loop ?_⟩ <;>
    · intro p b _ p1 l s h
      unfold cStm at h
      cases h
  | succ r ih =>
    have ihl : ∀ k p b, p ≤ n → cNt p (cLoop tk (cStm n tk par mk mn r) k p b) := (ih (fun hs k => by
      induction k with
      | zero =>
        intro p b hp p1 l s h g q e hm
        simp only [cLoop, Except.ok.injEq, Prod.mk.injEq] at h
        obtain ⟨rfl, rfl, rfl⟩ := h
        simp at hm
      | succ k ih =>
        intro p b hp p1 l s h g q e hm
        unfold cLoop at h
        split at h
        · rename_i hc
          have hp := cIsS_in ht hc
          exact cNt_then (cLs_ln (cStm_ls ht r p b hp)) (hs p b hp) (fun p1 w _ h2 => ih p1 (b + w) h2) _ _ _ h g q e hm
        · simp only [Except.ok.injEq, Prod.mk.injEq] at h
          obtain ⟨rfl, rfl, rfl⟩ := h
          simp at hm)).2
    have main : ∀ p b, p < n → cNt p (cStm n tk par mk mn (r + 1) p b) := by
      intro p b hp p1 l s h g q e hm
      unfold cStm at h
      have hr : ∀ m p b, p ≤ n → cLn n (8 + mk.toNat) p (cEM n tk par mk r m p b) := fun m p b _ => cLs_ln (cEM_ls ht r m p b)
      have hn : ∀ m p b, p ≤ n → cNt p (cEM n tk par mk r m p b) := fun m p b _ => cEM_nt ht r m p b
      have hb : ∀ p b, p ≤ n → cLn n (8 + mk.toNat) p (cLoop tk (cStm n tk par mk mn r) 700 p b) := fun p b h => cBlk_ln ht h 700
      obtain ⟨l0, s0, h1, rfl, rfl⟩ := cMark_ok h
      rcases List.mem_append.mp hm with hm | hm
      · split at h1
        · exact (cIf_ni ht hr hb hn (ihl 700) hp _ _ _ h1 g q e hm).1
        · split at h1
          · exact (cWhile_ni hr hn (ihl 700) hp _ _ _ h1 g q e hm).1
          · split at h1
            · exact (cEach_ni (ihl 700) _ _ _ h1 g q e hm).1
            · split at h1
              · exact (cAnswer_ni hn hp _ _ _ h1 g q e hm).1
              · split at h1
                · exact (cCallS_ni (cPlain_ni ht hr hn hp) _ _ _ h1 g q e hm).1
                · exact (cPlain_ni ht hr hn hp _ _ _ h1 g q e hm).1
      · simp only [List.mem_singleton, Prod.mk.injEq] at hm
        omega
    exact ⟨main, loop main⟩
end
section
/-! THE CLASS'S COMPILER GOES ON: from store S at place p with b words to S' at p' with the words l more and the notes s -/
theorem pf_get (S : mv_S) (q k : Nat) (x : Int32) (o f : Nat) : (mv_pf S q k x).1 o f = if o = q ∧ f = k then x else S.1 o f := by
  unfold mv_pf
  by_cases h : o = q
  · subst h
    by_cases h2 : f = k
    · subst h2; simp [va_up, upd]
    · simp [va_up, upd, h2]
  · simp [va_up, h]
theorem pr_get (S : mv_S) (q k : Nat) (x : Int32) (o f : Nat) : (mv_pr S q k x).2.1 o f = if o = q ∧ f = k then x else S.2.1 o f := by
  unfold mv_pr
  by_cases h : o = q
  · subst h
    by_cases h2 : f = k
    · subst h2; simp [va_up, upd]
    · simp [va_up, upd, h2]
  · simp [va_up, h]
theorem sR_nI {S : mv_S} {q n i : Nat} {x : Int32} (hi : i < n) (hn : n < 2 ^ 31) : sR S q n (nI i) x = mv_pr S q i x := by
  rw [sR_in ⟨nI_pos' (by omega), nI_lt hi hn⟩, nI_clamp (by omega)]
theorem sR_nO {S : mv_S} {q n i : Nat} {x : Int32} (hi : n ≤ i) (hn : i < 2 ^ 31) : sR S q n (nI i) x = S := sR_out (fun h => nI_nlt hi hn h.2)
def xKp (S S' : mv_S) : Prop := (∀ o f, (o = 2 → f ≠ 1 ∧ f ≠ 2) → (o = 1 → f ≠ 10) → S'.1 o f = S.1 o f) ∧ (∀ o i, o ≠ 9 → o ≠ 10 → o ≠ 11 → S'.2.1 o i = S.2.1 o i) ∧ S'.2.2 = S.2.2
def xGo (S S' : mv_S) (p b p' : Nat) (l : List Int32) (s : List (Bool × Nat × Nat)) : Prop :=
  xKp S S' ∧ S'.1 2 1 = nI p' ∧ S'.1 1 10 = nI (b + l.length) ∧ (∀ i, i < b → S'.2.1 11 i = S.2.1 11 i) ∧ (∀ i x, l[i]? = some x → b + i < 1500 → S'.2.1 11 (b + i) = x) ∧ (∀ (g : Bool) i, i < p → S'.2.1 (if g then 10 else 9) i = S.2.1 (if g then 10 else 9) i) ∧ (∀ g q e, (g, q, e) ∈ s → p ≤ q ∧ q < p' ∧ S'.2.1 (if g then 10 else 9) q = nI e)
/-- the class's store stands at place p with b words; n tokens tk, parameters par, mn: in the main part -/
def xAt (S : mv_S) (n : Nat) (tk par : Nat → Int32) (mn : Bool) (p b : Nat) : Prop :=
  S.1 1 9 = nI n ∧ n ≤ 700 ∧ (∀ i, i < n → S.2.1 8 i = tk i) ∧ (∀ i, n ≤ i → tk i = -1) ∧ (∀ i, i < 8 → S.2.1 12 i = par i) ∧ S.1 2 3 = (if mn then 1 else 0) ∧ S.1 2 1 = nI p ∧ p ≤ n ∧ S.1 1 10 = nI b ∧ b ≤ 8 * p
theorem xKp_refl (S : mv_S) : xKp S S := ⟨fun _ _ _ _ => rfl, fun _ _ _ _ _ => rfl, rfl⟩
theorem xKp_trans {S T U : mv_S} (h : xKp S T) (g : xKp T U) : xKp S U := ⟨fun o f a b => (g.1 o f a b).trans (h.1 o f a b), fun o i a b c => (g.2.1 o i a b c).trans (h.2.1 o i a b c), g.2.2.trans h.2.2⟩
theorem xKp_next (S : mv_S) (x : Int32) : xKp S (mv_pf S 2 1 x) := ⟨fun o f a _ => by rw [pf_get, if_neg (fun h => (a h.1).1 h.2)], fun _ _ _ _ _ => rfl, rfl⟩
theorem xKp_fault (S : mv_S) (x : Int32) : xKp S (mv_pf S 2 2 x) := ⟨fun o f a _ => by rw [pf_get, if_neg (fun h => (a h.1).2 h.2)], fun _ _ _ _ _ => rfl, rfl⟩
theorem xKp_pf (S : mv_S) (x : Int32) : xKp S (mv_pf S 1 10 x) := ⟨fun o f _ a => by rw [pf_get, if_neg (fun h => a h.1 h.2)], fun _ _ _ _ _ => rfl, rfl⟩
theorem xKp_sR (S : mv_S) {q : Nat} (hq : q = 9 ∨ q = 10 ∨ q = 11) (n : Nat) (i x : Int32) : xKp S (sR S q n i x) := by
  unfold sR
  split
  · refine ⟨fun _ _ _ _ => rfl, fun o k a b c => ?_, rfl⟩
    rw [pr_get, if_neg (fun h => by omega)]
  · exact xKp_refl S
theorem xGo_trans {S T U : mv_S} {p b p1 p2 : Nat} {l1 l2 : List Int32} {s1 s2} (h : xGo S T p b p1 l1 s1) (g : xGo T U p1 (b + l1.length) p2 l2 s2) (hp : p ≤ p1) (hp2 : p1 ≤ p2) : xGo S U p b p2 (l1 ++ l2) (s1 ++ s2) := by
  obtain ⟨h1, h2, h3, h4, h5, h6, h7⟩ := h
  obtain ⟨g1, g2, g3, g4, g5, g6, g7⟩ := g
  refine ⟨xKp_trans h1 g1, g2, by rw [g3, List.length_append, Nat.add_assoc], fun i hi => (g4 i (by omega)).trans (h4 i hi), fun i x hx hb => ?_, fun q i hi => (g6 q i (by omega)).trans (h6 q i hi), fun q i e he => ?_⟩
  · by_cases hi : i < l1.length
    · rw [List.getElem?_append_left hi] at hx
      rw [g4 (b + i) (by omega)]
      exact h5 i x hx hb
    · rw [List.getElem?_append_right (by omega)] at hx
      have := g5 (i - l1.length) x hx (by omega)
      rw [show b + l1.length + (i - l1.length) = b + i by omega] at this
      exact this
  · rcases List.mem_append.mp he with he | he
    · have := h7 q i e he
      exact ⟨this.1, by omega, by rw [g6 q i this.2.1]; exact this.2.2⟩
    · have := g7 q i e he
      exact ⟨by omega, this.2.1, this.2.2⟩
theorem xGo_refl {S : mv_S} {p b : Nat} (hp : S.1 2 1 = nI p) (hb : S.1 1 10 = nI b) : xGo S S p b p [] [] := ⟨xKp_refl S, hp, by simpa using hb, fun _ _ => rfl, fun i x h => by simp at h, fun _ _ _ => rfl, fun _ _ _ h => by simp at h⟩
theorem xGo_next {S : mv_S} {p b : Nat} (hp : S.1 2 1 = nI p) (hb : S.1 1 10 = nI b) : xGo S (xNx S) p b (p + 1) [] [] := by
  refine ⟨xKp_next S _, ?_, ?_, fun _ _ => rfl, fun i x h => by simp at h, fun _ _ _ => rfl, fun _ _ _ h => by simp at h⟩
  · show (mv_pf S 2 1 (S.1 2 1 + 1)).1 2 1 = _
    rw [pf_get, if_pos ⟨rfl, rfl⟩, hp, nI_1]
  · show (mv_pf S 2 1 (S.1 2 1 + 1)).1 1 10 = _
    rw [pf_get, if_neg (by decide), hb]; rfl
theorem xGo_emit {S : mv_S} {p b : Nat} {w : Int32} (hp : S.1 2 1 = nI p) (hb : S.1 1 10 = nI b) (hb2 : b < 2 ^ 30) : xGo S (xE S w) p b p [w] [] := by
  have hk : xKp S (xE S w) := xKp_trans (xKp_sR S (Or.inr (Or.inr rfl)) 1500 _ w) (xKp_pf _ _)
  have hw : ∀ i, (xE S w).2.1 11 i = if i = b ∧ b < 1500 then w else S.2.1 11 i := by
    intro i
    show (sR S 11 1500 (S.1 1 10) w).2.1 11 i = _
    rw [hb]
    by_cases h : b < 1500
    · rw [sR_nI h (by decide), pr_get]
      by_cases e : i = b <;> simp [e, h]
    · rw [sR_nO (by omega) (by omega), if_neg (fun z => h z.2)]
  refine ⟨hk, ?_, ?_, fun i hi => ?_, fun i x hx h15 => ?_, fun g i _ => ?_, fun _ _ _ h => by simp at h⟩
  · rw [← hp]
    show (mv_pf (sR S 11 1500 (S.1 1 10) w) 1 10 (S.1 1 10 + 1)).1 2 1 = _
    rw [pf_get, if_neg (by decide), sR_1]
  · show (mv_pf (sR S 11 1500 (S.1 1 10) w) 1 10 (S.1 1 10 + 1)).1 1 10 = _
    rw [pf_get, if_pos ⟨rfl, rfl⟩, hb, nI_1]; rfl
  · rw [hw, if_neg (by omega)]
  · match i, hx with
    | 0, hx =>
      simp only [List.getElem?_cons_zero, Option.some.injEq] at hx
      subst hx
      rw [hw, if_pos ⟨rfl, h15⟩]
  · show (sR S 11 1500 (S.1 1 10) w).2.1 _ i = _
    unfold sR
    split
    · rw [pr_get, if_neg]
      cases g <;> intro h <;> exact absurd h.1 (by decide)
    · rfl
/-- a hole filled -/
theorem xGo_fill {S T : mv_S} {p b p1 k : Nat} {l : List Int32} {s} (h : xGo S T p b p1 l s) (hk : k < l.length) (hb : b + l.length < 2 ^ 30) : xGo S (xF T (nI (b + k))) p b p1 (l.set k (nI (b + l.length))) s := by
  obtain ⟨h1, h2, h3, h4, h5, h6, h7⟩ := h
  have hw : ∀ o i, (xF T (nI (b + k))).2.1 o i = if o = 11 ∧ i = b + k ∧ b + k < 1500 then nI (b + l.length) else T.2.1 o i := by
    intro o i
    show (sR T 11 1500 (nI (b + k)) (T.1 1 10)).2.1 o i = _
    rw [h3]
    by_cases h : b + k < 1500
    · rw [sR_nI h (by decide), pr_get]
      by_cases e : o = 11 ∧ i = b + k
      · rw [if_pos e, if_pos ⟨e.1, e.2, h⟩]
      · rw [if_neg e, if_neg (fun z => e ⟨z.1, z.2.1⟩)]
    · rw [sR_nO (by omega) (by omega), if_neg (fun z => h z.2.2)]
  have h1' : ∀ o f, (xF T (nI (b + k))).1 o f = T.1 o f := fun o f => by
    show (sR T 11 1500 (nI (b + k)) (T.1 1 10)).1 o f = _
    rw [sR_1]
  refine ⟨xKp_trans h1 (xKp_sR T (Or.inr (Or.inr rfl)) 1500 _ _), by rw [h1']; exact h2, by rw [h1', List.length_set]; exact h3, fun i hi => ?_, fun i x hx h15 => ?_, fun g i hi => ?_, fun g q e he => ?_⟩
  · rw [hw, if_neg (by omega)]; exact h4 i hi
  · rw [List.getElem?_set] at hx
    rw [hw]
    by_cases e : k = i
    · subst e
      rw [if_pos rfl, if_pos hk, Option.some.injEq] at hx
      rw [if_pos ⟨rfl, rfl, h15⟩, hx]
    · rw [if_neg e] at hx
      rw [if_neg (by omega)]
      exact h5 i x hx h15
  · rw [hw, if_neg (fun z => by cases g <;> exact absurd z.1 (by decide))]; exact h6 g i hi
  · rw [hw, if_neg (fun z => by cases g <;> exact absurd z.1 (by decide))]; exact h7 g q e he
/-- a note of the place p itself -/
theorem xGo_note {S T : mv_S} {p b p1 : Nat} {l : List Int32} {s} (g : Bool) (h : xGo S T p b p1 l s) (hn : ∀ e, (g, p, e) ∉ s) (hp : p < 700) (hp1 : p < p1) : xGo S (sR T (if g then 10 else 9) 700 (nI p) (nI p1)) p b p1 l (s ++ [(g, p, p1)]) := by
  obtain ⟨h1, h2, h3, h4, h5, h6, h7⟩ := h
  rw [sR_nI hp (by decide)]
  have hw : ∀ o i, (mv_pr T (if g then 10 else 9) p (nI p1)).2.1 o i = if o = (if g then 10 else 9) ∧ i = p then nI p1 else T.2.1 o i := fun o i => pr_get _ _ _ _ _ _
  refine ⟨xKp_trans h1 ?_, h2, h3, fun i hi => ?_, fun i x hx h15 => ?_, fun g' i hi => ?_, fun g' q e he => ?_⟩
  · have := xKp_sR T (q := if g then 10 else 9) (by cases g <;> simp) 700 (nI p) (nI p1)
    rw [sR_nI hp (by decide)] at this
    exact this
  · rw [hw, if_neg (fun z => by cases g <;> exact absurd z.1 (by decide))]; exact h4 i hi
  · rw [hw, if_neg (fun z => by cases g <;> exact absurd z.1 (by decide))]; exact h5 i x hx h15
  · rw [hw, if_neg (fun z => by omega)]; exact h6 g' i hi
  · rcases List.mem_append.mp he with he1 | he1
    · have := h7 g' q e he1
      refine ⟨this.1, this.2.1, ?_⟩
      rw [hw, if_neg]
      · exact this.2.2
      · rintro ⟨z1, rfl⟩
        have : g' = g := by cases g <;> cases g' <;> simp at z1 <;> rfl
        subst this
        exact hn e he1
    · simp only [List.mem_singleton, Prod.mk.injEq] at he1
      obtain ⟨rfl, rfl, rfl⟩ := he1
      exact ⟨Nat.le_refl _, hp1, by rw [hw, if_pos ⟨rfl, rfl⟩]⟩
theorem xAt_go {S T : mv_S} {n : Nat} {tk par : Nat → Int32} {mn : Bool} {p b p1 : Nat} {l s} (h : xAt S n tk par mn p b) (g : xGo S T p b p1 l s) (hp : p1 ≤ n) (hb : b + l.length ≤ 8 * p1) : xAt T n tk par mn p1 (b + l.length) := by
  obtain ⟨h1, h2, h3, h4, h5, h6, h7, h8, h9, h10⟩ := h
  obtain ⟨g1, g2, g3, _⟩ := g
  refine ⟨?_, h2, fun i hi => ?_, h4, fun i hi => ?_, ?_, g2, hp, g3, hb⟩
  · rw [g1.1 1 9 (by decide) (by decide)]; exact h1
  · rw [g1.2.1 8 i (by decide) (by decide) (by decide)]; exact h3 i hi
  · rw [g1.2.1 12 i (by decide) (by decide) (by decide)]; exact h5 i hi
  · rw [g1.1 2 3 (by decide) (by decide)]; exact h6
theorem xAt_tok {S : mv_S} {n : Nat} {tk par : Nat → Int32} {mn : Bool} {p b : Nat} (h : xAt S n tk par mn p b) {q : Nat} (hq : q < 2 ^ 31) : xTok S (nI q) = tk q := by
  obtain ⟨h1, h2, h3, h4, _⟩ := h
  unfold xTok
  rw [h1]
  by_cases hn : q < n
  · rw [if_pos ⟨nI_pos' hq, nI_lt hn (by omega), nI_lt (b := 700) (by omega) (by decide)⟩, nI_clamp hq]
    exact h3 q hn
  · rw [if_neg (fun z => nI_nlt (by omega) hq z.2.1)]
    exact (h4 q (by omega)).symm
theorem xAt_has {S : mv_S} {n : Nat} {tk par : Nat → Int32} {mn : Bool} {p b : Nat} (h : xAt S n tk par mn p b) : xHas S ↔ p < n := by
  obtain ⟨h1, h2, _, _, _, _, h7, h8, _⟩ := h
  unfold xHas
  rw [h1, h7]
  constructor
  · intro z
    exact (nI_ltI (by omega) (by omega)).mp z.2
  · intro z
    exact ⟨nI_pos' (by omega), nI_lt z (by omega)⟩
theorem xAt_hasF {S : mv_S} {n : Nat} {tk par : Nat → Int32} {mn : Bool} {p b : Nat} (h : xAt S n tk par mn p b) {f : Int32} : xHasF S f ↔ cHasF par f := by
  unfold xHasF
  constructor
  · rintro ⟨a, b, c⟩
    obtain ⟨j, hj, rfl⟩ := nI_of (Int32.not_lt.mpr a)
    have : j < 8 := (nI_ltI (b := 8) hj (by decide)).mp b
    refine ⟨a, b, ?_⟩
    rw [nI_clamp hj] at c ⊢
    rw [← h.2.2.2.2.1 j this]; exact c
  · rintro ⟨a, b, c⟩
    obtain ⟨j, hj, rfl⟩ := nI_of (Int32.not_lt.mpr a)
    have : j < 8 := (nI_ltI (b := 8) hj (by decide)).mp b
    refine ⟨a, b, ?_⟩
    rw [nI_clamp hj] at c ⊢
    rw [h.2.2.2.2.1 j this]; exact c
end
section
/-! THE CLASS'S COMPILER DOES WHAT THE FUNCTION SAYS: tokens, arguments, counts -/
/-- method j does what the function R says, at places with Q -/
def xDoes (D j : Nat) (args : List Value) (n : Nat) (tk par : Nat → Int32) (mn : Bool) (Q : Nat → Prop) (R : Nat → Nat → cRes) : Prop :=
  ∀ (S : mv_S) (P : Option Value → mv_S → Prop) (p b : Nat), Q p → xAt S n tk par mn p b →
    (∀ w q S', R p b = .error (w, q) → xKp S S' → S'.1 2 1 = nI q → S'.1 2 2 = w → P (some (.int 0)) S') →
    (∀ p' l s S', R p b = .ok (p', l, s) → xGo S S' p b p' l s → P (some (.int 1)) S') → mv_big layX sysX D j args S P
def cPre (l1 : List Int32) (s1 : List (Bool × Nat × Nat)) (a : cRes) : cRes :=
  match a with
  | .error e => .error e
  | .ok (p2, l2, s2) => .ok (p2, l1 ++ l2, s1 ++ s2)
theorem cPre_nil (a : cRes) : cPre [] [] a = a := by
  match a with
  | .error e => rfl
  | .ok (p, l, s) => rfl
theorem cThen_err {a : cRes} {f : Nat → Nat → cRes} {e} (h : a = .error e) : cThen a f = .error e := by subst h; rfl
theorem cThen_pre {a : cRes} {f : Nat → Nat → cRes} {p l s} (h : a = .ok (p, l, s)) : cThen a f = cPre l s (f p l.length) := by
  subst h
  unfold cThen cPre
  rfl
theorem cPre_pre (l1 l2 : List Int32) (s1 s2 : List (Bool × Nat × Nat)) (a : cRes) : cPre l1 s1 (cPre l2 s2 a) = cPre (l1 ++ l2) (s1 ++ s2) a := by
  match a with
  | .error e => rfl
  | .ok (p, l, s) => simp [cPre, List.append_assoc]
theorem cPre_err {l1 : List Int32} {s1 : List (Bool × Nat × Nat)} {a : cRes} {e} (h : a = .error e) : cPre l1 s1 a = .error e := by subst h; rfl
theorem cThen_cPre (l1 : List Int32) (s1 : List (Bool × Nat × Nat)) (a : cRes) (f : Nat → Nat → cRes) : cThen (cPre l1 s1 a) f = cPre l1 s1 (cThen a (fun p w => f p (l1.length + w))) := by
  match a with
  | .error e => rfl
  | .ok (p, l, s) =>
    unfold cPre cThen
    simp only [List.length_append]
    match f p (l1.length + l.length) with
    | .error e => rfl
    | .ok (p2, l2, s2) => simp [List.append_assoc]
theorem clampI {x : Int32} {i : Nat} (hi : i < 2 ^ 31) : x ≤ nI i ↔ x.toNatClampNeg ≤ i := by
  rw [Int32.le_iff_toInt_le, nI_toInt hi]
  show _ ↔ x.toInt.toNat ≤ i
  omega
section LX
variable {d : Nat} {S : mv_S} {P : Option Value → mv_S → Prop} {n : Nat} {tk par : Nat → Int32} {mn : Bool} {p b : Nat}
theorem x_tokA (hA : xAt S n tk par mn p b) {i : Int32} {q : Nat} (hi : i = nI q) (hq : q < 2 ^ 31) (h : P (some (.int (tk q))) S) : mv_big layX sysX (d + 1) 57 [.ref 1, .int i] S P := by
  subst hi
  exact x_token (by rw [xAt_tok hA hq]; exact h)
theorem xAt_p (hA : xAt S n tk par mn p b) : S.1 2 1 = nI p := hA.2.2.2.2.2.2.1
theorem xAt_b (hA : xAt S n tk par mn p b) : S.1 1 10 = nI b := hA.2.2.2.2.2.2.2.2.1
theorem xAt_pn (hA : xAt S n tk par mn p b) : p ≤ n ∧ n ≤ 700 ∧ b ≤ 8 * p := ⟨hA.2.2.2.2.2.2.2.1, hA.2.1, hA.2.2.2.2.2.2.2.2.2⟩
theorem xAt_tk (hA : xAt S n tk par mn p b) : ∀ i, n ≤ i → tk i = -1 := hA.2.2.2.1
theorem x_tokN (hA : xAt S n tk par mn p b) (h : P (some (.int (tk p))) S) : mv_big layX sysX (d + 1) 57 [.ref 1, .int (S.1 2 1)] S P := x_tokA hA (xAt_p hA) (by have := xAt_pn hA; omega) h
theorem x_bareA {lim : Int32} (hA : xAt S n tk par mn p b) (he : ∀ w q S', cBare n tk lim p = .error (w, q) → xKp S S' → S'.1 2 1 = nI q → S'.1 2 2 = w → P (some (.int 0)) S') (ho : cBare n tk lim p = .ok (p + 1) → P (some (.int 1)) (xNx S)) : mv_big layX sysX (d + 2) 31 [.ref 2, .int lim] S P := by
  have ht : xTok S (S.1 2 1) = tk p := by rw [xAt_p hA]; exact xAt_tok hA (by have := xAt_pn hA; omega)
  have hh := xAt_has hA
  have e1 : ∀ w, (xFl S w).1 2 1 = nI p := fun w => by
    show (mv_pf S 2 2 w).1 2 1 = _
    rw [pf_get, if_neg (by decide)]; exact xAt_p hA
  have e2 : ∀ w, (xFl S w).1 2 2 = w := fun w => by
    show (mv_pf S 2 2 w).1 2 2 = _
    rw [pf_get, if_pos ⟨rfl, rfl⟩]
  refine x_bare (fun c => ?_) (fun c c2 => ?_) (fun c c2 => ?_)
  · refine he (-11) p _ ?_ (xKp_fault S _) (e1 _) (e2 _)
    unfold cBare
    rw [if_neg (fun z => c (hh.mpr z))]
  · rw [ht] at c2
    refine he (-12) p _ ?_ (xKp_fault S _) (e1 _) (e2 _)
    unfold cBare
    rw [if_pos (hh.mp c), if_neg c2]
  · rw [ht] at c2
    refine ho ?_
    unfold cBare
    rw [if_pos (hh.mp c), if_pos c2]
theorem x_knownA (hA : xAt S n tk par mn p b) (he : ∀ w q S', cKnown n tk par p = .error (w, q) → xKp S S' → S'.1 2 1 = nI q → S'.1 2 2 = w → P (some (.int 0)) S') (ho : cKnown n tk par p = .ok (p + 1) → P (some (.int 1)) (xNx S)) : mv_big layX sysX (d + 3) 34 [.ref 2] S P := by
  have ht : xTok S (S.1 2 1) = tk p := by rw [xAt_p hA]; exact xAt_tok hA (by have := xAt_pn hA; omega)
  have hh := xAt_has hA
  have e1 : ∀ w, (xFl S w).1 2 1 = nI p := fun w => by
    show (mv_pf S 2 2 w).1 2 1 = _
    rw [pf_get, if_neg (by decide)]; exact xAt_p hA
  have e2 : ∀ w, (xFl S w).1 2 2 = w := fun w => by
    show (mv_pf S 2 2 w).1 2 2 = _
    rw [pf_get, if_pos ⟨rfl, rfl⟩]
  refine x_knownFunction (fun c => ?_) (fun c c1 => ?_) (fun c c1 c2 => ?_) (fun c c1 c2 => ?_)
  · rw [ht] at c
    refine ho ?_
    unfold cKnown
    rw [if_pos ((xAt_hasF hA).mp c)]
  all_goals rw [ht] at c
  · refine he (-11) p _ ?_ (xKp_fault S _) (e1 _) (e2 _)
    unfold cKnown
    rw [if_neg (fun z => c ((xAt_hasF hA).mpr z)), if_neg (fun z => c1 (hh.mpr z))]
  · rw [ht] at c2
    refine he (-12) p _ ?_ (xKp_fault S _) (e1 _) (e2 _)
    unfold cKnown
    rw [if_neg (fun z => c ((xAt_hasF hA).mpr z)), if_pos (hh.mp c1), if_neg c2]
  · rw [ht] at c2
    refine he (-14) p _ ?_ (xKp_fault S _) (e1 _) (e2 _)
    unfold cKnown
    rw [if_neg (fun z => c ((xAt_hasF hA).mpr z)), if_pos (hh.mp c1), if_pos c2]
theorem x_anyA (hA : xAt S n tk par mn p b) (he : ∀ w q S', ¬ p < n → w = -11 → q = p → xKp S S' → S'.1 2 1 = nI q → S'.1 2 2 = w → P (some (.int 0)) S') (ho : p < n → P (some (.int 1)) (xNx S)) : mv_big layX sysX (d + 2) 32 [.ref 2] S P := by
  have hh := xAt_has hA
  refine x_anyNumber (fun c => ?_) (fun c => ho (hh.mp c))
  refine he (-11) p _ (fun z => c (hh.mpr z)) rfl rfl (xKp_fault S _) ?_ ?_
  · show (mv_pf S 2 2 _).1 2 1 = _
    rw [pf_get, if_neg (by decide)]; exact xAt_p hA
  · show (mv_pf S 2 2 _).1 2 2 = _
    rw [pf_get, if_pos ⟨rfl, rfl⟩]
theorem cArg_a {p : Nat} : cArg n tk par 1 p = cBare n tk 14 p ∧ cArg n tk par 21 p = cBare n tk 14 p ∧ cArg n tk par 2 p = cBare n tk 6 p ∧ cArg n tk par 40 p = cBare n tk 6 p ∧ cArg n tk par 8 p = cKnown n tk par p ∧ cArg n tk par 36 p = cKnown n tk par p ∧ cArg n tk par 20 p = (if p < n then .ok (p + 1) else .error (-11, p)) := by
  refine ⟨if_pos (Or.inl rfl), if_pos (Or.inr rfl), ?_, ?_, ?_, ?_, ?_⟩ <;> unfold cArg
  · rw [if_neg (by decide), if_pos (Or.inl rfl)]
  · rw [if_neg (by decide), if_pos (Or.inr rfl)]
  · rw [if_neg (by decide), if_neg (by decide), if_pos (Or.inl rfl)]
  · rw [if_neg (by decide), if_neg (by decide), if_pos (Or.inr rfl)]
  · rw [if_neg (by decide), if_neg (by decide), if_neg (by decide), if_pos rfl]
theorem x_argument {t : Int32} (hA : xAt S n tk par mn p b) (he : ∀ w q S', cArg n tk par t p = .error (w, q) → xKp S S' → S'.1 2 1 = nI q → S'.1 2 2 = w → P (some (.int 0)) S') (ho : ∀ q S', cArg n tk par t p = .ok q → xGo S S' p b q [] [] → P (some (.int 1)) S') : mv_big layX sysX (d + 4) 46 [.ref 2, .int t] S P := by
  obtain ⟨a1, a2, a3, a4, a5, a6, a7⟩ := @cArg_a n tk par p
  have hx := xGo_next (xAt_p hA) (xAt_b hA)
  refine ⟨40, ?_⟩
  refine ⟨fun e => ?_, fun e1 => ⟨fun e => ?_, fun e2 => ⟨fun e => ?_, fun e3 => ⟨fun e => ?_, fun e4 => ⟨fun e => ?_, fun e5 => ⟨fun e => ?_, fun e6 => ⟨fun e => ?_, fun e7 => ?_⟩⟩⟩⟩⟩⟩⟩
  · have e : t = 1 := e
    subst e
    exact x_bareA hA (fun w q S' z k1 k2 k3 => ⟨Or.inl rfl, he w q S' (a1.trans z) k1 k2 k3⟩) (fun z => ⟨Or.inr rfl, ho _ _ (a1.trans z) hx⟩)
  · have e : t = 2 := e
    subst e
    exact x_bareA hA (fun w q S' z k1 k2 k3 => ⟨Or.inl rfl, he w q S' (a3.trans z) k1 k2 k3⟩) (fun z => ⟨Or.inr rfl, ho _ _ (a3.trans z) hx⟩)
  · have e : t = 8 := e
    subst e
    exact x_knownA hA (fun w q S' z k1 k2 k3 => ⟨Or.inl rfl, he w q S' (a5.trans z) k1 k2 k3⟩) (fun z => ⟨Or.inr rfl, ho _ _ (a5.trans z) hx⟩)
  · have e : t = 20 := e
    subst e
    refine x_anyA hA (fun w q S' z z1 z2 k1 k2 k3 => ⟨Or.inl rfl, he w q S' ?_ k1 k2 k3⟩) (fun z => ⟨Or.inr rfl, ho _ _ ?_ hx⟩)
    · rw [a7, if_neg z, z1, z2]
    · rw [a7, if_pos z]
  · have e : t = 21 := e
    subst e
    exact x_bareA hA (fun w q S' z k1 k2 k3 => ⟨Or.inl rfl, he w q S' (a2.trans z) k1 k2 k3⟩) (fun z => ⟨Or.inr rfl, ho _ _ (a2.trans z) hx⟩)
  · have e : t = 36 := e
    subst e
    exact x_knownA hA (fun w q S' z k1 k2 k3 => ⟨Or.inl rfl, he w q S' (a6.trans z) k1 k2 k3⟩) (fun z => ⟨Or.inr rfl, ho _ _ (a6.trans z) hx⟩)
  · have e : t = 40 := e
    subst e
    exact x_bareA hA (fun w q S' z k1 k2 k3 => ⟨Or.inl rfl, he w q S' (a4.trans z) k1 k2 k3⟩) (fun z => ⟨Or.inr rfl, ho _ _ (a4.trans z) hx⟩)
  · have b1 : ¬ t = 1 := e1
    have b2 : ¬ t = 2 := e2
    have b3 : ¬ t = 8 := e3
    have b4 : ¬ t = 20 := e4
    have b5 : ¬ t = 21 := e5
    have b6 : ¬ t = 36 := e6
    have b7 : ¬ t = 40 := e7
    refine ⟨Or.inr rfl, ho p S ?_ (xGo_refl (xAt_p hA) (xAt_b hA))⟩
    unfold cArg
    simp only [b1, b2, b3, b4, b5, b6, b7, or_self, if_false]
theorem x_numbersP (hA : xAt S n tk par mn p b) {i : Int32} {q : Nat} (hi : i = nI q) (hq : q < 2 ^ 30) (h : P (some (.int (cNums tk par q))) S) : mv_big layX sysX (d + 3) 70 [.ref 1, .int i] S P := by
  subst hi
  have fin : (tk q = 8 ∨ tk q = 36) → (¬ xHasF S (tk (q + 1)) → P (some (.int 0)) S) ∧ (xHasF S (tk (q + 1)) → P (some (.int (S.2.1 12 (tk (q + 1)).toNatClampNeg))) S) := by
    intro c
    unfold cNums at h
    rw [if_pos c] at h
    unfold cPar at h
    refine ⟨fun z => ?_, fun z => ?_⟩
    · rw [if_neg (fun y => z ((xAt_hasF hA).mpr y))] at h
      exact h
    · have z2 := (xAt_hasF hA).mp z
      rw [if_pos z2] at h
      obtain ⟨j, hj, e⟩ := nI_of (Int32.not_lt.mpr z2.1)
      have z3 := z2.2.1
      rw [e] at z3
      have : j < 8 := (nI_ltI (b := 8) hj (by decide)).mp z3
      rw [e, nI_clamp hj] at h ⊢
      rw [hA.2.2.2.2.1 j this]
      exact h
  refine ⟨60, ?_⟩
  refine x_tokA hA rfl (by omega) ?_
  refine ⟨fun c => ?_, fun c => ⟨fun c2 => ?_, fun c2 => ?_⟩⟩
  · have c : tk q = 8 := c
    refine ⟨fun z => absurd (show (1 : Int32) = 0 from z) (by decide), fun _ => ?_⟩
    refine x_tokA hA (q := q + 1) (nI_1 q) (by omega) ?_
    exact x_parameters (fin (Or.inl c)).1 (fin (Or.inl c)).2
  · have c : ¬ tk q = 8 := c
    have c2 : ¬ tk q = 36 := c2
    refine ⟨fun _ => ?_, fun z => absurd rfl z⟩
    unfold cNums at h
    rw [if_neg (fun z => z.elim c c2)] at h
    exact x_numbersT h
  · have c2 : tk q = 36 := c2
    refine ⟨fun z => absurd (show (1 : Int32) = 0 from z) (by decide), fun _ => ?_⟩
    refine x_tokA hA (q := q + 1) (nI_1 q) (by omega) ?_
    exact x_parameters (fin (Or.inr c2)).1 (fin (Or.inr c2)).2
theorem x_wordT {t : Int32} (h : P (some (.int (tkWord t))) S) : mv_big layX sysX (d + 1) 130 [.int t] S P := by
  have a4 : ¬ (22 ≤ t ∧ t ≤ 29) → ¬ (32 ≤ t ∧ t ≤ 35) → ¬ (42 ≤ t ∧ t ≤ 44) → (t = 1 → P (some (.int 3)) S) ∧ (¬ t = 1 → (t = 2 → P (some (.int 20)) S) ∧ (¬ t = 2 → (t = 7 → P (some (.int 15)) S) ∧ (¬ t = 7 → (t = 8 → P (some (.int 16)) S) ∧ (¬ t = 8 → (t = 20 → P (some (.int 1)) S) ∧ (¬ t = 20 → (t = 21 → P (some (.int 2)) S) ∧ (¬ t = 21 → (t = 36 → P (some (.int 16)) S) ∧ (¬ t = 36 → (t = 40 → P (some (.int 19)) S) ∧ (¬ t = 40 → (t = 41 → P (some (.int 21)) S) ∧ (¬ t = 41 → P (some (.int (-1))) S))))))))) := by
    intro n1 n2 n3
    unfold tkWord at h
    rw [if_neg n1, if_neg n2, if_neg n3] at h
    refine ⟨fun e => ?_, fun e1 => ⟨fun e => ?_, fun e2 => ⟨fun e => ?_, fun e3 => ⟨fun e => ?_, fun e4 => ⟨fun e => ?_, fun e5 => ⟨fun e => ?_, fun e6 => ⟨fun e => ?_, fun e7 => ⟨fun e => ?_, fun e8 => ⟨fun e => ?_, fun e9 => ?_⟩⟩⟩⟩⟩⟩⟩⟩⟩
    · rw [if_pos e] at h; exact h
    · rw [if_neg e1, if_pos e] at h; exact h
    · rw [if_neg e1, if_neg e2, if_pos e] at h; exact h
    · rw [if_neg e1, if_neg e2, if_neg e3, if_pos e] at h; exact h
    · rw [if_neg e1, if_neg e2, if_neg e3, if_neg e4, if_pos e] at h; exact h
    · rw [if_neg e1, if_neg e2, if_neg e3, if_neg e4, if_neg e5, if_pos e] at h; exact h
    · rw [if_neg e1, if_neg e2, if_neg e3, if_neg e4, if_neg e5, if_neg e6, if_pos e] at h; exact h
    · rw [if_neg e1, if_neg e2, if_neg e3, if_neg e4, if_neg e5, if_neg e6, if_neg e7, if_pos e] at h; exact h
    · rw [if_neg e1, if_neg e2, if_neg e3, if_neg e4, if_neg e5, if_neg e6, if_neg e7, if_neg e8, if_pos e] at h; exact h
    · rw [if_neg e1, if_neg e2, if_neg e3, if_neg e4, if_neg e5, if_neg e6, if_neg e7, if_neg e8, if_neg e9] at h; exact h
  have a3 : ¬ (22 ≤ t ∧ t ≤ 29) → ¬ (32 ≤ t ∧ t ≤ 35) → 42 ≤ t ∧ t ≤ 44 → P (some (.int (22 + t - 42))) S := by
    intro n1 n2 n3
    unfold tkWord at h
    rw [if_neg n1, if_neg n2, if_pos n3] at h; exact h
  have a2 : ¬ (22 ≤ t ∧ t ≤ 29) → 32 ≤ t ∧ t ≤ 35 → P (some (.int (25 + t - 32))) S := by
    intro n1 n2
    unfold tkWord at h
    rw [if_neg n1, if_pos n2] at h; exact h
  have a1 : 22 ≤ t ∧ t ≤ 29 → P (some (.int (4 + t - 22))) S := by
    intro n1
    unfold tkWord at h
    rw [if_pos n1] at h; exact h
  have no : ∀ {a b : Int32}, t < a → ¬ (a ≤ t ∧ t ≤ b) := fun c z => absurd z.1 (Int32.not_le.mpr c)
  have no2 : ∀ {a b : Int32}, b < t → ¬ (a ≤ t ∧ t ≤ b) := fun c z => absurd z.2 (Int32.not_le.mpr c)
  have f3 : ∀ (n1 : ¬ (22 ≤ t ∧ t ≤ 29)) (n2 : ¬ (32 ≤ t ∧ t ≤ 35)), mv_wp layX sysX tT6 1 (some .int) mX6_word.2.2.2.2.2.2.2 (mv_big layX sysX d) P 30 39 [(0, .int t)] [] S := by
    intro n1 n2
    exact ⟨fun c => a4 n1 n2 (no c), fun c => ⟨fun c2 => a4 n1 n2 (no2 c2), fun c2 => a3 n1 n2 ⟨Int32.not_lt.mp c, Int32.not_lt.mp c2⟩⟩⟩
  have f2 : ∀ (n1 : ¬ (22 ≤ t ∧ t ≤ 29)), mv_wp layX sysX tT6 1 (some .int) mX6_word.2.2.2.2.2.2.2 (mv_big layX sysX d) P 40 19 [(0, .int t)] [] S := by
    intro n1
    exact ⟨fun c => mv_fuel (n := 30) (by decide) (f3 n1 (no c)), fun c => ⟨fun c2 => mv_fuel (n := 30) (by decide) (f3 n1 (no2 c2)), fun c2 => a2 n1 ⟨Int32.not_lt.mp c, Int32.not_lt.mp c2⟩⟩⟩
  refine ⟨60, ?_⟩
  exact ⟨fun c => mv_fuel (n := 40) (by decide) (f2 (no c)), fun c => ⟨fun c2 => mv_fuel (n := 40) (by decide) (f2 (no2 c2)), fun c2 => a1 ⟨Int32.not_lt.mp c, Int32.not_lt.mp c2⟩⟩⟩
end LX
end
section
/-! THE CLASS'S COMPILER DOES WHAT THE FUNCTION SAYS: parts, a plain token -/
theorem xGo_e {S T : mv_S} {p b p1 : Nat} {l : List Int32} {s} {w : Int32} (h : xGo S T p b p1 l s) (hb : b + l.length < 2 ^ 30) (hp : p ≤ p1) : xGo S (xE T w) p b p1 (l ++ [w]) s := by
  have := xGo_trans h (xGo_emit (w := w) h.2.1 h.2.2.1 hb) hp (Nat.le_refl _)
  rw [List.append_nil] at this
  exact this
theorem xGo_n {S T : mv_S} {p b p1 : Nat} {l : List Int32} {s} (h : xGo S T p b p1 l s) (hp : p ≤ p1) : xGo S (xNx T) p b (p1 + 1) l s := by
  have := xGo_trans h (xGo_next h.2.1 h.2.2.1) hp (Nat.le_succ _)
  rw [List.append_nil, List.append_nil] at this
  exact this
theorem xGo_t0 {S T U : mv_S} {p b p1 p2 : Nat} {l : List Int32} {s} (h : xGo S T p b p1 [] []) (g : xGo T U p1 b p2 l s) (hp : p ≤ p1) (hp2 : p1 ≤ p2) : xGo S U p b p2 l s := xGo_trans h g hp hp2
theorem xAt_next {S : mv_S} {n : Nat} {tk par : Nat → Int32} {mn : Bool} {p b : Nat} (h : xAt S n tk par mn p b) (hp : p < n) : xAt (xNx S) n tk par mn (p + 1) b := by
  have := xAt_pn h
  exact xAt_go h (xGo_next (xAt_p h) (xAt_b h)) hp (by simp; omega)
section LX
variable {d : Nat} {S : mv_S} {P : Option Value → mv_S → Prop} {n : Nat} {tk par : Nat → Int32} {mn : Bool} {p b : Nat}
theorem x_parts {D q : Nat} {rec : Bool → Nat → Nat → cRes} {k i0 : Int32} (hM : xDoes D 43 [.ref 2, .int k] n tk par mn (fun _ => True) (rec true)) (hN : xDoes D 42 [.ref 2, .int k] n tk par mn (fun _ => True) (rec false)) (hr : ∀ m p b, p ≤ n → cLn n 8 p (rec m p b)) (hi0 : i0 = nI q) (hq : q < 2 ^ 30) (hA : xAt S n tk par mn p b)
    (he : ∀ w q' S', cParts rec (tkMaps (tk q)).toNatClampNeg (cNums tk par q).toNatClampNeg p b = .error (w, q') → xKp S S' → S'.1 2 1 = nI q' → S'.1 2 2 = w → P (some (.int 0)) S')
    (ho : ∀ p' l s S', cParts rec (tkMaps (tk q)).toNatClampNeg (cNums tk par q).toNatClampNeg p b = .ok (p', l, s) → xGo S S' p b p' l s → P (some (.int 1)) S') : mv_big layX sysX (D + 4) 47 [.ref 2, .int i0, .int k] S P := by
  subst hi0
  obtain ⟨R, hR⟩ : ∃ R, R = cParts rec (tkMaps (tk q)).toNatClampNeg (cNums tk par q).toNatClampNeg p b := ⟨_, rfl⟩
  rw [← hR] at he ho
  obtain ⟨x, hx⟩ : ∃ x, x = cNums tk par q := ⟨_, rfl⟩
  obtain ⟨m, hm⟩ : ∃ m, m = tkMaps (tk q) := ⟨_, rfl⟩
  rw [← hx, ← hm] at hR
  obtain ⟨N, hN0⟩ : ∃ N, N = x.toNatClampNeg := ⟨_, rfl⟩
  obtain ⟨M, hM0⟩ : ∃ M, M = m.toNatClampNeg := ⟨_, rfl⟩
  rw [← hN0, ← hM0] at hR
  have hNb : N < 2 ^ 31 := by rw [hN0]; exact Int32.toNatClampNeg_lt x
  have hMb : M < 2 ^ 31 := by rw [hM0]; exact Int32.toNatClampNeg_lt m
  have hpn := xAt_pn hA
  have kk2 := mv_loop (T := tT1) (nL := 6) (z := some .boolean) (il := mX1_parts.2.2.2.2.2.2.2) (lay := layX) (sys := sysX) (d := D + 3) (P := P) (pc := 50) 60 (fun k' lv st S' => ∃ i p1 l1 s1, i + k' = N ∧ lv = [(5, .int (nI i)), (4, .int x), (3, .int m), (0, .ref 2), (1, .int (nI q)), (2, .int k)] ∧ st = [] ∧ xGo S S' p b p1 l1 s1 ∧ p ≤ p1 ∧ p1 ≤ n ∧ b + l1.length ≤ 8 * p1 ∧ R = cPre l1 s1 (cMany (rec false) k' p1 (b + l1.length))) (by
      rintro f lv st S' ⟨i, p1, l1, s1, hk, rfl, rfl, g, h1, h2, h3, h4⟩
      obtain rfl : i = N := hk
      refine ⟨fun _ => ⟨Or.inr rfl, ho p1 l1 s1 S' ?_ g⟩, fun z => absurd ((clampI hNb).mpr (Nat.le_of_eq hN0.symm)) z⟩
      rw [h4, cMany, cPre, List.append_nil, List.append_nil]) (by
      rintro k' f lv st S' ⟨i, p1, l1, s1, hk, rfl, rfl, g, h1, h2, h3, h4⟩ ih
      refine ⟨fun z => absurd ((clampI (by omega)).mp (show x ≤ nI i from z)) (by omega), fun _ => ?_⟩
      refine mv_deep (d := D) (by omega) (hN S' _ p1 (b + l1.length) trivial (xAt_go hA g h2 h3) (fun w q' S2 e k1 k2 k3 => ?_) (fun p2 l2 s2 S2 e g2 => ?_))
      · refine ⟨fun z => absurd rfl z, fun _ => ⟨Or.inl rfl, he w q' S2 ?_ (xKp_trans g.1 k1) k2 k3⟩⟩
        rw [h4]
        exact cPre_err (cThen_err e)
      · refine ⟨fun _ => ?_, fun z => absurd (show (1 : Int32) = 0 from z) (by decide)⟩
        have hl := hr false p1 _ h2 _ _ _ e
        refine ws_iinc (y := nI (i + 1)) rfl rfl rfl (nI_succ i).symm rfl rfl (ws_goto (t := 50) rfl (by decide) (ih _ [(5, .int (nI (i + 1))), (4, .int x), (3, .int m), (0, .ref 2), (1, .int (nI q)), (2, .int k)] [] S2 (by omega) ⟨i + 1, p2, l1 ++ l2, s1 ++ s2, by omega, rfl, rfl, xGo_trans g g2 h1 hl.1, by omega, hl.2.1, by rw [List.length_append]; omega, ?_⟩))
        rw [h4, cMany, cThen_pre e, cPre_pre, List.length_append, Nat.add_assoc])
  have kk1 := mv_loop (T := tT1) (nL := 6) (z := some .boolean) (il := mX1_parts.2.2.2.2.2.2.2) (lay := layX) (sys := sysX) (d := D + 3) (P := P) (pc := 15) (60 * (N + 1) + 100) (fun k' lv st S' => ∃ i p1 l1 s1, i + k' = M ∧ lv = [(4, .int (nI i)), (3, .int m), (0, .ref 2), (1, .int (nI q)), (2, .int k)] ∧ st = [] ∧ xGo S S' p b p1 l1 s1 ∧ p ≤ p1 ∧ p1 ≤ n ∧ b + l1.length ≤ 8 * p1 ∧ R = cPre l1 s1 (cThen (cMany (rec true) k' p1 (b + l1.length)) (fun p2 w => cMany (rec false) N p2 (b + l1.length + w)))) (by
      rintro f lv st S' ⟨i, p1, l1, s1, hk, rfl, rfl, g, h1, h2, h3, h4⟩
      obtain rfl : i = M := hk
      refine mv_fuel (n := 60 * (N + 1) + 60) (by omega) ?_
      refine ⟨fun _ => ?_, fun z => absurd ((clampI hMb).mpr (Nat.le_of_eq hM0.symm)) z⟩
      refine x_numbersP (xAt_go hA g h2 h3) rfl (by omega) ?_
      rw [← hx]
      refine ws_istore rfl rfl rfl rfl (ws_iconst (x := nI 0) rfl rfl rfl (ws_istore rfl rfl rfl rfl (kk2 N _ [(5, .int (nI 0)), (4, .int x), (3, .int m), (0, .ref 2), (1, .int (nI q)), (2, .int k)] [] S' (by omega) ⟨0, p1, l1, s1, by omega, rfl, rfl, g, h1, h2, h3, ?_⟩)))
      rw [h4, cMany, cThen_pre rfl]
      rw [cPre_nil]; rfl) (by
      rintro k' f lv st S' ⟨i, p1, l1, s1, hk, rfl, rfl, g, h1, h2, h3, h4⟩ ih
      refine mv_fuel (n := f + 60) (by omega) ?_
      refine ⟨fun z => absurd ((clampI (by omega)).mp (show m ≤ nI i from z)) (by omega), fun _ => ?_⟩
      refine mv_deep (d := D) (by omega) (hM S' _ p1 (b + l1.length) trivial (xAt_go hA g h2 h3) (fun w q' S2 e k1 k2 k3 => ?_) (fun p2 l2 s2 S2 e g2 => ?_))
      · refine ⟨fun z => absurd rfl z, fun _ => ⟨Or.inl rfl, he w q' S2 ?_ (xKp_trans g.1 k1) k2 k3⟩⟩
        rw [h4]
        exact cPre_err (cThen_err (cThen_err e))
      · refine ⟨fun _ => ?_, fun z => absurd (show (1 : Int32) = 0 from z) (by decide)⟩
        have hl := hr true p1 _ h2 _ _ _ e
        refine ws_iinc (y := nI (i + 1)) rfl rfl rfl (nI_succ i).symm rfl rfl (ws_goto (t := 15) rfl (by decide) (ih _ [(4, .int (nI (i + 1))), (3, .int m), (0, .ref 2), (1, .int (nI q)), (2, .int k)] [] S2 (by omega) ⟨i + 1, p2, l1 ++ l2, s1 ++ s2, by omega, rfl, rfl, xGo_trans g g2 h1 hl.1, by omega, hl.2.1, by rw [List.length_append]; omega, ?_⟩))
        rw [h4, cMany, cThen_pre e, cThen_cPre, cPre_pre, List.length_append, Nat.add_assoc]
        congr 1
        congr 1
        funext p3 w
        rw [Nat.add_assoc b, Nat.add_assoc b, Nat.add_assoc l1.length])
  refine ⟨(60 * (N + 1) + 100) * (M + 1) + 20, ?_⟩
  refine x_tokA hA rfl (by omega) ?_
  refine x_maps ?_
  rw [← hm]
  refine ws_istore_n rfl rfl rfl rfl (ws_iconst (x := nI 0) rfl rfl rfl (ws_istore rfl rfl rfl rfl (kk1 M _ [(4, .int (nI 0)), (3, .int m), (0, .ref 2), (1, .int (nI q)), (2, .int k)] [] S (by omega) ⟨0, p, [], [], by omega, rfl, rfl, xGo_refl (xAt_p hA) (xAt_b hA), Nat.le_refl _, hpn.1, hpn.2.2, ?_⟩)))
  rw [hR, cPre_nil]; rfl
end LX
end
section
/-! THE CLASS'S COMPILER DOES WHAT THE FUNCTION SAYS: words laid, holes, notes; a plain token; AND and OR -/
theorem set_mid {α : Type} (a c : List α) (x v : α) : (a ++ x :: c).set a.length v = a ++ v :: c := by
  induction a with
  | nil => rfl
  | cons y a ih => simp [ih]
section LX
variable {d : Nat} {S T : mv_S} {P : Option Value → mv_S → Prop} {n : Nat} {tk par : Nat → Int32} {mn : Bool} {p b p1 : Nat} {l : List Int32} {s : List (Bool × Nat × Nat)}
theorem x_emitA {w : Int32} (g : xGo S T p b p1 l s) (hb : b + l.length < 2 ^ 30) (hp : p ≤ p1) (h : ∀ T', xGo S T' p b p1 (l ++ [w]) s → P none T') : mv_big layX sysX (d + 2) 71 [.ref 1, .int w] T P := x_emit (h _ (xGo_e g hb hp))
theorem x_holeA (g : xGo S T p b p1 l s) (hb : b + l.length < 2 ^ 30) (hp : p ≤ p1) (h : ∀ T', xGo S T' p b p1 (l ++ [0]) s → P (some (.int (nI (b + l.length)))) T') : mv_big layX sysX (d + 3) 72 [.ref 1] T P := by
  refine x_emitHole ?_
  rw [g.2.2.1]
  exact h _ (xGo_e g hb hp)
theorem x_fillA {a c : List Int32} {x i : Int32} (g : xGo S T p b p1 (a ++ x :: c) s) (hi : i = nI (b + a.length)) (hb : b + (a ++ x :: c).length < 2 ^ 30) (h : ∀ T', xGo S T' p b p1 (a ++ nI (b + (a ++ x :: c).length) :: c) s → P none T') : mv_big layX sysX (d + 2) 73 [.ref 1, .int i] T P := by
  subst hi
  refine x_fillHole (h _ ?_)
  have := xGo_fill g (k := a.length) (by simp) hb
  rw [set_mid] at this
  exact this
theorem x_behindA {i j : Int32} (g : xGo S T p b p1 l s) (hi : i = nI p) (hj : j = nI p1) (hn : ∀ e, (false, p, e) ∉ s) (hp : p < 700) (hp1 : p < p1) (h : ∀ T', xGo S T' p b p1 l (s ++ [(false, p, p1)]) → P none T') : mv_big layX sysX (d + 2) 59 [.ref 1, .int i, .int j] T P := by
  subst hi; subst hj
  exact x_setBehind (h _ (xGo_note false g hn hp hp1))
theorem x_turnA {i j : Int32} (g : xGo S T p b p1 l s) (hi : i = nI p) (hj : j = nI p1) (hn : ∀ e, (true, p, e) ∉ s) (hp : p < 700) (hp1 : p < p1) (h : ∀ T', xGo S T' p b p1 l (s ++ [(true, p, p1)]) → P none T') : mv_big layX sysX (d + 2) 61 [.ref 1, .int i, .int j] T P := by
  subst hi; subst hj
  exact x_setTurn (h _ (xGo_note true g hn hp hp1))
theorem x_plain {D : Nat} {rec : Bool → Nat → Nat → cRes} {k : Int32} (hM : xDoes D 43 [.ref 2, .int (k + 1)] n tk par mn (fun _ => True) (rec true)) (hN : xDoes D 42 [.ref 2, .int (k + 1)] n tk par mn (fun _ => True) (rec false)) (hr : ∀ m p b, p ≤ n → cLn n 8 p (rec m p b)) : xDoes (D + 5) 45 [.ref 2, .int k] n tk par mn (fun p => p < n) (cPlain n tk par rec) := by
  intro S P p b hp hA he ho
  have hpn := xAt_pn hA
  have hA1 := xAt_next hA hp
  have g0 := xGo_next (xAt_p hA) (xAt_b hA)
  have ht := xAt_tk hA
  refine ⟨120, ?_⟩
  refine x_tokN hA ?_
  refine x_argument (S := xNx S) hA1 (fun w q S1 e k1 k2 k3 => ?_) (fun q S1 e g1 => ?_)
  · refine ⟨fun _ => ⟨Or.inl rfl, he w q S1 ?_ (xKp_trans g0.1 k1) k2 k3⟩, fun z => absurd rfl z⟩
    unfold cPlain; rw [e]
  · refine ⟨fun z => absurd (show (1 : Int32) = 0 from z) (by decide), fun _ => ?_⟩
    have hq : p + 1 ≤ q ∧ q ≤ n := by
      rcases cArg_ok ht e with ⟨_, rfl⟩ | ⟨_, rfl, h4, _⟩ <;> omega
    have hA2 : xAt S1 n tk par mn q b := xAt_go hA1 g1 hq.2 (by simp; omega)
    refine x_parts (S := S1) (q := p) hM hN hr (xAt_p hA) (by omega) hA2 (fun w q' S2 e2 k1 k2 k3 => ?_) (fun p3 l s S2 e2 g2 => ?_)
    · refine ⟨fun z => absurd rfl z, fun _ => ⟨Or.inl rfl, he w q' S2 ?_ (xKp_trans g0.1 (xKp_trans g1.1 k1)) k2 k3⟩⟩
      unfold cPlain; rw [e]; simp only; rw [e2]
    · refine ⟨fun _ => ?_, fun z => absurd (show (1 : Int32) = 0 from z) (by decide)⟩
      have hl := cParts_ln hr hq.2 _ _ _ e2
      have g3 : xGo S S2 p b p3 l s := xGo_t0 g0 (xGo_t0 g1 g2 hq.1 hl.1) (Nat.le_succ p) (by omega)
      have spec : cPlain n tk par rec p b = .ok (p3, l ++ tkWord (tk p) :: (if 0 < tkArg (tk p) then [tk (p + 1)] else []), s) := by
        unfold cPlain; rw [e]; simp only; rw [e2]
      refine x_wordT ?_
      refine x_emitA g3 (by omega) (by omega) (fun S3 g4 => ?_)
      refine x_arguments ?_
      refine ⟨fun c => ⟨Or.inr rfl, ho _ _ _ S3 spec ?_⟩, fun c => ?_⟩
      · have c : tkArg (tk p) ≤ 0 := c
        rw [if_neg (Int32.not_lt.mpr c)]
        exact g4
      · have c : ¬ tkArg (tk p) ≤ 0 := c
        have hA3 : xAt S3 n tk par mn p3 (b + (l ++ [tkWord (tk p)]).length) := xAt_go hA g4 hl.2.1 (by simp; omega)
        refine x_tokA hA3 (q := p + 1) (show S.1 2 1 + 1 = _ by rw [xAt_p hA, nI_1]) (by omega) ?_
        refine x_emitA g4 (by simp; omega) (by omega) (fun S4 g5 => ?_)
        refine ⟨Or.inr rfl, ho _ _ _ S4 spec ?_⟩
        rw [if_pos (Int32.not_le.mp c)]
        simpa using g5
theorem x_shortcut1 {D : Nat} {rec : Bool → Nat → Nat → cRes} {k : Int32} (hN : xDoes D 42 [.ref 2, .int (k + 1)] n tk par mn (fun _ => True) (rec false)) (hr : ∀ m p b, p ≤ n → cLn n 8 p (rec m p b)) : xDoes (D + 4) 44 [.ref 2, .int k] n tk par mn (fun p => p < n ∧ tk p = 30) (fun p b => cEither rec (tk p) p b) := by
  intro S P p b hpq hA he ho
  have hp := hpq.1
  have h30 := hpq.2
  have hpn := xAt_pn hA
  have hA1 := xAt_next hA hp
  have g0 := xGo_next (xAt_p hA) (xAt_b hA)
  have ht := xAt_tk hA
  refine ⟨200, ?_⟩
  refine x_tokN hA ?_
  refine ⟨fun z => absurd h30 z, fun z => ?_⟩
  refine mv_deep (d := D) (by omega) (hN (xNx S) _ (p + 1) b trivial hA1 (fun w q S1 e k1 k2 k3 => ?_) (fun p1 l1 s1 S1 e g1 => ?_))
  · refine ⟨fun z => absurd rfl z, fun _ => ⟨Or.inl rfl, he w q S1 ?_ (xKp_trans g0.1 k1) k2 k3⟩⟩
    show cEither rec (tk p) p b = _
    unfold cEither; rw [e]
  · refine ⟨fun _ => ?_, fun z => absurd (show (1 : Int32) = 0 from z) (by decide)⟩
    refine ⟨fun z => absurd (show (1 : Int32) = 0 from z) (by decide), fun z => ?_⟩
    have hl := hr false (p + 1) b hp _ _ _ e
    have g2 : xGo S S1 p b p1 l1 s1 := xGo_t0 g0 g1 (Nat.le_succ p) hl.1
    refine x_emitA (w := 13) g2 (by omega) (by omega) (fun S2 g3 => ?_)
    refine x_holeA g3 (by simp; omega) (by omega) (fun S3 g4 => ?_)
    have eb : b + (l1 ++ [13] ++ [0]).length = b + l1.length + 2 := by simp; omega
    have hA2 : xAt S3 n tk par mn p1 (b + l1.length + 2) := by
      have := xAt_go hA g4 hl.2.1 (by rw [eb]; omega)
      rw [eb] at this; exact this
    refine mv_deep (d := D) (by omega) (hN S3 _ p1 (b + l1.length + 2) trivial hA2 (fun w q S4 e2 k1 k2 k3 => ?_) (fun p2 l2 s2 S4 e2 g5 => ?_))
    · refine ⟨fun z => absurd rfl z, fun _ => ⟨Or.inl rfl, he w q S4 ?_ (xKp_trans g4.1 k1) k2 k3⟩⟩
      show cEither rec (tk p) p b = _
      unfold cEither; rw [e]; simp only; rw [e2]
    · refine ⟨fun _ => ?_, fun z => absurd (show (1 : Int32) = 0 from z) (by decide)⟩
      have hl2 := hr false p1 _ hl.2.1 _ _ _ e2
      rw [← eb] at g5
      have g6 := xGo_trans g4 g5 (by omega) hl2.1
      have en : (l1 ++ [13] ++ [0] ++ l2).length = l1.length + 2 + l2.length := by simp; omega
      refine x_emitA (w := 11) g6 (by rw [en]; omega) (by omega) (fun S5 g7 => ?_)
      refine x_emitA (w := 11) g7 (by simp; omega) (by omega) (fun S6 g8 => ?_)
      refine x_emitA (w := 12) g8 (by simp; omega) (by omega) (fun S7 g9 => ?_)
      refine x_holeA g9 (by simp; omega) (by omega) (fun S8 g10 => ?_)
      have g11 : xGo S S8 p b p2 ((l1 ++ [13]) ++ 0 :: (l2 ++ [11, 11, 12, 0])) (s1 ++ s2) := by simpa using g10
      refine x_fillA g11 rfl (by simp; omega) (fun S9 g12 => ?_)
      refine x_emitA (w := 1) g12 (by simp; omega) (by omega) (fun S10 g13 => ?_)
      refine ⟨fun z => absurd (show (1 : Int32) = 0 from z) (by decide), fun z => ?_⟩
      refine x_emitA (w := 0) g13 (by simp; omega) (by omega) (fun S11 g14 => ?_)
      have ew : b + ((l1 ++ [13]) ++ 0 :: (l2 ++ [11, 11, 12, 0])).length = b + l1.length + 2 + l2.length + 4 := by simp; omega
      rw [ew] at g14
      have g15 : xGo S S11 p b p2 ((l1 ++ [13] ++ nI (b + l1.length + 2 + l2.length + 4) :: (l2 ++ [11, 11, 12])) ++ 0 :: [1, 0]) (s1 ++ s2) := by simpa using g14
      refine x_fillA g15 (by congr 1; simp) (by simp; omega) (fun S12 g16 => ?_)
      refine ⟨Or.inr rfl, ho p2 _ (s1 ++ s2) S12 ?_ g16⟩
      have ev : b + ((l1 ++ [13] ++ nI (b + l1.length + 2 + l2.length + 4) :: (l2 ++ [11, 11, 12])) ++ 0 :: [1, 0]).length = b + l1.length + 2 + l2.length + 6 := by simp; omega
      rw [ev]
      show cEither rec (tk p) p b = _
      unfold cEither; rw [e]; simp only; rw [e2]
      simp [h30]
theorem x_shortcut2 {D : Nat} {rec : Bool → Nat → Nat → cRes} {k : Int32} (hN : xDoes D 42 [.ref 2, .int (k + 1)] n tk par mn (fun _ => True) (rec false)) (hr : ∀ m p b, p ≤ n → cLn n 8 p (rec m p b)) : xDoes (D + 4) 44 [.ref 2, .int k] n tk par mn (fun p => p < n ∧ ¬ tk p = 30) (fun p b => cEither rec (tk p) p b) := by
  intro S P p b hpq hA he ho
  have hp := hpq.1
  have h30 := hpq.2
  have hpn := xAt_pn hA
  have hA1 := xAt_next hA hp
  have g0 := xGo_next (xAt_p hA) (xAt_b hA)
  have ht := xAt_tk hA
  refine ⟨200, ?_⟩
  refine x_tokN hA ?_
  refine ⟨fun z => ?_, fun z => absurd z h30⟩
  refine mv_deep (d := D) (by omega) (hN (xNx S) _ (p + 1) b trivial hA1 (fun w q S1 e k1 k2 k3 => ?_) (fun p1 l1 s1 S1 e g1 => ?_))
  · refine ⟨fun z => absurd rfl z, fun _ => ⟨Or.inl rfl, he w q S1 ?_ (xKp_trans g0.1 k1) k2 k3⟩⟩
    show cEither rec (tk p) p b = _
    unfold cEither; rw [e]
  · refine ⟨fun _ => ?_, fun z => absurd (show (1 : Int32) = 0 from z) (by decide)⟩
    refine ⟨fun z => ?_, fun z => absurd rfl z⟩
    have hl := hr false (p + 1) b hp _ _ _ e
    have g2 : xGo S S1 p b p1 l1 s1 := xGo_t0 g0 g1 (Nat.le_succ p) hl.1
    refine x_emitA (w := 14) g2 (by omega) (by omega) (fun S2 g3 => ?_)
    refine x_holeA g3 (by simp; omega) (by omega) (fun S3 g4 => ?_)
    have eb : b + (l1 ++ [14] ++ [0]).length = b + l1.length + 2 := by simp; omega
    have hA2 : xAt S3 n tk par mn p1 (b + l1.length + 2) := by
      have := xAt_go hA g4 hl.2.1 (by rw [eb]; omega)
      rw [eb] at this; exact this
    refine mv_deep (d := D) (by omega) (hN S3 _ p1 (b + l1.length + 2) trivial hA2 (fun w q S4 e2 k1 k2 k3 => ?_) (fun p2 l2 s2 S4 e2 g5 => ?_))
    · refine ⟨fun z => absurd rfl z, fun _ => ⟨Or.inl rfl, he w q S4 ?_ (xKp_trans g4.1 k1) k2 k3⟩⟩
      show cEither rec (tk p) p b = _
      unfold cEither; rw [e]; simp only; rw [e2]
    · refine ⟨fun _ => ?_, fun z => absurd (show (1 : Int32) = 0 from z) (by decide)⟩
      have hl2 := hr false p1 _ hl.2.1 _ _ _ e2
      rw [← eb] at g5
      have g6 := xGo_trans g4 g5 (by omega) hl2.1
      have en : (l1 ++ [14] ++ [0] ++ l2).length = l1.length + 2 + l2.length := by simp; omega
      refine x_emitA (w := 11) g6 (by rw [en]; omega) (by omega) (fun S5 g7 => ?_)
      refine x_emitA (w := 11) g7 (by simp; omega) (by omega) (fun S6 g8 => ?_)
      refine x_emitA (w := 12) g8 (by simp; omega) (by omega) (fun S7 g9 => ?_)
      refine x_holeA g9 (by simp; omega) (by omega) (fun S8 g10 => ?_)
      have g11 : xGo S S8 p b p2 ((l1 ++ [14]) ++ 0 :: (l2 ++ [11, 11, 12, 0])) (s1 ++ s2) := by simpa using g10
      refine x_fillA g11 rfl (by simp; omega) (fun S9 g12 => ?_)
      refine x_emitA (w := 1) g12 (by simp; omega) (by omega) (fun S10 g13 => ?_)
      refine ⟨fun z => ?_, fun z => absurd rfl z⟩
      refine x_emitA (w := 1) g13 (by simp; omega) (by omega) (fun S11 g14 => ?_)
      have ew : b + ((l1 ++ [14]) ++ 0 :: (l2 ++ [11, 11, 12, 0])).length = b + l1.length + 2 + l2.length + 4 := by simp; omega
      rw [ew] at g14
      have g15 : xGo S S11 p b p2 ((l1 ++ [14] ++ nI (b + l1.length + 2 + l2.length + 4) :: (l2 ++ [11, 11, 12])) ++ 0 :: [1, 1]) (s1 ++ s2) := by simpa using g14
      refine x_fillA g15 (by congr 1; simp) (by simp; omega) (fun S12 g16 => ?_)
      refine ⟨Or.inr rfl, ho p2 _ (s1 ++ s2) S12 ?_ g16⟩
      have ev : b + ((l1 ++ [14] ++ nI (b + l1.length + 2 + l2.length + 4) :: (l2 ++ [11, 11, 12])) ++ 0 :: [1, 1]).length = b + l1.length + 2 + l2.length + 6 := by simp; omega
      rw [ev]
      show cEither rec (tk p) p b = _
      unfold cEither; rw [e]; simp only; rw [e2]
      simp [h30]
end LX
end
section
/-! THE CLASS'S COMPILER DOES WHAT THE FUNCTION SAYS: E and M -/
section LX
variable {n : Nat} {tk par : Nat → Int32} {mn : Bool}
theorem xFl_1 (S : mv_S) (w : Int32) : (mv_pf S 2 2 w).1 2 1 = S.1 2 1 := by rw [pf_get, if_neg (by decide)]
theorem xFl_2 (S : mv_S) (w : Int32) : (mv_pf S 2 2 w).1 2 2 = w := by rw [pf_get, if_pos ⟨rfl, rfl⟩]
theorem xBe_1 (S : mv_S) (i x : Int32) (o f : Nat) : (sR S 9 700 i x).1 o f = S.1 o f := by rw [sR_1]
theorem x_mapPart0 : xDoes 10 43 [.ref 2, .int 16] n tk par mn (fun _ => True) (cEM n tk par false 0 true) := by
  intro S P p b _ hA he ho
  refine ⟨60, ?_⟩
  refine x_tokN hA ?_
  refine x_isMap (fun c => ?_) (fun c => ?_)
  · refine ⟨fun z => absurd rfl z, fun _ => ?_⟩
    refine x_fail ⟨Or.inl rfl, he (-11) p _ ?_ (xKp_fault S _) ((xFl_1 S _).trans (xAt_p hA)) (xFl_2 S _)⟩
    unfold cEM
    rw [if_neg (show ¬ cKind true (tk p) from c)]
  · refine ⟨fun _ => ?_, fun z => absurd (show (1 : Int32) = 0 from z) (by decide)⟩
    refine ⟨fun z => absurd (show (16 : Int32) < 16 from z) (by decide), fun _ => ?_⟩
    refine x_fail ⟨Or.inl rfl, he (-15) p _ ?_ (xKp_fault S _) ((xFl_1 S _).trans (xAt_p hA)) (xFl_2 S _)⟩
    unfold cEM
    rw [if_pos (show cKind true (tk p) from c)]
theorem x_numberPart0 : xDoes 10 42 [.ref 2, .int 16] n tk par mn (fun _ => True) (cEM n tk par false 0 false) := by
  intro S P p b _ hA he ho
  refine ⟨60, ?_⟩
  refine x_tokN hA ?_
  refine x_isNumber (fun c => ?_) (fun c => ?_)
  · refine ⟨fun z => absurd rfl z, fun _ => ?_⟩
    refine x_fail ⟨Or.inl rfl, he (-11) p _ ?_ (xKp_fault S _) ((xFl_1 S _).trans (xAt_p hA)) (xFl_2 S _)⟩
    unfold cEM
    rw [if_neg (show ¬ cKind false (tk p) from c)]
  · refine ⟨fun _ => ?_, fun z => absurd (show (1 : Int32) = 0 from z) (by decide)⟩
    refine ⟨fun z => absurd (show (16 : Int32) < 16 from z) (by decide), fun _ => ?_⟩
    refine x_fail ⟨Or.inl rfl, he (-15) p _ ?_ (xKp_fault S _) ((xFl_1 S _).trans (xAt_p hA)) (xFl_2 S _)⟩
    unfold cEM
    rw [if_pos (show cKind false (tk p) from c)]
theorem cMark_err {mk : Bool} {note : Nat → List (Bool × Nat × Nat)} {a : cRes} {e} (h : a = .error e) : cMark mk note a = .error e := by subst h; rfl
theorem cMark_f {note : Nat → List (Bool × Nat × Nat)} {a : cRes} {p l s} (h : a = .ok (p, l, s)) : cMark false note a = .ok (p, l, s ++ note p) := by subst h; rfl
theorem x_mapPartS {D r : Nat} {k : Int32} (ht : ∀ p, n ≤ p → tk p = -1) (hk : k < 16) (hP : xDoes D 45 [.ref 2, .int k] n tk par mn (fun p => p < n) (cPlain n tk par (cEM n tk par false r))) : xDoes (D + 2) 43 [.ref 2, .int k] n tk par mn (fun _ => True) (cEM n tk par false (r + 1) true) := by
  intro S P p b _ hA he ho
  refine ⟨60, ?_⟩
  refine x_tokN hA ?_
  refine x_isMap (fun c => ?_) (fun c => ?_)
  · refine ⟨fun z => absurd rfl z, fun _ => ?_⟩
    refine x_fail ⟨Or.inl rfl, he (-11) p _ ?_ (xKp_fault S _) ((xFl_1 S _).trans (xAt_p hA)) (xFl_2 S _)⟩
    unfold cEM
    rw [if_neg (show ¬ cKind true (tk p) from c)]
  · refine ⟨fun _ => ?_, fun z => absurd (show (1 : Int32) = 0 from z) (by decide)⟩
    refine ⟨fun _ => ?_, fun z => absurd hk z⟩
    have hc : cKind true (tk p) := c
    have hn : ¬ (tk p = 30 ∨ tk p = 31) := by
      intro z
      have c1 := hc.1
      rcases z with z | z <;> rw [z] at c1 <;> exact absurd c1 (by decide)
    have spec : cEM n tk par false (r + 1) true p b = cMark false (fun p1 => []) (cPlain n tk par (cEM n tk par false r) p b) := by
      rw [cEM, if_pos hc, if_neg hn]; rfl
    rw [spec] at he ho
    refine mv_deep (d := D) (by omega) (hP S _ p b (cKind_in ht hc) hA (fun w q S1 e k1 k2 k3 => ⟨Or.inl rfl, he w q S1 (cMark_err e) k1 k2 k3⟩) (fun p1 l s S1 e g => ⟨Or.inr rfl, ho p1 l s S1 ?_ g⟩))
    rw [cMark_f e, List.append_nil]
theorem x_numberPartS {D r : Nat} {k : Int32} (ht : ∀ p, n ≤ p → tk p = -1) (hk : k < 16) (hP : xDoes D 45 [.ref 2, .int k] n tk par mn (fun p => p < n) (cPlain n tk par (cEM n tk par false r)))
    (h1 : xDoes D 44 [.ref 2, .int k] n tk par mn (fun p => p < n ∧ tk p = 30) (fun p b => cEither (cEM n tk par false r) (tk p) p b)) (h2 : xDoes D 44 [.ref 2, .int k] n tk par mn (fun p => p < n ∧ ¬ tk p = 30) (fun p b => cEither (cEM n tk par false r) (tk p) p b)) : xDoes (D + 3) 42 [.ref 2, .int k] n tk par mn (fun _ => True) (cEM n tk par false (r + 1) false) := by
  intro S P p b _ hA he ho
  have hpn := xAt_pn hA
  have hr : ∀ m p b, p ≤ n → cLn n (8 + (false).toNat) p (cEM n tk par false r m p b) := fun m p b _ => cLs_ln (cEM_ls ht r m p b)
  have hnt : ∀ m p b, p ≤ n → cNt p (cEM n tk par false r m p b) := fun m p b _ => cEM_nt ht r m p b
  refine ⟨100, ?_⟩
  refine x_tokN hA ?_
  refine x_isNumber (fun c => ?_) (fun c => ?_)
  · refine ⟨fun z => absurd rfl z, fun _ => ?_⟩
    refine x_fail ⟨Or.inl rfl, he (-11) p _ ?_ (xKp_fault S _) ((xFl_1 S _).trans (xAt_p hA)) (xFl_2 S _)⟩
    rw [cEM, if_neg (show ¬ cKind false (tk p) from c)]
  · refine ⟨fun _ => ?_, fun z => absurd (show (1 : Int32) = 0 from z) (by decide)⟩
    refine ⟨fun _ => ?_, fun z => absurd hk z⟩
    have hc : cKind false (tk p) := c
    have hp := cKind_in ht hc
    refine ⟨fun c30 => ?_, fun c30 => ⟨fun c31 => ?_, fun c31 => ?_⟩⟩
    · have c30 : tk p = 30 := c30
      have spec : cEM n tk par false (r + 1) false p b = cMark false (fun p1 => [(false, p, p1)]) (cEither (cEM n tk par false r) (tk p) p b) := by
        rw [cEM, if_pos hc, if_pos (Or.inl c30)]; rfl
      rw [spec] at he ho
      refine mv_deep (d := D) (by omega) (h1 S _ p b ⟨hp, c30⟩ hA (fun w q S1 e k1 k2 k3 => ?_) (fun p1 l s S1 e g => ?_))
      · exact x_setBehind ⟨Or.inl rfl, he w q _ (cMark_err e) (xKp_trans k1 (xKp_sR S1 (Or.inl rfl) _ _ _)) ((xBe_1 S1 _ _ _ _).trans k2) ((xBe_1 S1 _ _ _ _).trans k3)⟩
      · have hl := cEither_ls (by decide) hr hp e
        refine x_behindA g (xAt_p hA) g.2.1 (fun z hz => ?_) (by omega) hl.1 (fun S2 g2 => ⟨Or.inr rfl, ho p1 l _ S2 (cMark_f e) g2⟩)
        have := cEither_nt hr hnt hp _ _ _ e false p z hz
        omega
    · have c30 : ¬ tk p = 30 := c30
      have c31 : ¬ tk p = 31 := c31
      have spec : cEM n tk par false (r + 1) false p b = cMark false (fun p1 => [(false, p, p1)]) (cPlain n tk par (cEM n tk par false r) p b) := by
        rw [cEM, if_pos hc, if_neg (fun z => z.elim c30 c31)]; rfl
      rw [spec] at he ho
      refine mv_deep (d := D) (by omega) (hP S _ p b hp hA (fun w q S1 e k1 k2 k3 => ?_) (fun p1 l s S1 e g => ?_))
      · exact x_setBehind ⟨Or.inl rfl, he w q _ (cMark_err e) (xKp_trans k1 (xKp_sR S1 (Or.inl rfl) _ _ _)) ((xBe_1 S1 _ _ _ _).trans k2) ((xBe_1 S1 _ _ _ _).trans k3)⟩
      · have hl := cPlain_ls ht (by decide) hr hp e
        refine x_behindA g (xAt_p hA) g.2.1 (fun z hz => ?_) (by omega) hl.1 (fun S2 g2 => ⟨Or.inr rfl, ho p1 l _ S2 (cMark_f e) g2⟩)
        have := cPlain_nt ht hr hnt hp _ _ _ e false p z hz
        omega
    · have c31 : tk p = 31 := c31
      have c30 : ¬ tk p = 30 := by rw [c31]; decide
      have spec : cEM n tk par false (r + 1) false p b = cMark false (fun p1 => [(false, p, p1)]) (cEither (cEM n tk par false r) (tk p) p b) := by
        rw [cEM, if_pos hc, if_pos (Or.inr c31)]; rfl
      rw [spec] at he ho
      refine mv_deep (d := D) (by omega) (h2 S _ p b ⟨hp, c30⟩ hA (fun w q S1 e k1 k2 k3 => ?_) (fun p1 l s S1 e g => ?_))
      · exact x_setBehind ⟨Or.inl rfl, he w q _ (cMark_err e) (xKp_trans k1 (xKp_sR S1 (Or.inl rfl) _ _ _)) ((xBe_1 S1 _ _ _ _).trans k2) ((xBe_1 S1 _ _ _ _).trans k3)⟩
      · have hl := cEither_ls (by decide) hr hp e
        refine x_behindA g (xAt_p hA) g.2.1 (fun z hz => ?_) (by omega) hl.1 (fun S2 g2 => ⟨Or.inr rfl, ho p1 l _ S2 (cMark_f e) g2⟩)
        have := cEither_nt hr hnt hp _ _ _ e false p z hz
        omega
theorem xDoes_deep {D E j : Nat} {args : List Value} {Q : Nat → Prop} {R : Nat → Nat → cRes} (h : D ≤ E) (x : xDoes D j args n tk par mn Q R) : xDoes E j args n tk par mn Q R := fun S P p b q a he ho => mv_deep h (x S P p b q a he ho)
theorem x_EM (ht : ∀ p, n ≤ p → tk p = -1) : ∀ r, r ≤ 16 → xDoes (8 * r + 10) 43 [.ref 2, .int (nI (16 - r))] n tk par mn (fun _ => True) (cEM n tk par false r true) ∧ xDoes (8 * r + 10) 42 [.ref 2, .int (nI (16 - r))] n tk par mn (fun _ => True) (cEM n tk par false r false) := by
  intro r
  induction r with
  | zero => exact fun _ => ⟨x_mapPart0, x_numberPart0⟩
  | succ r ih =>
    intro hr16
    obtain ⟨iM, iN⟩ := ih (by omega)
    have ek : nI (16 - (r + 1)) + 1 = nI (16 - r) := by rw [nI_1]; congr 1; omega
    rw [← ek] at iM iN
    have hr : ∀ m p b, p ≤ n → cLn n 8 p (cEM n tk par false r m p b) := fun m p b _ => cLs_ln (cEM_ls ht r m p b)
    have hk : nI (16 - (r + 1)) < 16 := nI_lt (b := 16) (by omega) (by decide)
    have hP := x_plain iM iN hr
    have h1 := x_shortcut1 iN hr
    have h2 := x_shortcut2 iN hr
    refine ⟨xDoes_deep (by omega) (x_mapPartS ht hk hP), xDoes_deep (by omega) (x_numberPartS ht hk hP (xDoes_deep (by omega) h1) (xDoes_deep (by omega) h2))⟩
end LX
end
section
/-! THE CLASS'S COMPILER DOES WHAT THE FUNCTION SAYS: statements -/
def cFin (mn : Bool) (t : Int32) : List Int32 := if t = 8 then [18] else if t = 9 then (if mn then [18, 0] else [17]) else []
section LX
variable {d : Nat} {S T : mv_S} {P : Option Value → mv_S → Prop} {n : Nat} {tk par : Nat → Int32} {mn : Bool} {p b p1 : Nat} {l : List Int32} {s : List (Bool × Nat × Nat)}
theorem x_passEndA (hA : xAt S n tk par mn p b) (he : ∀ S', ¬ tk p = 0 → xKp S S' → S'.1 2 1 = nI p → S'.1 2 2 = -11 → P (some (.int 0)) S') (ho : tk p = 0 → P (some (.int 1)) (xNx S)) : mv_big layX sysX (d + 2) 30 [.ref 2] S P := by
  have ht : xTok S (S.1 2 1) = tk p := by rw [xAt_p hA]; exact xAt_tok hA (by have := xAt_pn hA; omega)
  refine x_passEnd (fun c => ?_) (fun c => ?_)
  · rw [ht] at c
    exact he _ c (xKp_fault S _) ((xFl_1 S _).trans (xAt_p hA)) (xFl_2 S _)
  · rw [ht] at c
    exact ho c
theorem x_emittedA {i : Int32} (h : S.1 1 10 = i → P (some (.int i)) S) (hi : S.1 1 10 = i) : mv_big layX sysX (d + 1) 74 [.ref 1] S P := by
  subst hi
  exact ⟨20, h rfl⟩
theorem x_loopRest {D : Nat} {blk : Nat → Nat → cRes} {k again hole x : Int32} {a c : List Int32} (hB : xDoes D 35 [.ref 2, .int (k + 1)] n tk par mn (fun _ => True) blk) (hbl : ∀ p b, p ≤ n → cLn n 8 p (blk p b)) (hA : xAt S n tk par mn p b) (g : xGo S T p b p1 (a ++ x :: c) s) (hp : p ≤ p1) (hp1 : p1 ≤ n) (hb : b + (a ++ x :: c).length ≤ 8 * p1) (hi : hole = nI (b + a.length))
    (he1 : ∀ w q S', blk p1 (b + (a ++ x :: c).length) = .error (w, q) → xKp S S' → S'.1 2 1 = nI q → S'.1 2 2 = w → P (some (.int 0)) S')
    (he2 : ∀ p2 l2 s2 S', blk p1 (b + (a ++ x :: c).length) = .ok (p2, l2, s2) → ¬ tk p2 = 0 → xKp S S' → S'.1 2 1 = nI p2 → S'.1 2 2 = -11 → P (some (.int 0)) S')
    (ho : ∀ p2 l2 s2 S', blk p1 (b + (a ++ x :: c).length) = .ok (p2, l2, s2) → tk p2 = 0 → p1 ≤ p2 → p2 < n → xGo S S' p b (p2 + 1) (a ++ nI (b + (a ++ x :: c).length + l2.length + 2) :: (c ++ (l2 ++ [12, again]))) (s ++ s2) → P (some (.int 1)) S') : mv_big layX sysX (D + 3) 41 [.ref 2, .int k, .int again, .int hole] T P := by
  have hpn := xAt_pn hA
  have hA1 := xAt_go hA g hp1 hb
  refine ⟨80, ?_⟩
  refine mv_deep (d := D) (by omega) (hB T _ p1 _ trivial hA1 (fun w q S1 e k1 k2 k3 => ?_) (fun p2 l2 s2 S1 e g1 => ?_))
  · exact ⟨fun _ => ⟨Or.inl rfl, he1 w q S1 e (xKp_trans g.1 k1) k2 k3⟩, fun z => absurd rfl z⟩
  · refine ⟨fun z => absurd (show (1 : Int32) = 0 from z) (by decide), fun _ => ?_⟩
    have hl := hbl p1 _ hp1 _ _ _ e
    have g2 := xGo_trans g g1 hp hl.1
    have hA2 := xAt_go hA1 g1 hl.2.1 (by omega)
    refine x_passEndA hA2 (fun S2 z0 k1 k2 k3 => ?_) (fun z0 => ?_)
    · exact ⟨fun z => absurd rfl z, fun _ => ⟨Or.inl rfl, he2 p2 l2 s2 S2 e z0 (xKp_trans g2.1 k1) k2 k3⟩⟩
    · refine ⟨fun _ => ?_, fun z => absurd (show (1 : Int32) = 0 from z) (by decide)⟩
      have hn2 : p2 < n := tk_in (xAt_tk hA) (by rw [z0]; decide)
      have g3 := xGo_n g2 (by omega)
      have en : (a ++ x :: c ++ l2).length = (a ++ x :: c).length + l2.length := List.length_append
      refine x_emitA (w := 12) g3 (by rw [en]; omega) (by omega) (fun S3 g4 => ?_)
      refine x_emitA (w := again) g4 (by rw [List.length_append, en, List.length_singleton]; omega) (by omega) (fun S4 g5 => ?_)
      have g6 : xGo S S4 p b (p2 + 1) (a ++ x :: (c ++ (l2 ++ [12, again]))) (s ++ s2) := by simpa using g5
      have em : b + (a ++ x :: (c ++ (l2 ++ [12, again]))).length = b + (a ++ x :: c).length + l2.length + 2 := by simp; omega
      refine x_fillA g6 hi (by rw [em]; omega) (fun S5 g7 => ?_)
      rw [em] at g7
      exact ⟨Or.inr rfl, ho p2 l2 s2 S5 e z0 hl.1 hn2 g7⟩
theorem x_repetition {D : Nat} {rec : Bool → Nat → Nat → cRes} {blk : Nat → Nat → cRes} {k : Int32} (hN : xDoes D 42 [.ref 2, .int (k + 1)] n tk par mn (fun _ => True) (rec false)) (hr : ∀ m p b, p ≤ n → cLn n 8 p (rec m p b)) (hB : xDoes D 35 [.ref 2, .int (k + 1)] n tk par mn (fun _ => True) blk) (hbl : ∀ p b, p ≤ n → cLn n 8 p (blk p b)) : xDoes (D + 4) 39 [.ref 2, .int k] n tk par mn (fun p => p < n) (cWhile tk rec blk) := by
  intro S P p b hp hA he ho
  have hpn := xAt_pn hA
  have hA1 := xAt_next hA hp
  have g0 := xGo_next (xAt_p hA) (xAt_b hA)
  refine ⟨80, ?_⟩
  refine x_emittedA (i := nI b) (fun _ => ?_) (xAt_b hA1)
  refine mv_deep (d := D) (by omega) (hN (xNx S) _ (p + 1) b trivial hA1 (fun w q S1 e k1 k2 k3 => ?_) (fun p1 l1 s1 S1 e g1 => ?_))
  · refine ⟨fun z => absurd rfl z, fun _ => ⟨Or.inl rfl, he w q S1 ?_ (xKp_trans g0.1 k1) k2 k3⟩⟩
    unfold cWhile; rw [e]
  · refine ⟨fun _ => ?_, fun z => absurd (show (1 : Int32) = 0 from z) (by decide)⟩
    have hl := hr false (p + 1) b hp _ _ _ e
    have g2 : xGo S S1 p b p1 l1 s1 := xGo_t0 g0 g1 (Nat.le_succ p) hl.1
    refine x_emitA (w := 13) g2 (by omega) (by omega) (fun S2 g3 => ?_)
    refine x_holeA g3 (by simp; omega) (by omega) (fun S3 g4 => ?_)
    have g5 : xGo S S3 p b p1 ((l1 ++ [13]) ++ 0 :: []) s1 := g4
    have eb : b + ((l1 ++ [13]) ++ 0 :: []).length = b + l1.length + 2 := by simp; omega
    refine x_loopRest hB hbl hA g5 (by omega) hl.2.1 (by rw [eb]; omega) rfl (fun w q S4 e2 k1 k2 k3 => ?_) (fun p2 l2 s2 S4 e2 c k1 k2 k3 => ?_) (fun p2 l2 s2 S4 e2 c c1 c2 g6 => ?_)
    all_goals rw [eb] at e2
    · refine ⟨Or.inl rfl, he w q S4 ?_ k1 k2 k3⟩
      unfold cWhile; rw [e]; simp only; rw [e2]
    · refine ⟨Or.inl rfl, he (-11) p2 S4 ?_ k1 k2 k3⟩
      unfold cWhile; rw [e]; simp only; rw [e2]; simp only; rw [if_neg c]
    · refine ⟨Or.inr rfl, ho (p2 + 1) _ _ S4 ?_ g6⟩
      unfold cWhile; rw [e]; simp only; rw [e2]; simp only; rw [if_pos c, eb]
      simp
theorem x_eachKey {D : Nat} {blk : Nat → Nat → cRes} {k : Int32} (hB : xDoes D 35 [.ref 2, .int (k + 1)] n tk par mn (fun _ => True) blk) (hbl : ∀ p b, p ≤ n → cLn n 8 p (blk p b)) : xDoes (D + 4) 40 [.ref 2, .int k] n tk par mn (fun p => p < n) (cEach n tk blk) := by
  intro S P p b hp hA he ho
  have hpn := xAt_pn hA
  have hA1 := xAt_next hA hp
  have g0 := xGo_next (xAt_p hA) (xAt_b hA)
  refine ⟨160, ?_⟩
  refine x_bareA (lim := 6) hA1 (fun w q S1 e k1 k2 k3 => ?_) (fun e1 => ?_)
  · refine ⟨fun _ => ⟨Or.inl rfl, he w q S1 ?_ (xKp_trans g0.1 k1) k2 k3⟩, fun z => absurd rfl z⟩
    unfold cEach; rw [e]
  refine ⟨fun z => absurd (show (1 : Int32) = 0 from z) (by decide), fun _ => ?_⟩
  have g1 := xGo_n g0 (by omega)
  have hA2 := xAt_next hA1 (cBare_ok e1).2.1
  refine x_bareA (lim := 14) hA2 (fun w q S1 e k1 k2 k3 => ?_) (fun e2 => ?_)
  · refine ⟨fun _ => ⟨Or.inl rfl, he w q S1 ?_ (xKp_trans g1.1 k1) k2 k3⟩, fun z => absurd rfl z⟩
    unfold cEach; rw [e1]; simp only; rw [e]
  refine ⟨fun z => absurd (show (1 : Int32) = 0 from z) (by decide), fun _ => ?_⟩
  have g2 := xGo_n g1 (by omega)
  have hA3 := xAt_next hA2 (cBare_ok e2).2.1
  refine x_bareA (lim := 14) hA3 (fun w q S1 e k1 k2 k3 => ?_) (fun e3 => ?_)
  · refine ⟨fun z => absurd rfl z, fun _ => ⟨Or.inl rfl, he w q S1 ?_ (xKp_trans g2.1 k1) k2 k3⟩⟩
    unfold cEach; rw [e1]; simp only; rw [e2]; simp only; rw [e]
  refine ⟨fun _ => ?_, fun z => absurd (show (1 : Int32) = 0 from z) (by decide)⟩
  have hp4 := (cBare_ok e3).2.1
  have g3 := xGo_n g2 (by omega)
  have bb : b + 8 ≤ 8 * (p + 1) := by omega
  refine x_emitA (w := 19) g3 (by simp; omega) (by omega) (fun S1 g4 => ?_)
  have hB1 := xAt_go hA g4 (by omega) (by simp; omega)
  refine x_tokA hB1 (q := p + 1) (show S.1 2 1 + 1 = _ by rw [xAt_p hA, nI_1]) (by omega) ?_
  refine x_emitA (w := tk (p + 1)) g4 (by simp; omega) (by omega) (fun S2 g5 => ?_)
  refine x_emittedA (i := nI (b + 2)) (fun _ => ?_) (by rw [g5.2.2.1]; simp)
  refine x_emitA (w := 29) g5 (by simp; omega) (by omega) (fun S3 g6 => ?_)
  have hB2 := xAt_go hA g6 (by omega) (by simp; omega)
  refine x_tokA hB2 (q := p + 2) (show S.1 2 1 + 2 = _ by rw [xAt_p hA, show (2 : Int32) = nI 2 from rfl, nI_add]) (by omega) ?_
  refine x_emitA (w := tk (p + 2)) g6 (by simp; omega) (by omega) (fun S4 g7 => ?_)
  have hB3 := xAt_go hA g7 (by omega) (by simp; omega)
  refine x_tokA hB3 (q := p + 3) (show S.1 2 1 + 3 = _ by rw [xAt_p hA, show (3 : Int32) = nI 3 from rfl, nI_add]) (by omega) ?_
  refine x_emitA (w := tk (p + 3)) g7 (by simp; omega) (by omega) (fun S5 g8 => ?_)
  refine x_holeA g8 (by simp; omega) (by omega) (fun S6 g9 => ?_)
  have g10 : xGo S S6 p b (p + 4) ([19, tk (p + 1), 29, tk (p + 2), tk (p + 3)] ++ 0 :: []) [] := by simpa using g9
  have eb : b + ([19, tk (p + 1), 29, tk (p + 2), tk (p + 3)] ++ 0 :: []).length = b + 6 := by simp
  refine x_loopRest hB hbl hA g10 (by omega) hp4 (by rw [eb]; omega) (by congr 1) (fun w q S4 e k1 k2 k3 => ?_) (fun p2 l2 s2 S4 e c k1 k2 k3 => ?_) (fun p2 l2 s2 S4 e c c1 c2 g11 => ?_)
  all_goals rw [eb] at e
  · refine ⟨Or.inl rfl, he w q S4 ?_ k1 k2 k3⟩
    unfold cEach; rw [e1]; simp only; rw [e2]; simp only; rw [e3]; simp only; rw [e]
  · refine ⟨Or.inl rfl, he (-11) p2 S4 ?_ k1 k2 k3⟩
    unfold cEach; rw [e1]; simp only; rw [e2]; simp only; rw [e3]; simp only; rw [e]; simp only; rw [if_neg c]
  · refine ⟨Or.inr rfl, ho (p2 + 1) _ _ S4 ?_ g11⟩
    unfold cEach; rw [e1]; simp only; rw [e2]; simp only; rw [e3]; simp only; rw [e]; simp only; rw [if_pos c, eb]
    simp
theorem x_finish (hA : xAt S n tk par mn p b) (g : xGo S T p b p1 l s) (hn : ∀ e, (false, p, e) ∉ s) (hp : p < n) (hp1 : p < p1) (hp2 : p1 ≤ n) (hb : b + l.length ≤ 8 * p1) (h : ∀ T', xGo S T' p b p1 (l ++ cFin mn (tk p)) (s ++ [(false, p, p1)]) → P none T') : mv_big layX sysX (d + 3) 37 [.ref 2, .int (S.1 2 1)] T P := by
  have hpn := xAt_pn hA
  refine ⟨60, ?_⟩
  refine x_behindA g (xAt_p hA) g.2.1 hn (by omega) hp1 (fun S1 g1 => ?_)
  have hA1 := xAt_go hA g1 hp2 hb
  refine x_tokA hA1 (q := p) (xAt_p hA) (by omega) ?_
  refine ⟨fun c8 => ⟨fun c9 => ⟨fun _ => ?_, fun z => absurd z c9⟩, fun c9 => ⟨fun m0 => ⟨fun z => absurd c9 z, fun _ => ?_⟩, fun m0 => ?_⟩⟩, fun c8 => ?_⟩
  · have c8 : ¬ tk p = 8 := c8
    have c9 : ¬ tk p = 9 := c9
    refine h S1 ?_
    unfold cFin
    rw [if_neg c8, if_neg c9, List.append_nil]
    exact g1
  · have c8 : ¬ tk p = 8 := c8
    have c9 : tk p = 9 := c9
    have m0 : S1.1 2 3 = 0 := m0
    refine x_emitA (w := 17) g1 (by omega) (by omega) (fun S2 g2 => h S2 ?_)
    have hm : mn = false := by
      have := hA1.2.2.2.2.2.1
      rw [m0] at this
      cases mn
      · rfl
      · exact absurd this (by decide)
    unfold cFin
    rw [if_neg c8, if_pos c9, hm]
    exact g2
  · have c8 : ¬ tk p = 8 := c8
    have c9 : tk p = 9 := c9
    have m0 : ¬ S1.1 2 3 = 0 := m0
    refine x_emitA (w := 18) g1 (by omega) (by omega) (fun S2 g2 => ?_)
    refine x_emitA (w := 0) g2 (by simp; omega) (by omega) (fun S3 g3 => h S3 ?_)
    have hm : mn = true := by
      have := hA1.2.2.2.2.2.1
      cases mn
      · exact absurd this m0
      · rfl
    unfold cFin
    rw [if_neg c8, if_pos c9, hm]
    simpa using g3
  · have c8 : tk p = 8 := c8
    refine x_emitA (w := 18) g1 (by omega) (by omega) (fun S2 g2 => h S2 ?_)
    unfold cFin
    rw [if_pos c8]
    exact g2
end LX
end
section
/-! THE CLASS'S COMPILER DOES WHAT THE FUNCTION SAYS: IF, a statement, a block -/
section LX
variable {d : Nat} {S T : mv_S} {P : Option Value → mv_S → Prop} {n : Nat} {tk par : Nat → Int32} {mn : Bool} {p b p1 : Nat} {l : List Int32} {s : List (Bool × Nat × Nat)}
theorem x_choice {D : Nat} {rec : Bool → Nat → Nat → cRes} {blk : Nat → Nat → cRes} {k : Int32} (hN : xDoes D 42 [.ref 2, .int (k + 1)] n tk par mn (fun _ => True) (rec false)) (hr : ∀ m p b, p ≤ n → cLn n 8 p (rec m p b)) (hnt : ∀ m p b, p ≤ n → cNt p (rec m p b)) (hB : xDoes D 35 [.ref 2, .int (k + 1)] n tk par mn (fun _ => True) blk) (hbl : ∀ p b, p ≤ n → cLn n 8 p (blk p b)) (hbn : ∀ p b, p ≤ n → cNt p (blk p b)) : xDoes (D + 4) 38 [.ref 2, .int k] n tk par mn (fun p => p < n) (cIf tk rec blk) := by
  intro S P p b hp hA he ho
  have hpn := xAt_pn hA
  have hA1 := xAt_next hA hp
  have g0 := xGo_next (xAt_p hA) (xAt_b hA)
  refine ⟨160, ?_⟩
  refine mv_deep (d := D) (by omega) (hN (xNx S) _ (p + 1) b trivial hA1 (fun w q S1 e k1 k2 k3 => ?_) (fun p1 l1 s1 S1 e g1 => ?_))
  · refine ⟨fun z => absurd rfl z, fun _ => ⟨Or.inl rfl, he w q S1 ?_ (xKp_trans g0.1 k1) k2 k3⟩⟩
    unfold cIf; rw [e]
  refine ⟨fun _ => ?_, fun z => absurd (show (1 : Int32) = 0 from z) (by decide)⟩
  have hl := hr false (p + 1) b hp _ _ _ e
  have g2 : xGo S S1 p b p1 l1 s1 := xGo_t0 g0 g1 (Nat.le_succ p) hl.1
  refine x_emitA (w := 13) g2 (by omega) (by omega) (fun S2 g3 => ?_)
  refine x_holeA g3 (by simp; omega) (by omega) (fun S3 g4 => ?_)
  have eb : b + (l1 ++ [13] ++ [0]).length = b + l1.length + 2 := by simp; omega
  have hA2 : xAt S3 n tk par mn p1 (b + l1.length + 2) := by
    have := xAt_go hA g4 hl.2.1 (by rw [eb]; omega)
    rw [eb] at this; exact this
  refine mv_deep (d := D) (by omega) (hB S3 _ p1 (b + l1.length + 2) trivial hA2 (fun w q S4 e2 k1 k2 k3 => ?_) (fun p2 l2 s2 S4 e2 g5 => ?_))
  · refine ⟨fun z => absurd rfl z, fun _ => ⟨Or.inl rfl, he w q S4 ?_ (xKp_trans g4.1 k1) k2 k3⟩⟩
    unfold cIf; rw [e]; simp only; rw [e2]
  refine ⟨fun _ => ?_, fun z => absurd (show (1 : Int32) = 0 from z) (by decide)⟩
  have hl2 := hbl p1 _ hl.2.1 _ _ _ e2
  rw [← eb] at g5
  have g6 := xGo_trans g4 g5 (by omega) hl2.1
  have en : (l1 ++ [13] ++ [0] ++ l2).length = l1.length + 2 + l2.length := by simp; omega
  refine x_turnA g6 (xAt_p hA) g6.2.1 (fun z hz => ?_) (by omega) (by omega) (fun S5 g7 => ?_)
  · rcases List.mem_append.mp hz with hz | hz
    · have := hnt false (p + 1) b hp _ _ _ e true p z hz
      omega
    · have := hbn p1 _ hl.2.1 _ _ _ e2 true p z hz
      omega
  have hA3 := xAt_go hA g7 hl2.2.1 (by rw [en]; omega)
  refine x_tokN hA3 ?_
  refine ⟨fun c4 => ?_, fun c4 => ?_⟩
  · have c4 : ¬ tk p2 = 4 := c4
    have g8 : xGo S S5 p b p2 ((l1 ++ [13]) ++ 0 :: l2) (s1 ++ s2 ++ [(true, p, p2)]) := by simpa using g7
    have em : b + ((l1 ++ [13]) ++ 0 :: l2).length = b + l1.length + 2 + l2.length := by simp; omega
    refine x_fillA g8 rfl (by rw [em]; omega) (fun S6 g9 => ?_)
    rw [em] at g9
    have hA4 := xAt_go hA g9 hl2.2.1 (by simp; omega)
    refine x_passEndA hA4 (fun S7 c k1 k2 k3 => ?_) (fun c => ?_)
    · refine ⟨Or.inl rfl, he (-11) p2 S7 ?_ (xKp_trans g9.1 k1) k2 k3⟩
      unfold cIf; rw [e]; simp only; rw [e2]; simp only; rw [if_neg c4, if_neg c]
    · refine ⟨Or.inr rfl, ho (p2 + 1) _ _ _ ?_ (xGo_n g9 (by omega))⟩
      unfold cIf; rw [e]; simp only; rw [e2]; simp only; rw [if_neg c4, if_pos c]
      simp
  · have c4 : tk p2 = 4 := c4
    have hn2 : p2 < n := tk_in (xAt_tk hA) (by rw [c4]; decide)
    have g8 := xGo_n g7 (by omega)
    refine x_emitA (w := 12) g8 (by rw [en]; omega) (by omega) (fun S6 g9 => ?_)
    refine x_holeA g9 (by simp; omega) (by omega) (fun S7 g10 => ?_)
    have g11 : xGo S S7 p b (p2 + 1) ((l1 ++ [13]) ++ 0 :: (l2 ++ [12, 0])) (s1 ++ s2 ++ [(true, p, p2)]) := by simpa using g10
    have em : b + ((l1 ++ [13]) ++ 0 :: (l2 ++ [12, 0])).length = b + l1.length + 2 + l2.length + 2 := by simp; omega
    refine x_fillA g11 rfl (by rw [em]; omega) (fun S8 g12 => ?_)
    rw [em] at g12
    have eo : b + ((l1 ++ [13]) ++ nI (b + l1.length + 2 + l2.length + 2) :: (l2 ++ [12, 0])).length = b + l1.length + 2 + l2.length + 2 := by simp; omega
    have hA4 : xAt S8 n tk par mn (p2 + 1) (b + l1.length + 2 + l2.length + 2) := by
      have := xAt_go hA g12 (by omega) (by rw [eo]; omega)
      rw [eo] at this; exact this
    refine mv_deep (d := D) (by omega) (hB S8 _ (p2 + 1) _ trivial hA4 (fun w q S9 e3 k1 k2 k3 => ?_) (fun p3 l3 s3 S9 e3 g13 => ?_))
    · refine ⟨fun z => absurd rfl z, fun _ => ⟨Or.inl rfl, he w q S9 ?_ (xKp_trans g12.1 k1) k2 k3⟩⟩
      unfold cIf; rw [e]; simp only; rw [e2]; simp only; rw [if_pos c4, e3]
    refine ⟨fun _ => ?_, fun z => absurd (show (1 : Int32) = 0 from z) (by decide)⟩
    have hl3 := hbl (p2 + 1) _ hn2 _ _ _ e3
    rw [← eo] at g13
    have g14 := xGo_trans g12 g13 (by omega) hl3.1
    have g15 : xGo S S9 p b p3 ((l1 ++ 13 :: nI (b + l1.length + 2 + l2.length + 2) :: (l2 ++ [12])) ++ 0 :: l3) (s1 ++ (s2 ++ (true, p, p2) :: s3)) := by simpa using g14
    have ep : b + ((l1 ++ 13 :: nI (b + l1.length + 2 + l2.length + 2) :: (l2 ++ [12])) ++ 0 :: l3).length = b + l1.length + 2 + l2.length + 2 + l3.length := by simp; omega
    refine x_fillA g15 (by congr 1; simp) (by rw [ep]; omega) (fun S10 g16 => ?_)
    rw [ep] at g16
    have hA5 := xAt_go hA g16 hl3.2.1 (by simp; omega)
    refine x_passEndA hA5 (fun S11 c k1 k2 k3 => ?_) (fun c => ?_)
    · refine ⟨Or.inl rfl, he (-11) p3 S11 ?_ (xKp_trans g16.1 k1) k2 k3⟩
      unfold cIf; rw [e]; simp only; rw [e2]; simp only; rw [if_pos c4, e3]; simp only; rw [if_neg c]
    · refine ⟨Or.inr rfl, ho (p3 + 1) _ _ _ ?_ (xGo_n g16 (by omega))⟩
      unfold cIf; rw [e]; simp only; rw [e2]; simp only; rw [if_pos c4, e3]; simp only; rw [if_pos c]
      simp
theorem x_statement0 : xDoes 10 36 [.ref 2, .int 16] n tk par mn (fun p => cIsS (tk p)) (cStm n tk par false mn 0) := by
  intro S P p b _ hA he ho
  refine ⟨40, ?_⟩
  refine ⟨fun z => absurd (show (16 : Int32) < 16 from z) (by decide), fun _ => ?_⟩
  exact x_fail ⟨Or.inl rfl, he (-15) p _ rfl (xKp_fault S _) ((xFl_1 S _).trans (xAt_p hA)) (xFl_2 S _)⟩
theorem x_statementS {D r : Nat} {k : Int32} (ht : ∀ p, n ≤ p → tk p = -1) (hk : k < 16)
    (hI : xDoes D 38 [.ref 2, .int k] n tk par mn (fun p => p < n) (cIf tk (cEM n tk par false r) (cLoop tk (cStm n tk par false mn r) 700)))
    (hW : xDoes D 39 [.ref 2, .int k] n tk par mn (fun p => p < n) (cWhile tk (cEM n tk par false r) (cLoop tk (cStm n tk par false mn r) 700)))
    (hE : xDoes D 40 [.ref 2, .int k] n tk par mn (fun p => p < n) (cEach n tk (cLoop tk (cStm n tk par false mn r) 700)))
    (hN : xDoes D 42 [.ref 2, .int (k + 1)] n tk par mn (fun _ => True) (cEM n tk par false r false))
    (hP : xDoes D 45 [.ref 2, .int k] n tk par mn (fun p => p < n) (cPlain n tk par (cEM n tk par false r))) : xDoes (D + 4) 36 [.ref 2, .int k] n tk par mn (fun p => cIsS (tk p)) (cStm n tk par false mn (r + 1)) := by
  intro S P p b hs hA he ho
  have hp := cIsS_in ht hs
  have hpn := xAt_pn hA
  have hr : ∀ m p b, p ≤ n → cLn n 8 p (cEM n tk par false r m p b) := fun m p b _ => cLs_ln (cEM_ls (mk := false) ht r m p b)
  have hnt : ∀ m p b, p ≤ n → cNt p (cEM n tk par false r m p b) := fun m p b _ => cEM_nt ht r m p b
  have hbl : ∀ p b, p ≤ n → cLn n 8 p (cLoop tk (cStm n tk par false mn r) 700 p b) := fun p b h => cBlk_ln (mk := false) ht h 700
  have hbn : ∀ p b, p ≤ n → cNt p (cLoop tk (cStm n tk par false mn r) 700 p b) := fun p b h => (cStm_nt ht r).2 700 p b h
  refine ⟨80, ?_⟩
  refine ⟨fun _ => ?_, fun z => absurd hk z⟩
  refine x_tokN hA ?_
  refine ⟨fun c => ?_, fun c3 => ⟨fun c => ?_, fun c4 => ⟨fun c => ?_, fun c5 => ⟨fun c => ?_, fun c6 => ⟨fun c => ?_, fun c7 => ⟨fun c => ?_, fun c8 => ⟨fun c => ?_, fun c9 => ?_⟩⟩⟩⟩⟩⟩⟩
  · have c : tk p = 3 := c
    have h8 : ¬ tk p = 8 := by rw [c]; decide
    have h9 : ¬ tk p = 9 := by rw [c]; decide
    have spec : cStm n tk par false mn (r + 1) p b = cMark false (fun p1 => [(false, p, p1)]) (cIf tk (cEM n tk par false r) (cLoop tk (cStm n tk par false mn r) 700) p b) := by
      rw [cStm]
      rw [if_pos c]
      rfl
    rw [spec] at he ho
    refine mv_deep (d := D) (by omega) (hI S _ p b hp hA (fun w q S1 e k1 k2 k3 => ⟨fun _ => ⟨Or.inl rfl, he w q S1 (cMark_err e) k1 k2 k3⟩, fun z => absurd rfl z⟩) (fun p1 l s S1 e g1 => ⟨fun z => absurd (show (1 : Int32) = 0 from z) (by decide), fun _ => ?_⟩))
    have g := g1
    have hl := cIf_ls ht (by decide) hr hbl hp e
    refine x_finish hA g (fun z hz => ?_) hp hl.1 hl.2.1 (by omega) (fun S2 g2 => ⟨Or.inr rfl, ho p1 _ _ S2 ?_ g2⟩)
    · have := (cIf_ni ht hr hbl hnt hbn hp _ _ _ e false p z hz).2 rfl
      omega
    · rw [cMark_f e]; simp only [cFin, if_neg h8, if_neg h9, List.append_nil]
  · have c : tk p = 4 := c
    exact absurd c hs.2.2
  · have c : tk p = 5 := c
    have h3 : ¬ tk p = 3 := c3
    have h8 : ¬ tk p = 8 := by rw [c]; decide
    have h9 : ¬ tk p = 9 := by rw [c]; decide
    have spec : cStm n tk par false mn (r + 1) p b = cMark false (fun p1 => [(false, p, p1)]) (cWhile tk (cEM n tk par false r) (cLoop tk (cStm n tk par false mn r) 700) p b) := by
      rw [cStm]
      rw [if_neg h3, if_pos c]
      rfl
    rw [spec] at he ho
    refine mv_deep (d := D) (by omega) (hW S _ p b hp hA (fun w q S1 e k1 k2 k3 => ⟨fun _ => ⟨Or.inl rfl, he w q S1 (cMark_err e) k1 k2 k3⟩, fun z => absurd rfl z⟩) (fun p1 l s S1 e g1 => ⟨fun z => absurd (show (1 : Int32) = 0 from z) (by decide), fun _ => ?_⟩))
    have g := g1
    have hl := cWhile_ls ht (by decide) hr hbl hp e
    refine x_finish hA g (fun z hz => ?_) hp hl.1 hl.2.1 (by omega) (fun S2 g2 => ⟨Or.inr rfl, ho p1 _ _ S2 ?_ g2⟩)
    · have := (cWhile_ni hr hnt hbn hp _ _ _ e false p z hz).2 rfl
      omega
    · rw [cMark_f e]; simp only [cFin, if_neg h8, if_neg h9, List.append_nil]
  · have c : tk p = 6 := c
    have h3 : ¬ tk p = 3 := c3
    have h5 : ¬ tk p = 5 := c5
    have h8 : ¬ tk p = 8 := by rw [c]; decide
    have h9 : ¬ tk p = 9 := by rw [c]; decide
    have spec : cStm n tk par false mn (r + 1) p b = cMark false (fun p1 => [(false, p, p1)]) (cEach n tk (cLoop tk (cStm n tk par false mn r) 700) p b) := by
      rw [cStm]
      rw [if_neg h3, if_neg h5, if_pos c]
      rfl
    rw [spec] at he ho
    refine mv_deep (d := D) (by omega) (hE S _ p b hp hA (fun w q S1 e k1 k2 k3 => ⟨fun _ => ⟨Or.inl rfl, he w q S1 (cMark_err e) k1 k2 k3⟩, fun z => absurd rfl z⟩) (fun p1 l s S1 e g1 => ⟨fun z => absurd (show (1 : Int32) = 0 from z) (by decide), fun _ => ?_⟩))
    have g := g1
    have hl := cEach_ls ht (by decide) hbl e
    refine x_finish hA g (fun z hz => ?_) hp hl.1 hl.2.1 (by omega) (fun S2 g2 => ⟨Or.inr rfl, ho p1 _ _ S2 ?_ g2⟩)
    · have := (cEach_ni hbn _ _ _ e false p z hz).2 rfl
      omega
    · rw [cMark_f e]; simp only [cFin, if_neg h8, if_neg h9, List.append_nil]
  · have c : tk p = 7 := c
    have h3 : ¬ tk p = 3 := by rw [c]; decide
    have h5 : ¬ tk p = 5 := by rw [c]; decide
    have h6 : ¬ tk p = 6 := by rw [c]; decide
    have h8 : ¬ tk p = 8 := by rw [c]; decide
    have h9 : ¬ tk p = 9 := by rw [c]; decide
    have spec : cStm n tk par false mn (r + 1) p b = cMark false (fun p1 => [(false, p, p1)]) (cPlain n tk par (cEM n tk par false r) p b) := by
      rw [cStm]
      rw [if_neg h3, if_neg h5, if_neg h6, if_neg h9, if_neg h8]
      rfl
    rw [spec] at he ho
    refine mv_deep (d := D) (by omega) (hP S _ p b hp hA (fun w q S1 e k1 k2 k3 => ⟨fun _ => ⟨Or.inl rfl, he w q S1 (cMark_err e) k1 k2 k3⟩, fun z => absurd rfl z⟩) (fun p1 l s S1 e g1 => ⟨fun z => absurd (show (1 : Int32) = 0 from z) (by decide), fun _ => ?_⟩))
    have g := g1
    have hl := cPlain_ls ht (by decide) hr hp e
    refine x_finish hA g (fun z hz => ?_) hp hl.1 hl.2.1 (by omega) (fun S2 g2 => ⟨Or.inr rfl, ho p1 _ _ S2 ?_ g2⟩)
    · have := (cPlain_ni ht hr hnt hp _ _ _ e false p z hz).2 rfl
      omega
    · rw [cMark_f e]; simp only [cFin, if_neg h8, if_neg h9, List.append_nil]
  · have c : tk p = 8 := c
    have h3 : ¬ tk p = 3 := c3
    have h5 : ¬ tk p = 5 := c5
    have h6 : ¬ tk p = 6 := c6
    have h9 : ¬ tk p = 9 := by rw [c]; decide
    have spec : cStm n tk par false mn (r + 1) p b = cMark false (fun p1 => [(false, p, p1)]) (cCallS (cPlain n tk par (cEM n tk par false r) p b)) := by
      rw [cStm]
      rw [if_neg h3, if_neg h5, if_neg h6, if_neg h9, if_pos c]
      rfl
    rw [spec] at he ho
    refine mv_deep (d := D) (by omega) (hP S _ p b hp hA (fun w q S1 e k1 k2 k3 => ⟨fun _ => ⟨Or.inl rfl, he w q S1 (cMark_err (show cCallS _ = _ by rw [e]; rfl)) k1 k2 k3⟩, fun z => absurd rfl z⟩) (fun p1 l s S1 e g1 => ⟨fun z => absurd (show (1 : Int32) = 0 from z) (by decide), fun _ => ?_⟩))
    have g := g1
    have hl := cPlain_ls ht (by decide) hr hp e
    refine x_finish hA g (fun z hz => ?_) hp hl.1 hl.2.1 (by omega) (fun S2 g2 => ⟨Or.inr rfl, ho p1 _ _ S2 ?_ g2⟩)
    · have := (cPlain_ni ht hr hnt hp _ _ _ e false p z hz).2 rfl
      omega
    · rw [e]
      simp only [cCallS, cFin, if_pos c]
      rfl
  · have c : tk p = 9 := c
    have h3 : ¬ tk p = 3 := c3
    have h5 : ¬ tk p = 5 := c5
    have h6 : ¬ tk p = 6 := c6
    have h8 : ¬ tk p = 8 := c8
    have g0 := xGo_next (xAt_p hA) (xAt_b hA)
    have spec : cStm n tk par false mn (r + 1) p b = cMark false (fun p1 => [(false, p, p1)]) (cAnswer mn (cEM n tk par false r) p b) := by
      rw [cStm]
      rw [if_neg h3, if_neg h5, if_neg h6, if_pos c]
      rfl
    rw [spec] at he ho
    refine mv_deep (d := D) (by omega) (hN (xNx S) _ (p + 1) b trivial (xAt_next hA hp) (fun w q S1 e k1 k2 k3 => ⟨fun _ => ⟨Or.inl rfl, he w q S1 (cMark_err (show cAnswer mn _ p b = _ by unfold cAnswer; rw [e])) (xKp_trans g0.1 k1) k2 k3⟩, fun z => absurd rfl z⟩) (fun p1 l s S1 e g1 => ⟨fun z => absurd (show (1 : Int32) = 0 from z) (by decide), fun _ => ?_⟩))
    have hl0 := hr false (p + 1) b hp _ _ _ e
    have g := xGo_t0 g0 g1 (Nat.le_succ p) hl0.1
    have hl : p < p1 ∧ p1 ≤ n := by omega
    refine x_finish hA g (fun z hz => ?_) hp hl.1 hl.2 (by omega) (fun S2 g2 => ⟨Or.inr rfl, ho p1 _ _ S2 ?_ g2⟩)
    · have := hnt false (p + 1) b hp _ _ _ e false p z hz
      omega
    · unfold cAnswer
      rw [e]
      simp only [cFin, if_neg h8, if_pos c]
      rfl
  · have h3 : ¬ tk p = 3 := c3
    have h5 : ¬ tk p = 5 := c5
    have h6 : ¬ tk p = 6 := c6
    have h8 : ¬ tk p = 8 := c8
    have h9 : ¬ tk p = 9 := c9
    have spec : cStm n tk par false mn (r + 1) p b = cMark false (fun p1 => [(false, p, p1)]) (cPlain n tk par (cEM n tk par false r) p b) := by
      rw [cStm]
      rw [if_neg h3, if_neg h5, if_neg h6, if_neg h9, if_neg h8]
      rfl
    rw [spec] at he ho
    refine mv_deep (d := D) (by omega) (hP S _ p b hp hA (fun w q S1 e k1 k2 k3 => ⟨fun _ => ⟨Or.inl rfl, he w q S1 (cMark_err e) k1 k2 k3⟩, fun z => absurd rfl z⟩) (fun p1 l s S1 e g1 => ⟨fun z => absurd (show (1 : Int32) = 0 from z) (by decide), fun _ => ?_⟩))
    have g := g1
    have hl := cPlain_ls ht (by decide) hr hp e
    refine x_finish hA g (fun z hz => ?_) hp hl.1 hl.2.1 (by omega) (fun S2 g2 => ⟨Or.inr rfl, ho p1 _ _ S2 ?_ g2⟩)
    · have := (cPlain_ni ht hr hnt hp _ _ _ e false p z hz).2 rfl
      omega
    · rw [cMark_f e]; simp only [cFin, if_neg h8, if_neg h9, List.append_nil]
theorem x_block {D r : Nat} {k : Int32} (ht : ∀ p, n ≤ p → tk p = -1) (hS : xDoes D 36 [.ref 2, .int k] n tk par mn (fun p => cIsS (tk p)) (cStm n tk par false mn r)) : xDoes (D + 2) 35 [.ref 2, .int k] n tk par mn (fun _ => True) (cLoop tk (cStm n tk par false mn r) 700) := by
  intro S P p b _ hA he ho
  have hpn := xAt_pn hA
  obtain ⟨R, hR⟩ : ∃ R, R = cLoop tk (cStm n tk par false mn r) 700 p b := ⟨_, rfl⟩
  rw [← hR] at he ho
  have kk := mv_loop (T := tT1) (nL := 3) (z := some .boolean) (il := mX1_block.2.2.2.2.2.2.2) (lay := layX) (sys := sysX) (d := D + 1) (P := P) (pc := 2) 60 (fun k' lv st S' => ∃ i p1 l1 s1, i + k' = 700 ∧ lv = [(2, .int (nI i)), (0, .ref 2), (1, .int k)] ∧ st = [] ∧ xGo S S' p b p1 l1 s1 ∧ p ≤ p1 ∧ p1 ≤ n ∧ b + l1.length ≤ 8 * p1 ∧ R = cPre l1 s1 (cLoop tk (cStm n tk par false mn r) k' p1 (b + l1.length))) (by
      rintro f lv st S' ⟨i, p1, l1, s1, hk, rfl, rfl, g, h1, h2, h3, h4⟩
      obtain rfl : i = 700 := hk
      refine ⟨fun _ => ⟨Or.inr rfl, ho p1 l1 s1 S' ?_ g⟩, fun z => absurd (show nI 700 ≤ nI 700 by decide) z⟩
      rw [h4, cLoop, cPre, List.append_nil, List.append_nil]) (by
      rintro k' f lv st S' ⟨i, p1, l1, s1, hk, rfl, rfl, g, h1, h2, h3, h4⟩ ih
      refine ⟨fun z => absurd ((nI_leI (by omega) (by omega)).mp (show nI 700 ≤ nI i from z)) (by omega), fun _ => ?_⟩
      have hA1 := xAt_go hA g h2 h3
      refine x_tokN hA1 ?_
      refine x_isStatement (fun c => ?_) (fun c => ?_)
      · refine ⟨fun _ => ⟨Or.inr rfl, ho p1 l1 s1 S' ?_ g⟩, fun z => absurd rfl z⟩
        rw [h4, cLoop, if_neg (show ¬ cIsS (tk p1) from c), cPre, List.append_nil, List.append_nil]
      · have c : cIsS (tk p1) := c
        refine ⟨fun z => absurd (show (1 : Int32) = 0 from z) (by decide), fun _ => ?_⟩
        refine mv_deep (d := D) (by omega) (hS S' _ p1 (b + l1.length) c hA1 (fun w q' S2 e k1 k2 k3 => ?_) (fun p2 l2 s2 S2 e g2 => ?_))
        · refine ⟨fun z => absurd rfl z, fun _ => ⟨Or.inl rfl, he w q' S2 ?_ (xKp_trans g.1 k1) k2 k3⟩⟩
          rw [h4, cLoop, if_pos c]
          exact cPre_err (cThen_err e)
        · refine ⟨fun _ => ?_, fun z => absurd (show (1 : Int32) = 0 from z) (by decide)⟩
          have hl := cStm_ls (mk := false) ht r p1 _ (cIsS_in ht c) _ _ _ e
          have hl3 : l2.length + 8 * p1 ≤ 8 * p2 := hl.2.2
          refine ws_iinc (y := nI (i + 1)) rfl rfl rfl (nI_succ i).symm rfl rfl (ws_goto (t := 2) rfl (by decide) (ih _ [(2, .int (nI (i + 1))), (0, .ref 2), (1, .int k)] [] S2 (by omega) ⟨i + 1, p2, l1 ++ l2, s1 ++ s2, by omega, rfl, rfl, xGo_trans g g2 h1 (by omega), by omega, hl.2.1, by rw [List.length_append]; omega, ?_⟩))
          rw [h4, cLoop, if_pos c, cThen_pre e, cPre_pre, List.length_append, Nat.add_assoc])
  refine ⟨60 * 701 + 2, ?_⟩
  refine ws_iconst (x := nI 0) rfl rfl rfl (ws_istore_n rfl rfl rfl rfl (kk 700 _ [(2, .int (nI 0)), (0, .ref 2), (1, .int k)] [] S (by omega) ⟨0, p, [], [], by omega, rfl, rfl, xGo_refl (xAt_p hA) (xAt_b hA), Nat.le_refl _, hpn.1, hpn.2.2, ?_⟩))
  rw [hR, cPre_nil]; rfl
theorem x_blk (ht : ∀ p, n ≤ p → tk p = -1) : ∀ r, r ≤ 16 → xDoes (20 * r + 40) 35 [.ref 2, .int (nI (16 - r))] n tk par mn (fun _ => True) (cLoop tk (cStm n tk par false mn r) 700) := by
  intro r
  induction r with
  | zero => exact fun _ => xDoes_deep (by decide) (x_block ht x_statement0)
  | succ r ih =>
    intro hr16
    have iB := ih (by omega)
    have iE := x_EM (mn := mn) (par := par) ht r (by omega)
    have iN := iE.2
    have iM := iE.1
    have ek : nI (16 - (r + 1)) + 1 = nI (16 - r) := by rw [nI_1]; congr 1; omega
    rw [← ek] at iB iN iM
    have hr : ∀ m p b, p ≤ n → cLn n 8 p (cEM n tk par false r m p b) := fun m p b _ => cLs_ln (cEM_ls (mk := false) ht r m p b)
    have hnt : ∀ m p b, p ≤ n → cNt p (cEM n tk par false r m p b) := fun m p b _ => cEM_nt ht r m p b
    have hbl : ∀ p b, p ≤ n → cLn n 8 p (cLoop tk (cStm n tk par false mn r) 700 p b) := fun p b h => cBlk_ln (mk := false) ht h 700
    have hbn : ∀ p b, p ≤ n → cNt p (cLoop tk (cStm n tk par false mn r) 700 p b) := fun p b h => (cStm_nt ht r).2 700 p b h
    have hk : nI (16 - (r + 1)) < 16 := nI_lt (b := 16) (by omega) (by decide)
    have iN2 : xDoes (20 * r + 40) 42 [.ref 2, .int (nI (16 - (r + 1)) + 1)] n tk par mn (fun _ => True) (cEM n tk par false r false) := xDoes_deep (by omega) iN
    have iM2 : xDoes (20 * r + 40) 43 [.ref 2, .int (nI (16 - (r + 1)) + 1)] n tk par mn (fun _ => True) (cEM n tk par false r true) := xDoes_deep (by omega) iM
    have hP := x_plain iM2 iN2 hr
    have hI := x_choice iN2 hr hnt iB hbl hbn
    have hW := x_repetition iN2 hr iB hbl
    have hE := x_eachKey iB hbl
    exact xDoes_deep (by omega) (x_block ht (x_statementS (D := 20 * r + 45) ht hk (xDoes_deep (by omega) hI) (xDoes_deep (by omega) hW) (xDoes_deep (by omega) hE) (xDoes_deep (by omega) iN2) hP))
end LX
end
section
/-! THE CLASS'S COMPILER DOES WHAT THE FUNCTION SAYS: functions, the main part, the whole -/
def xKf (S S' : mv_S) : Prop := (∀ o f, (o = 2 → f ≠ 1 ∧ f ≠ 2) → (o = 1 → f ≠ 10) → S'.1 o f = S.1 o f) ∧ (∀ o i, ¬ (9 ≤ o ∧ o ≤ 14) → S'.2.1 o i = S.2.1 o i) ∧ S'.2.2 = S.2.2
abbrev cFs : Type := List (Nat × Nat × Nat)
/-- from S with nothing laid to S' at p1 with words l, notes s, parameters par, functions fs -/
def xGf (S S' : mv_S) (p1 : Nat) (l : List Int32) (s : List (Bool × Nat × Nat)) (par : Nat → Int32) (fs : cFs) : Prop :=
  xKf S S' ∧ S'.1 2 1 = nI p1 ∧ S'.1 1 10 = nI l.length ∧ (∀ i x, l[i]? = some x → i < 1500 → S'.2.1 11 i = x) ∧ (∀ g q e, (g, q, e) ∈ s → q < p1 ∧ S'.2.1 (if g then 10 else 9) q = nI e) ∧ (∀ i, i < 8 → S'.2.1 12 i = par i) ∧ (∀ f w t, (f, w, t) ∈ fs → f < 8 ∧ par f ≠ -1 ∧ S'.2.1 13 f = nI w ∧ S'.2.1 14 f = nI t)
theorem xKp_kf {S T : mv_S} (h : xKp S T) : xKf S T := ⟨h.1, fun o i a => h.2.1 o i (by omega) (by omega) (by omega), h.2.2⟩
theorem xKf_trans {S T U : mv_S} (h : xKf S T) (g : xKf T U) : xKf S U := ⟨fun o f a b => (g.1 o f a b).trans (h.1 o f a b), fun o i a => (g.2.1 o i a).trans (h.2.1 o i a), g.2.2.trans h.2.2⟩
theorem xGf_go {S T U : mv_S} {p1 p2 : Nat} {l1 l2 : List Int32} {s1 s2} {par : Nat → Int32} {fs : cFs} (h : xGf S T p1 l1 s1 par fs) (g : xGo T U p1 l1.length p2 l2 s2) (hp : p1 ≤ p2) : xGf S U p2 (l1 ++ l2) (s1 ++ s2) par fs := by
  obtain ⟨h1, h2, h3, h4, h5, h6, h7⟩ := h
  obtain ⟨g1, g2, g3, g4, g5, g6, g7⟩ := g
  refine ⟨xKf_trans h1 (xKp_kf g1), g2, by rw [g3, List.length_append], fun i x hx h15 => ?_, fun a q e he => ?_, fun i hi => ?_, fun f w t hm => ?_⟩
  · by_cases hi : i < l1.length
    · rw [List.getElem?_append_left hi] at hx
      rw [g4 i hi]
      exact h4 i x hx h15
    · rw [List.getElem?_append_right (by omega)] at hx
      have := g5 (i - l1.length) x hx (by omega)
      rw [show l1.length + (i - l1.length) = i by omega] at this
      exact this
  · rcases List.mem_append.mp he with he1 | he1
    · have := h5 a q e he1
      exact ⟨by omega, by rw [g6 a q this.1]; exact this.2⟩
    · have := g7 a q e he1
      exact ⟨this.2.1, this.2.2⟩
  · rw [g1.2.1 12 i (by decide) (by decide) (by decide)]; exact h6 i hi
  · have := h7 f w t hm
    rw [g1.2.1 13 f (by decide) (by decide) (by decide), g1.2.1 14 f (by decide) (by decide) (by decide)]
    exact this
theorem xAt_gf {S T : mv_S} {n : Nat} {tk par par1 : Nat → Int32} {mn : Bool} {p b p1 : Nat} {l s} {fs : cFs} (h : xAt S n tk par mn p b) (g : xGf S T p1 l s par1 fs) (hp : p1 ≤ n) (hb : l.length ≤ 8 * p1) : xAt T n tk par1 mn p1 l.length := by
  obtain ⟨h1, h2, h3, h4, h5, h6, h7, h8, h9, h10⟩ := h
  obtain ⟨g1, g2, g3, _, _, g6, _⟩ := g
  refine ⟨?_, h2, fun i hi => ?_, h4, g6, ?_, g2, hp, g3, hb⟩
  · rw [g1.1 1 9 (by decide) (by decide)]; exact h1
  · rw [g1.2.1 8 i (by decide)]; exact h3 i hi
  · rw [g1.1 2 3 (by decide) (by decide)]; exact h6
theorem xGf_add {S T : mv_S} {n : Nat} {p1 p0 f : Nat} {x : Int32} {l s} {par : Nat → Int32} {fs : cFs} (h : xGf S T p1 l s par fs) (hf : f < 8) (hx : x ≠ -1) (hpf : par f = -1) (hl : l.length < 2 ^ 30) : xGf S (sR (sR (sR T 12 8 (nI f) x) 13 8 (nI f) ((sR T 12 8 (nI f) x).1 1 10)) 14 8 (nI f) (nI p0)) p1 l s (upd par f x) (fs ++ [(f, l.length, p0)]) := by
  obtain ⟨h1, h2, h3, h4, h5, h6, h7⟩ := h
  have e : (sR T 12 8 (nI f) x).1 1 10 = nI l.length := by rw [sR_1]; exact h3
  rw [e, sR_nI hf (by decide), sR_nI hf (by decide), sR_nI hf (by decide)]
  have hw : ∀ o i, (mv_pr (mv_pr (mv_pr T 12 f x) 13 f (nI l.length)) 14 f (nI p0)).2.1 o i = if o = 14 ∧ i = f then nI p0 else if o = 13 ∧ i = f then nI l.length else if o = 12 ∧ i = f then x else T.2.1 o i := by
    intro o i
    rw [pr_get, pr_get, pr_get]
  refine ⟨⟨h1.1, fun o i a => ?_, h1.2.2⟩, h2, h3, fun i y hy h15 => ?_, fun g q z hz => ?_, fun i hi => ?_, fun f' w t hm => ?_⟩
  · rw [hw, if_neg (by omega), if_neg (by omega), if_neg (by omega)]
    exact h1.2.1 o i a
  · rw [hw, if_neg (by omega), if_neg (by omega), if_neg (by omega)]
    exact h4 i y hy h15
  · have := h5 g q z hz
    refine ⟨this.1, ?_⟩
    rw [hw]
    cases g
    · rw [if_neg (by simp), if_neg (by simp), if_neg (by simp)]; exact this.2
    · rw [if_neg (by simp), if_neg (by simp), if_neg (by simp)]; exact this.2
  · rw [hw, if_neg (by omega), if_neg (by omega)]
    unfold upd
    by_cases c : i = f
    · subst c; simp
    · rw [if_neg (by omega)]
      simp only [c, if_false]
      exact h6 i hi
  · rcases List.mem_append.mp hm with hm1 | hm1
    · have := h7 f' w t hm1
      have hne : f' ≠ f := fun c => this.2.1 (by rw [c]; exact hpf)
      refine ⟨this.1, ?_, ?_, ?_⟩
      · unfold upd; simp only [hne, if_false]; exact this.2.1
      · rw [hw, if_neg (by omega), if_neg (by omega), if_neg (by omega)]; exact this.2.2.1
      · rw [hw, if_neg (by omega), if_neg (by omega), if_neg (by omega)]; exact this.2.2.2
    · simp only [List.mem_singleton, Prod.mk.injEq] at hm1
      obtain ⟨rfl, rfl, rfl⟩ := hm1
      refine ⟨hf, ?_, ?_, ?_⟩
      · unfold upd; simp only [if_true]; exact hx
      · rw [hw, if_neg (by omega), if_pos ⟨rfl, rfl⟩]
      · rw [hw, if_pos ⟨rfl, rfl⟩]
abbrev cRf : Type := Except (Int32 × Nat) (Nat × List Int32 × List (Bool × Nat × Nat) × (Nat → Int32) × List (Nat × Nat × Nat))
def cPreF (l1 : List Int32) (s1 : List (Bool × Nat × Nat)) (f1 : cFs) (a : cRf) : cRf :=
  match a with
  | .error e => .error e
  | .ok (p2, l2, s2, par, f2) => .ok (p2, l1 ++ l2, s1 ++ s2, par, f1 ++ f2)
section LX
variable {d : Nat} {S T : mv_S} {P : Option Value → mv_S → Prop} {n : Nat} {tk par : Nat → Int32} {mn : Bool} {p b p1 : Nat} {l : List Int32} {s : List (Bool × Nat × Nat)}
theorem x_newFunctionA (hA : xAt S n tk par mn p b) (he : ∀ w q S', ((cHasF par (tk p) ∧ w = -13 ∧ q = p) ∨ (¬ cHasF par (tk p) ∧ cBare n tk 8 p = .error (w, q))) → xKp S S' → S'.1 2 1 = nI q → S'.1 2 2 = w → P (some (.int 0)) S') (ho : ¬ cHasF par (tk p) → cBare n tk 8 p = .ok (p + 1) → P (some (.int 1)) (xNx S)) : mv_big layX sysX (d + 3) 33 [.ref 2] S P := by
  have ht : xTok S (S.1 2 1) = tk p := by rw [xAt_p hA]; exact xAt_tok hA (by have := xAt_pn hA; omega)
  have hh := xAt_has hA
  have hf : xHasF S (tk p) ↔ cHasF par (tk p) := xAt_hasF hA
  have f1 : ∀ w, (xFl S w).1 2 1 = nI p := fun w => (xFl_1 S w).trans (xAt_p hA)
  refine x_newFunction (fun c => ?_) (fun c c1 => ?_) (fun c c1 c2 => ?_) (fun c c1 c2 => ?_)
  all_goals rw [ht] at c
  · exact he (-13) p _ (Or.inl ⟨hf.mp c, rfl, rfl⟩) (xKp_fault S _) (f1 _) (xFl_2 S _)
  · refine he (-11) p _ (Or.inr ⟨fun z => c (hf.mpr z), ?_⟩) (xKp_fault S _) (f1 _) (xFl_2 S _)
    unfold cBare
    rw [if_neg (fun z => c1 (hh.mpr z))]
  · rw [ht] at c2
    refine he (-12) p _ (Or.inr ⟨fun z => c (hf.mpr z), ?_⟩) (xKp_fault S _) (f1 _) (xFl_2 S _)
    unfold cBare
    rw [if_pos (hh.mp c1), if_neg c2]
  · rw [ht] at c2
    refine ho (fun z => c (hf.mpr z)) ?_
    unfold cBare
    rw [if_pos (hh.mp c1), if_pos c2]
theorem x_functions (ht : ∀ p, n ≤ p → tk p = -1) (hA : xAt S n tk (fun _ => -1) false 0 0)
    (he : ∀ w q S', cFuns n tk false 9 (fun _ => -1) 0 0 = .error (w, q) → xKf S S' → S'.1 2 1 = nI q → S'.1 2 2 = w → P (some (.int 0)) S')
    (ho : ∀ p' l s par fs S', cFuns n tk false 9 (fun _ => -1) 0 0 = .ok (p', l, s, par, fs) → xGf S S' p' l s par fs → p' ≤ n → l.length ≤ 8 * p' → P (some (.int 1)) S') : mv_big layX sysX 400 28 [.ref 2] S P := by
  have hpn := xAt_pn hA
  obtain ⟨R, hR⟩ : ∃ R, R = cFuns n tk false 9 (fun _ => -1) 0 0 := ⟨_, rfl⟩
  rw [← hR] at he ho
  have kk := mv_loop (T := tT1) (nL := 3) (z := some .boolean) (il := mX1_functions.2.2.2.2.2.2.2) (lay := layX) (sys := sysX) (d := 399) (P := P) (pc := 2) 120 (fun k' lv st S' => ∃ i p1 l1 s1 par1 fs1, i + k' = 9 ∧ (lv = [(1, .int (nI i)), (0, .ref 2)] ∨ ∃ z, lv = [(1, .int (nI i)), (2, .int z), (0, .ref 2)]) ∧ st = [] ∧ xGf S S' p1 l1 s1 par1 fs1 ∧ p1 ≤ n ∧ l1.length ≤ 8 * p1 ∧ R = cPreF l1 s1 fs1 (cFuns n tk false k' par1 p1 l1.length)) (by
      rintro f lv st S' ⟨i, p1, l1, s1, par1, fs1, hk, hlv, rfl, g, h2, h3, h4⟩
      obtain rfl : i = 9 := hk
      have hh : P (some (.int 1)) S' := by
        refine ho p1 l1 s1 par1 fs1 S' ?_ g h2 h3
        rw [h4, cFuns, cPreF, List.append_nil, List.append_nil, List.append_nil]
      rcases hlv with rfl | ⟨z, rfl⟩
      · exact ⟨fun _ => ⟨Or.inr rfl, hh⟩, fun z => absurd (show (8 : Int32) < nI 9 by decide) z⟩
      · exact ⟨fun _ => ⟨Or.inr rfl, hh⟩, fun z => absurd (show (8 : Int32) < nI 9 by decide) z⟩) (by
      rintro k' f lv st S' ⟨i, p1, l1, s1, par1, fs1, hk, hlv, rfl, g, h2, h3, h4⟩ ih
      have hA1 := xAt_gf hA g h2 h3
      have hA1n := xAt_pn hA1
      have stop : ¬ tk p1 = 10 → P (some (.int 1)) S' := by
        intro c
        refine ho p1 l1 s1 par1 fs1 S' ?_ g h2 h3
        rw [h4, cFuns, if_neg c, cPreF, List.append_nil, List.append_nil, List.append_nil]
      have lt : ¬ (8 : Int32) < nI i := fun z => absurd ((nI_ltI (a := 8) (by decide) (by omega)).mp z) (by omega)
      -- one function
      have one : ∀ (c : tk p1 = 10) (lvx : List (Nat × Value)), lvx = [(2, .int (S'.1 2 1)), (1, .int (nI i)), (0, .ref 2)] → mv_wp layX sysX tT1 3 (some .boolean) mX1_functions.2.2.2.2.2.2.2 (mv_big layX sysX 399) P (f + 97) 29 lvx [] S' := by
        rintro c _ rfl
        have hp : p1 < n := tk_in ht (by rw [c]; decide)
        have hA2 := xAt_next hA1 hp
        have g0 := xGo_next (xAt_p hA1) (xAt_b hA1)
        refine x_newFunctionA hA2 (fun w q S2 e k1 k2 k3 => ?_) (fun e0 e1 => ?_)
        · refine ⟨fun _ => ⟨Or.inl rfl, he w q S2 ?_ (xKf_trans g.1 (xKp_kf (xKp_trans g0.1 k1))) k2 k3⟩, fun z => absurd rfl z⟩
          rw [h4, cFuns, if_pos c]
          rcases e with ⟨e, rfl, rfl⟩ | ⟨e, e2⟩
          · rw [if_pos e]; rfl
          · rw [if_neg e, e2]; rfl
        refine ⟨fun z => absurd (show (1 : Int32) = 0 from z) (by decide), fun _ => ?_⟩
        have b1 := cBare_ok e1
        have hA3 := xAt_next hA2 b1.2.1
        have g1 := xGo_n g0 (by omega)
        refine x_bareA (lim := 4) hA3 (fun w q S2 e k1 k2 k3 => ?_) (fun e2 => ?_)
        · refine ⟨fun z => absurd rfl z, fun _ => ⟨Or.inl rfl, he w q S2 ?_ (xKf_trans g.1 (xKp_kf (xKp_trans g1.1 k1))) k2 k3⟩⟩
          rw [h4, cFuns, if_pos c, if_neg e0, e1]; simp only; rw [e]; rfl
        refine ⟨fun _ => ?_, fun z => absurd (show (1 : Int32) = 0 from z) (by decide)⟩
        have b2 := cBare_ok e2
        have g2 := xGo_n g1 (by omega)
        have hA4 := xAt_next hA3 b2.2.1
        obtain ⟨fn, hfn, hfe⟩ := nI_of (Int32.not_lt.mpr b1.2.2.1)
        have hf8 : fn < 8 := by
          have := b1.2.2.2
          rw [hfe] at this
          exact (nI_ltI (b := 8) hfn (by decide)).mp this
        have hfc : (tk (p1 + 1)).toNatClampNeg = fn := by rw [hfe, nI_clamp hfn]
        have hx : tk (p1 + 2) ≠ -1 := by
          intro z
          have := b2.2.2.1
          rw [z] at this
          exact absurd this (by decide)
        have hpf : par1 fn = -1 := by
          by_cases z : par1 fn = -1
          · exact z
          · exact absurd ⟨b1.2.2.1, b1.2.2.2, by rw [hfc]; exact z⟩ e0
        refine x_tokA hA4 (q := p1 + 1) (show S'.1 2 1 + 1 = _ by rw [xAt_p hA1, nI_1]) (by omega) ?_
        refine x_tokA hA4 (q := p1 + 2) (show S'.1 2 1 + 2 = _ by rw [xAt_p hA1, show (2 : Int32) = nI 2 from rfl, nI_add]) (by omega) ?_
        refine x_addFunction ?_
        have g3 := xGf_go g g2 (by omega)
        rw [List.append_nil, List.append_nil] at g3
        have g4 := xGf_add (n := n) (p0 := p1) g3 hf8 hx hpf (by omega)
        rw [← hfe, ← xAt_p hA1] at g4
        have hA5 := xAt_gf hA g4 b2.2.1 (by omega)
        have hB := x_blk (mn := false) (par := upd par1 fn (tk (p1 + 2))) ht 16 (Nat.le_refl _)
        have hbl : ∀ p b, p ≤ n → cLn n 8 p (cLoop tk (cStm n tk (upd par1 fn (tk (p1 + 2))) false false 16) 700 p b) := fun p b h => cBlk_ln (mk := false) ht h 700
        refine mv_deep (d := 360) (by decide) (hB _ _ (p1 + 3) l1.length trivial hA5 (fun w q S3 e k1 k2 k3 => ?_) (fun p2 l2 s2 S3 e g5 => ?_))
        · refine ⟨fun _ => ⟨Or.inl rfl, he w q S3 ?_ (xKf_trans g4.1 (xKp_kf k1)) k2 k3⟩, fun z => absurd rfl z⟩
          rw [h4, cFuns, if_pos c, if_neg e0, e1]; simp only; rw [e2]; simp only; rw [hfc, cBlk, e]; rfl
        refine ⟨fun z => absurd (show (1 : Int32) = 0 from z) (by decide), fun _ => ?_⟩
        have hl := hbl _ _ b2.2.1 _ _ _ e
        have g6 := xGf_go g4 g5 hl.1
        have hA6 := xAt_gf hA g6 hl.2.1 (by rw [List.length_append]; omega)
        refine x_passEndA hA6 (fun S4 z0 k1 k2 k3 => ?_) (fun z0 => ?_)
        · refine ⟨fun z => absurd rfl z, fun _ => ⟨Or.inl rfl, he (-11) p2 S4 ?_ (xKf_trans g6.1 (xKp_kf k1)) k2 k3⟩⟩
          rw [h4, cFuns, if_pos c, if_neg e0, e1]; simp only; rw [e2]; simp only; rw [hfc, cBlk, e]; simp only; rw [if_neg z0]; rfl
        refine ⟨fun _ => ?_, fun z => absurd (show (1 : Int32) = 0 from z) (by decide)⟩
        have hn2 : p2 < n := tk_in ht (by rw [z0]; decide)
        have k0 := xGo_next (xAt_p hA6) (xAt_b hA6)
        have el : (l1 ++ l2).length = l1.length + l2.length := List.length_append
        refine x_emitA (w := 1) k0 (by simp; omega) (by omega) (fun S5 k1 => ?_)
        refine x_emitA (w := 0) k1 (by simp; omega) (by omega) (fun S6 k2 => ?_)
        refine x_emitA (w := 17) k2 (by simp; omega) (by omega) (fun S7 k3 => ?_)
        have g7 := xGf_go g6 k3 (by omega)
        rw [List.append_nil] at g7
        have g8 : xGf S S7 (p2 + 1) (l1 ++ (l2 ++ [1, 0, 17])) (s1 ++ s2) (upd par1 fn (tk (p1 + 2))) (fs1 ++ [(fn, l1.length, p1)]) := by simpa using g7
        refine ws_iinc (y := nI (i + 1)) rfl rfl rfl (nI_succ i).symm rfl rfl (ws_goto (t := 2) rfl (by decide) (ih _ [(1, .int (nI (i + 1))), (2, .int (S'.1 2 1)), (0, .ref 2)] [] S7 (by omega) ⟨i + 1, p2 + 1, _, _, _, _, by omega, Or.inr ⟨_, rfl⟩, rfl, g8, hn2, by simp; omega, ?_⟩))
        rw [h4, cFuns, if_pos c, if_neg e0, e1]; simp only; rw [e2]; simp only; rw [hfc, cBlk, e]; simp only; rw [if_pos z0]
        have eo : (l1 ++ (l2 ++ [1, 0, 17])).length = l1.length + l2.length + 3 := by simp; omega
        rw [eo]
        match cFuns n tk false k' (upd par1 fn (tk (p1 + 2))) (p2 + 1) (l1.length + l2.length + 3) with
        | .error e => rfl
        | .ok (p5, l5, s5, par5, f5) => simp [cPreF]
      refine mv_fuel (n := f + 110) (by omega) ?_
      rcases hlv with rfl | ⟨z, rfl⟩
      · refine ⟨fun z => absurd z lt, fun _ => ?_⟩
        refine x_tokN hA1 ?_
        refine ⟨fun c => ⟨Or.inr rfl, stop c⟩, fun c => ?_⟩
        have c : tk p1 = 10 := c
        exact ws_aload_n rfl rfl rfl (ws_geti rfl rfl rfl rfl (ws_istore_n rfl rfl rfl rfl (one c _ rfl)))
      · refine ⟨fun z => absurd z lt, fun _ => ?_⟩
        refine x_tokN hA1 ?_
        refine ⟨fun c => ⟨Or.inr rfl, stop c⟩, fun c => ?_⟩
        have c : tk p1 = 10 := c
        exact ws_aload_n rfl rfl rfl (ws_geti rfl rfl rfl rfl (ws_istore_n rfl rfl rfl rfl (one c _ rfl))))
  refine ⟨120 * 10 + 2, ?_⟩
  refine ws_iconst (x := nI 0) rfl rfl rfl (ws_istore_n rfl rfl rfl rfl (kk 9 _ [(1, .int (nI 0)), (0, .ref 2)] [] S (by omega) ⟨0, 0, [], [], fun _ => -1, [], by omega, Or.inl rfl, rfl, ?_, hpn.1, by simp, ?_⟩))
  · exact ⟨⟨fun _ _ _ _ => rfl, fun _ _ _ => rfl, rfl⟩, xAt_p hA, xAt_b hA, fun i x h => by simp at h, fun _ _ _ h => by simp at h, hA.2.2.2.2.1, fun _ _ _ h => by simp at h⟩
  · rw [hR]
    match cFuns n tk false 9 (fun _ => -1) 0 0 with
    | .error e => rfl
    | .ok (p5, l5, s5, par5, f5) => rfl
end LX
end
section
/-! THE CLASS'S COMPILER DOES WHAT THE FUNCTION SAYS: compile -/
def cMain (n : Nat) (tk par : Nat → Int32) (mk : Bool) (p b : Nat) : cRes :=
  if tk p = 11 then
    match cBlk n tk par mk true 16 (p + 1) b with
    | .error e => .error e
    | .ok (p1, l1, s1) => if tk p1 = 0 then (if p1 + 1 < n then .error (-11, p1 + 1) else .ok (p1 + 1, l1 ++ [0], s1)) else .error (-11, p1)
  else .error (-11, p)
theorem cAll_main (n : Nat) (tk : Nat → Int32) (mk : Bool) : cAll n tk mk = match cFuns n tk mk 9 (fun _ => -1) 0 0 with
  | .error e => .error e
  | .ok (p, l, s, par, fs) => match cMain n tk par mk p l.length with
    | .error e => .error e
    | .ok (_, l1, s1) => .ok (l ++ l1, s ++ s1, par, fs, l.length, p) := by
  unfold cAll
  match cFuns n tk mk 9 (fun _ => -1) 0 0 with
  | .error e => rfl
  | .ok (p, l, s, par, fs) =>
    simp only [cMain]
    by_cases h : tk p = 11
    · rw [if_pos h, if_pos h]
      match cBlk n tk par mk true 16 (p + 1) l.length with
      | .error e => rfl
      | .ok (p1, l1, s1) =>
        simp only
        by_cases h0 : tk p1 = 0
        · rw [if_pos h0, if_pos h0]
          by_cases h1 : p1 + 1 < n
          · rw [if_pos h1, if_pos h1]
          · rw [if_neg h1, if_neg h1]
        · rw [if_neg h0, if_neg h0]
    · rw [if_neg h, if_neg h]
def xMn (S : mv_S) : mv_S := mv_pf (mv_pf (mv_pf (mv_pf S 2 3 1) 1 7 (S.1 1 10)) 1 8 (S.1 2 1)) 2 1 (S.1 2 1 + 1)
def xKm (S S' : mv_S) : Prop := (∀ o f, o ≠ 2 → (o = 1 → f ≠ 7 ∧ f ≠ 8 ∧ f ≠ 10) → S'.1 o f = S.1 o f) ∧ (∀ o i, ¬ (9 ≤ o ∧ o ≤ 14) → S'.2.1 o i = S.2.1 o i) ∧ S'.2.2 = S.2.2
theorem xKm_trans {S T U : mv_S} (h : xKm S T) (g : xKm T U) : xKm S U := ⟨fun o f a b => (g.1 o f a b).trans (h.1 o f a b), fun o i a => (g.2.1 o i a).trans (h.2.1 o i a), g.2.2.trans h.2.2⟩
theorem xKf_km {S T : mv_S} (h : xKf S T) : xKm S T := ⟨fun o f a b => h.1 o f (fun z => absurd z a) (fun z => (b z).2.2), h.2.1, h.2.2⟩
theorem xMn_get (S : mv_S) (o f : Nat) : (xMn S).1 o f = if o = 2 ∧ f = 1 then S.1 2 1 + 1 else if o = 1 ∧ f = 8 then S.1 2 1 else if o = 1 ∧ f = 7 then S.1 1 10 else if o = 2 ∧ f = 3 then 1 else S.1 o f := by
  unfold xMn
  rw [pf_get, pf_get, pf_get, pf_get]
theorem xMn_km (S : mv_S) : xKm S (xMn S) := ⟨fun o f a b => by rw [xMn_get, if_neg (fun z => a z.1), if_neg (fun z => (b z.1).2.1 z.2), if_neg (fun z => (b z.1).1 z.2), if_neg (fun z => a z.1)], fun _ _ _ => rfl, rfl⟩
section LX
variable {d : Nat} {S T : mv_S} {P : Option Value → mv_S → Prop} {n : Nat} {tk par : Nat → Int32} {mn : Bool} {p b p1 : Nat} {l : List Int32} {s : List (Bool × Nat × Nat)}
theorem xAt_mn (hA : xAt S n tk par false p b) (hp : p < n) : xAt (xMn S) n tk par true (p + 1) b := by
  obtain ⟨h1, h2, h3, h4, h5, h6, h7, h8, h9, h10⟩ := hA
  refine ⟨?_, h2, h3, h4, h5, ?_, ?_, hp, ?_, by omega⟩
  · rw [xMn_get]; exact h1
  · rw [xMn_get]; rfl
  · rw [xMn_get, if_pos ⟨rfl, rfl⟩, h7, nI_1]
  · rw [xMn_get]; exact h9
theorem x_mainPart (ht : ∀ p, n ≤ p → tk p = -1) (hA : xAt S n tk par false p b)
    (he : ∀ w q S', cMain n tk par false p b = .error (w, q) → xKm S S' → S'.1 2 1 = nI q → S'.1 2 2 = w → P (some (.int 0)) S')
    (ho : ∀ p' l1 s1 S', cMain n tk par false p b = .ok (p', l1, s1) → xGo (xMn S) S' (p + 1) b p' l1 s1 → p < n → p' ≤ n → b + l1.length ≤ 8 * p' → P (some (.int 1)) S') : mv_big layX sysX 400 29 [.ref 2] S P := by
  have hpn := xAt_pn hA
  refine ⟨100, ?_⟩
  refine x_tokN hA ?_
  refine ⟨fun c => ?_, fun c => ?_⟩
  · have c : tk p = 11 := c
    have hp : p < n := tk_in ht (by rw [c]; decide)
    refine ⟨Or.inr rfl, ?_⟩
    refine x_addMain ?_
    have hB := x_blk (mn := true) (par := par) ht 16 (Nat.le_refl _)
    have hbl : ∀ p b, p ≤ n → cLn n 8 p (cLoop tk (cStm n tk par false true 16) 700 p b) := fun p b h => cBlk_ln (mk := false) ht h 700
    have hA1 := xAt_mn hA hp
    refine mv_deep (d := 360) (by decide) (hB (xMn S) _ (p + 1) b trivial hA1 (fun w q S3 e k1 k2 k3 => ?_) (fun p2 l2 s2 S3 e g5 => ?_))
    · refine ⟨fun _ => ⟨Or.inl rfl, he w q S3 ?_ (xKm_trans (xMn_km S) (xKf_km (xKp_kf k1))) k2 k3⟩, fun z => absurd rfl z⟩
      rw [cMain, if_pos c, cBlk, e]
    refine ⟨fun z => absurd (show (1 : Int32) = 0 from z) (by decide), fun _ => ?_⟩
    have hl := hbl _ _ hp _ _ _ e
    have hA2 := xAt_go hA1 g5 hl.2.1 (by omega)
    refine x_passEndA hA2 (fun S4 z0 k1 k2 k3 => ?_) (fun z0 => ?_)
    · refine ⟨fun z => absurd rfl z, fun _ => ⟨Or.inl rfl, he (-11) p2 S4 ?_ (xKm_trans (xMn_km S) (xKf_km (xKp_kf (xKp_trans g5.1 k1)))) k2 k3⟩⟩
      rw [cMain, if_pos c, cBlk, e]; simp only; rw [if_neg z0]
    refine ⟨fun _ => ?_, fun z => absurd (show (1 : Int32) = 0 from z) (by decide)⟩
    have hn2 : p2 < n := tk_in ht (by rw [z0]; decide)
    have g6 := xGo_n g5 hl.1
    refine x_emitA (w := 0) g6 (by omega) (by omega) (fun S5 g7 => ?_)
    have hA3 := xAt_go hA1 g7 hn2 (by simp; omega)
    have hh := xAt_has hA3
    refine x_hasToken (fun z => ?_) (fun z => ?_)
    · refine ⟨fun _ => ⟨Or.inr rfl, ho (p2 + 1) _ _ S5 ?_ g7 hp hn2 (by simp; omega)⟩, fun y => absurd rfl y⟩
      rw [cMain, if_pos c, cBlk, e]; simp only; rw [if_pos z0, if_neg (fun y => z (hh.mpr y))]
    · refine ⟨fun y => absurd (show (1 : Int32) = 0 from y) (by decide), fun _ => ?_⟩
      refine x_fail ?_
      refine ⟨fun _ => ⟨Or.inl rfl, he (-11) (p2 + 1) _ ?_ (xKm_trans (xMn_km S) (xKf_km (xKp_kf (xKp_trans g7.1 (xKp_fault S5 _))))) ((xFl_1 S5 _).trans g7.2.1) (xFl_2 S5 _)⟩, fun y => absurd rfl y⟩
      rw [cMain, if_pos c, cBlk, e]; simp only; rw [if_pos z0, if_pos (hh.mp z)]
  · have c : ¬ tk p = 11 := c
    refine x_fail ⟨Or.inl rfl, he (-11) p _ ?_ (xKf_km (xKp_kf (xKp_fault S _))) ((xFl_1 S _).trans (xAt_p hA)) (xFl_2 S _)⟩
    rw [cMain, if_neg c]
end LX
def xKc (S S' : mv_S) : Prop := (∀ o f, o ≠ 1 → o ≠ 2 → S'.1 o f = S.1 o f) ∧ S'.1 1 9 = S.1 1 9 ∧ (∀ o i, ¬ (9 ≤ o ∧ o ≤ 14) → S'.2.1 o i = S.2.1 o i) ∧ S'.2.2 = S.2.2
/-- the class's store holds the code: words l, notes s, parameters par, functions fs, the main part's first word mw and place mt -/
def xCode (S : mv_S) (l : List Int32) (s : List (Bool × Nat × Nat)) (par : Nat → Int32) (fs : cFs) (mw mt : Nat) : Prop :=
  S.1 1 11 = 1 ∧ S.1 1 12 = -1 ∧ S.1 1 10 = nI l.length ∧ l.length ≤ 1500 ∧ (∀ i x, l[i]? = some x → S.2.1 11 i = x) ∧ (∀ g q e, (g, q, e) ∈ s → q < 700 ∧ S.2.1 (if g then 10 else 9) q = nI e) ∧ (∀ i, i < 8 → S.2.1 12 i = par i) ∧ (∀ f w t, (f, w, t) ∈ fs → f < 8 ∧ par f ≠ -1 ∧ S.2.1 13 f = nI w ∧ S.2.1 14 f = nI t) ∧ S.1 1 7 = nI mw ∧ S.1 1 8 = nI mt
section LX
variable {d : Nat} {S T : mv_S} {P : Option Value → mv_S → Prop} {n : Nat} {tk par : Nat → Int32}
theorem xS0_get (S : mv_S) (o f : Nat) : (mv_pf (mv_pf (xFC S) 2 1 0) 2 3 0).1 o f = if o = 2 ∧ f = 3 then 0 else if o = 2 ∧ f = 1 then 0 else if o = 1 ∧ f = 12 then -1 else if o = 1 ∧ f = 10 then 0 else if o = 1 ∧ f = 11 then 0 else S.1 o f := by
  rw [pf_get, pf_get]
  show (if _ then _ else if _ then _ else (mv_pf (mv_pf (mv_pf S 1 11 0) 1 10 0) 1 12 (-1)).1 o f) = _
  rw [pf_get, pf_get, pf_get]
theorem xS0_row (S : mv_S) (o i : Nat) : (mv_pf (mv_pf (xFC S) 2 1 0) 2 3 0).2.1 o i = if o = 12 ∧ i < 8 then -1 else S.2.1 o i := by
  show (va_up S.2.1 12 (rFill (S.2.1 12) 0 8 (-1))) o i = _
  by_cases h : o = 12
  · subst h
    by_cases h2 : i < 8 <;> simp [va_up, rFill, h2]
  · simp [va_up, h]
theorem x_translate (hn : S.1 1 9 = nI n) (hn2 : n ≤ 700) (hk : ∀ i, i < n → S.2.1 8 i = tk i) (ht : ∀ p, n ≤ p → tk p = -1)
    (he : ∀ w q S', cAll n tk false = .error (w, q) → xKc S S' → S'.1 1 11 = 0 → S'.1 1 12 = nI q → P (some (.int w)) S')
    (hf : ∀ l s par fs mw mt S', cAll n tk false = .ok (l, s, par, fs, mw, mt) → 1500 < l.length → xKc S S' → S'.1 1 11 = 0 → S'.1 1 12 = -1 → P (some (.int (-16))) S')
    (ho : ∀ l s par fs mw mt S', cAll n tk false = .ok (l, s, par, fs, mw, mt) → xKc S S' → xCode S' l s par fs mw mt → P (some (.int (nI l.length))) S') : mv_big layX sysX 401 26 [.ref 2] S P := by
  obtain ⟨S0, hS0⟩ : ∃ S0, S0 = mv_pf (mv_pf (xFC S) 2 1 0) 2 3 0 := ⟨_, rfl⟩
  have r1 : ∀ o f, S0.1 o f = if o = 2 ∧ f = 3 then 0 else if o = 2 ∧ f = 1 then 0 else if o = 1 ∧ f = 12 then -1 else if o = 1 ∧ f = 10 then 0 else if o = 1 ∧ f = 11 then 0 else S.1 o f := fun o f => by rw [hS0]; exact xS0_get S o f
  have r2 : ∀ o i, S0.2.1 o i = if o = 12 ∧ i < 8 then -1 else S.2.1 o i := fun o i => by rw [hS0]; exact xS0_row S o i
  have r3 : S0.2.2 = S.2.2 := by rw [hS0]; rfl
  have hA : xAt S0 n tk (fun _ => -1) false 0 0 := by
    refine ⟨by rw [r1]; exact hn, hn2, fun i hi => by rw [r2, if_neg (by omega)]; exact hk i hi, ht, fun i hi => by rw [r2, if_pos ⟨rfl, hi⟩], by rw [r1]; rfl, by rw [r1]; rfl, Nat.zero_le _, by rw [r1]; rfl, by omega⟩
  have k0 : ∀ S', xKm S0 S' → xKc S S' := by
    intro S' k
    refine ⟨fun o f a b => ?_, ?_, fun o i a => ?_, k.2.2.trans r3⟩
    · rw [k.1 o f b (fun z => absurd z a), r1, if_neg (fun z => b z.1), if_neg (fun z => b z.1), if_neg (fun z => a z.1), if_neg (fun z => a z.1), if_neg (fun z => a z.1)]
    · rw [k.1 1 9 (by decide) (by decide), r1]; rfl
    · rw [k.2.1 o i a, r2, if_neg (by omega)]
  have k1 : ∀ S', xKm S0 S' → S'.1 1 11 = 0 ∧ S'.1 1 12 = -1 := by
    intro S' k
    refine ⟨?_, ?_⟩
    · rw [k.1 1 11 (by decide) (by decide), r1]; rfl
    · rw [k.1 1 12 (by decide) (by decide), r1]; rfl
  have kr : ∀ S' x, xKm S0 S' → xKc S (mv_pf S' 1 12 x) := by
    intro S' x k
    have := k0 S' k
    refine ⟨fun o f a b => ?_, ?_, this.2.2.1, this.2.2.2⟩
    · rw [pf_get, if_neg (fun z => a z.1)]; exact this.1 o f a b
    · rw [pf_get, if_neg (by decide)]; exact this.2.1
  have ka : ∀ S' x, xKm S0 S' → xKc S (mv_pf S' 1 11 x) := by
    intro S' x k
    have := k0 S' k
    refine ⟨fun o f a b => ?_, ?_, this.2.2.1, this.2.2.2⟩
    · rw [pf_get, if_neg (fun z => a z.1)]; exact this.1 o f a b
    · rw [pf_get, if_neg (by decide)]; exact this.2.1
  rw [cAll_main] at he hf ho
  refine ⟨100, ?_⟩
  refine x_forgetCode ?_
  refine ⟨Or.inl rfl, ?_⟩
  refine x_functions (S := mv_pf (mv_pf (xFC S) 2 1 0) 2 3 0) ht (by rw [← hS0]; exact hA) (fun w q S1 e k k2 k3 => ?_) (fun p l s par fs S1 e g h1 h2 => ?_)
  · rw [← hS0] at k
    refine ⟨fun _ => ?_, fun z => absurd rfl z⟩
    refine x_refuse ?_
    have c := k1 S1 (xKf_km k)
    have := he w q (mv_pf S1 1 12 (S1.1 2 1)) (by rw [e]) (kr S1 _ (xKf_km k)) (by rw [pf_get, if_neg (by decide)]; exact c.1) (by rw [pf_get, if_pos ⟨rfl, rfl⟩]; exact k2)
    rw [← k3] at this
    exact this
  · rw [← hS0] at g
    refine ⟨fun z => absurd (show (1 : Int32) = 0 from z) (by decide), fun _ => ?_⟩
    have hA1 := xAt_gf hA g h1 h2
    refine x_mainPart ht hA1 (fun w q S2 e2 k k2 k3 => ?_) (fun p' l1 s1 S2 e2 g2 h3 h4 h5 => ?_)
    · refine ⟨fun z => absurd rfl z, fun _ => ?_⟩
      refine x_refuse ?_
      have km := xKm_trans (xKf_km g.1) k
      have c := k1 S2 km
      have := he w q (mv_pf S2 1 12 (S2.1 2 1)) (by rw [e]; simp only; rw [e2]) (kr S2 _ km) (by rw [pf_get, if_neg (by decide)]; exact c.1) (by rw [pf_get, if_pos ⟨rfl, rfl⟩]; exact k2)
      rw [← k3] at this
      exact this
    · refine ⟨fun _ => ?_, fun z => absurd (show (1 : Int32) = 0 from z) (by decide)⟩
      have km := xKm_trans (xKf_km g.1) (xKm_trans (xMn_km S1) (xKf_km (xKp_kf g2.1)))
      have c := k1 S2 km
      have em : S2.1 1 10 = nI (l.length + l1.length) := g2.2.2.1
      refine x_emittedA (i := nI (l.length + l1.length)) (fun _ => ?_) em
      have hall : (match cFuns n tk false 9 (fun _ => -1) 0 0 with | .error e => (.error e : Except (Int32 × Nat) (List Int32 × List (Bool × Nat × Nat) × (Nat → Int32) × List (Nat × Nat × Nat) × Nat × Nat)) | .ok (p, l, s, par, fs) => match cMain n tk par false p l.length with | .error e => .error e | .ok (_, l1, s1) => .ok (l ++ l1, s ++ s1, par, fs, l.length, p)) = .ok (l ++ l1, s ++ s1, par, fs, l.length, p) := by
        rw [e]; simp only; rw [e2]
      have el : (l ++ l1).length = l.length + l1.length := List.length_append
      refine ⟨fun z => ?_, fun z => ?_⟩
      · have z : nI (l.length + l1.length) ≤ nI 1500 := z
        have z := (nI_leI (by omega) (by decide)).mp z
        obtain ⟨q1, q2, q3, q4, q5, q6, q7⟩ := g2
        obtain ⟨w1, w2, w3, w4, w5, w6, w7⟩ := g
        have code : xCode (mv_pf S2 1 11 1) (l ++ l1) (s ++ s1) par fs l.length p := by
          refine ⟨?_, ?_, ?_, by omega, fun i x hx => ?_, fun a q r hm => ?_, fun i hi => ?_, fun f w t hm => ?_, ?_, ?_⟩
          · rw [pf_get, if_pos ⟨rfl, rfl⟩]
          · rw [pf_get, if_neg (by decide)]; exact c.2
          · rw [pf_get, if_neg (by decide), el]; exact em
          · show S2.2.1 11 i = x
            by_cases hi : i < l.length
            · rw [List.getElem?_append_left hi] at hx
              rw [q4 i hi]
              exact w4 i x hx (by omega)
            · rw [List.getElem?_append_right (by omega)] at hx
              have h6 := (List.getElem?_eq_some_iff.mp hx).1
              have := q5 (i - l.length) x hx (by omega)
              rw [show l.length + (i - l.length) = i by omega] at this
              exact this
          · show q < 700 ∧ S2.2.1 _ q = _
            rcases List.mem_append.mp hm with hm1 | hm1
            · have := w5 a q r hm1
              exact ⟨by omega, by rw [q6 a q (by omega)]; exact this.2⟩
            · have := q7 a q r hm1
              exact ⟨by omega, this.2.2⟩
          · show S2.2.1 12 i = _
            rw [q1.2.1 12 i (by decide) (by decide) (by decide)]; exact w6 i hi
          · show f < 8 ∧ par f ≠ -1 ∧ S2.2.1 13 f = _ ∧ S2.2.1 14 f = _
            rw [q1.2.1 13 f (by decide) (by decide) (by decide), q1.2.1 14 f (by decide) (by decide) (by decide)]
            exact w7 f w t hm
          · rw [pf_get, if_neg (by decide), q1.1 1 7 (by decide) (by decide), xMn_get]; exact w3
          · rw [pf_get, if_neg (by decide), q1.1 1 8 (by decide) (by decide), xMn_get]; exact w2
        have := ho _ _ _ _ _ _ (mv_pf S2 1 11 1) hall (ka S2 1 km) code
        refine ⟨20, Or.inr rfl, ?_⟩
        refine ⟨20, fun y => ?_, fun _ => ?_⟩
        · have y : (mv_pf S2 1 11 1).1 1 11 = 0 := y
          rw [pf_get, if_pos ⟨rfl, rfl⟩] at y
          exact absurd y (by decide)
        · rw [← code.2.2.1] at this
          exact this
      · have z : ¬ nI (l.length + l1.length) ≤ nI 1500 := z
        have z : ¬ l.length + l1.length ≤ 1500 := fun y => z ((nI_leI (by omega) (by decide)).mpr y)
        exact hf _ _ _ _ _ _ S2 hall (by rw [el]; omega) (k0 S2 km) c.1 c.2
theorem x_compile (hn : S.1 1 9 = nI n) (hn2 : n ≤ 700) (hk : ∀ i, i < n → S.2.1 8 i = tk i) (ht : ∀ p, n ≤ p → tk p = -1)
    (he : ∀ w q S', cAll n tk false = .error (w, q) → xKc (xLR S) S' → S'.1 1 11 = 0 → S'.1 1 12 = nI q → P (some (.int w)) S')
    (hf : ∀ l s par fs mw mt S', cAll n tk false = .ok (l, s, par, fs, mw, mt) → 1500 < l.length → xKc (xLR S) S' → S'.1 1 11 = 0 → S'.1 1 12 = -1 → P (some (.int (-16))) S')
    (ho : ∀ l s par fs mw mt S', cAll n tk false = .ok (l, s, par, fs, mw, mt) → xKc (xLR S) S' → xCode S' l s par fs mw mt → P (some (.int (nI l.length))) S') : mv_big layX sysX 402 160 [.ref 0] S P := by
  refine ⟨20, ?_⟩
  refine x_leaveRun ?_
  refine x_translate (S := xLR S) (n := n) (tk := tk) ?_ hn2 ?_ ht he hf ho
  · exact hn
  · exact hk
end LX
end
section
/-! THE REFERENCE READS: its store by lists. Fault w at place fp, next place p, words ws, marked words ms, to do td (top first), holes hs; the rest is as in S0 -/
def yTd (S : mv_S) : List (Int32 × Int32 × Int32) → Prop
  | [] => True
  | (a, b, c) :: t => S.2.1 8 t.length = a ∧ S.2.1 9 t.length = b ∧ S.2.1 10 t.length = c ∧ yTd S t
def yKp (S0 S : mv_S) : Prop := (∀ o f, (o = 0 → f ≠ 2 ∧ f ≠ 3 ∧ f ≠ 4 ∧ f ≠ 7 ∧ f ≠ 9 ∧ f ≠ 20 ∧ f ≠ 23) → S.1 o f = S0.1 o f) ∧ (∀ o i, o ≠ 2 → o ≠ 3 → ¬ (8 ≤ o ∧ o ≤ 12) → S.2.1 o i = S0.2.1 o i) ∧ S.2.2 = S0.2.2
def yAt (S0 S : mv_S) (w fp : Int32) (p : Nat) (ws ms : List Int32) (td : List (Int32 × Int32 × Int32)) (hs : List (Option (Nat × Nat))) : Prop :=
  S.1 0 3 = w ∧ S.1 0 4 = fp ∧ S.1 0 2 = nI p ∧ (S.1 0 7 = nI ws.length ∧ ∀ i x, ws[i]? = some x → S.2.1 2 i = x) ∧ (S.1 0 9 = nI ms.length ∧ ∀ i x, ms[i]? = some x → S.2.1 3 i = x) ∧ (S.1 0 20 = nI td.length ∧ yTd S td) ∧ (S.1 0 23 = nI hs.length ∧ ∀ i a c, hs[i]? = some (some (a, c)) → S.2.1 11 i = nI a ∧ S.2.1 12 i = nI c) ∧ yKp S0 S
theorem yTd_congr {S S' : mv_S} : ∀ {td : List (Int32 × Int32 × Int32)}, (∀ i, i < td.length → S'.2.1 8 i = S.2.1 8 i ∧ S'.2.1 9 i = S.2.1 9 i ∧ S'.2.1 10 i = S.2.1 10 i) → yTd S td → yTd S' td
  | [], _, _ => trivial
  | (a, b, c) :: t, h, g => by
    obtain ⟨g1, g2, g3, g4⟩ := g
    have := h t.length (by simp)
    exact ⟨this.1.trans g1, this.2.1.trans g2, this.2.2.trans g3, yTd_congr (fun i hi => h i (by simp; omega)) g4⟩
theorem yKp_pf {S0 S : mv_S} {k : Nat} {x : Int32} (h : yKp S0 S) (hk : k = 2 ∨ k = 3 ∨ k = 4 ∨ k = 7 ∨ k = 9 ∨ k = 20 ∨ k = 23) : yKp S0 (mv_pf S 0 k x) := by
  refine ⟨fun o f a => ?_, h.2.1, h.2.2⟩
  rw [pf_get, if_neg (fun z => by have := a z.1; omega)]
  exact h.1 o f a
theorem yKp_pr {S0 S : mv_S} {q k : Nat} {x : Int32} (h : yKp S0 S) (hk : q = 2 ∨ q = 3 ∨ 8 ≤ q ∧ q ≤ 12) : yKp S0 (mv_pr S q k x) := by
  refine ⟨h.1, fun o i a b c => ?_, h.2.2⟩
  rw [pr_get, if_neg (fun z => by omega)]
  exact h.2.1 o i a b c
theorem snoc_row {ws : List Int32} {R : Nat → Int32} {x : Int32} (h : ∀ i y, ws[i]? = some y → R i = y) : ∀ i y, (ws ++ [x])[i]? = some y → (if i = ws.length then x else R i) = y := by
  intro i y hy
  by_cases hi : i < ws.length
  · rw [List.getElem?_append_left hi] at hy
    rw [if_neg (by omega)]
    exact h i y hy
  · by_cases he : i = ws.length
    · subst he
      rw [if_pos rfl]
      simpa using hy
    · rw [List.getElem?_append_right (by omega)] at hy
      obtain ⟨z, -⟩ := List.getElem?_eq_some_iff.mp hy
      simp at z
      omega
theorem set_row {ws : List Int32} {R : Nat → Int32} {x : Int32} {a : Nat} (h : ∀ i y, ws[i]? = some y → R i = y) : ∀ i y, (ws.set a x)[i]? = some y → (if i = a then x else R i) = y := by
  intro i y hy
  rw [List.getElem?_set] at hy
  by_cases hi : i = a
  · subst hi
    rw [if_pos rfl] at hy
    split at hy
    · rw [if_pos rfl]; exact Option.some.inj hy
    · cases hy
  · rw [if_neg (fun z => hi z.symm)] at hy
    rw [if_neg hi]
    exact h i y hy
section YA
variable {S0 S : mv_S} {w fp : Int32} {p : Nat} {ws ms : List Int32} {td : List (Int32 × Int32 × Int32)} {hs : List (Option (Nat × Nat))}
theorem yAt_lay (h : yAt S0 S w fp p ws ms td hs) (x y : Int32) : yAt S0 (mv_pf (mv_pr (mv_pf (mv_pr S 2 ws.length x) 0 7 (nI (ws.length + 1))) 3 ms.length y) 0 9 (nI (ms.length + 1))) w fp p (ws ++ [x]) (ms ++ [y]) td hs := by
  obtain ⟨h1, h2, h3, ⟨h4, h4'⟩, ⟨h5, h5'⟩, ⟨h6, h6'⟩, ⟨h7, h7'⟩, h8⟩ := h
  have f : ∀ k, (mv_pf (mv_pr (mv_pf (mv_pr S 2 ws.length x) 0 7 (nI (ws.length + 1))) 3 ms.length y) 0 9 (nI (ms.length + 1))).1 0 k = if k = 9 then nI (ms.length + 1) else if k = 7 then nI (ws.length + 1) else S.1 0 k := by
    intro k
    rw [pf_get]
    show (if _ then _ else (mv_pf (mv_pr S 2 ws.length x) 0 7 (nI (ws.length + 1))).1 0 k) = _
    rw [pf_get]
    simp only [true_and]
    rfl
  have r : ∀ o i, (mv_pf (mv_pr (mv_pf (mv_pr S 2 ws.length x) 0 7 (nI (ws.length + 1))) 3 ms.length y) 0 9 (nI (ms.length + 1))).2.1 o i = if o = 3 ∧ i = ms.length then y else if o = 2 ∧ i = ws.length then x else S.2.1 o i := by
    intro o i
    show (mv_pr (mv_pf (mv_pr S 2 ws.length x) 0 7 (nI (ws.length + 1))) 3 ms.length y).2.1 o i = _
    rw [pr_get]
    show (if _ then _ else (mv_pr S 2 ws.length x).2.1 o i) = _
    rw [pr_get]
  refine ⟨by rw [f]; exact h1, by rw [f]; exact h2, by rw [f]; exact h3, ⟨by rw [f, List.length_append]; rfl, fun i z hz => ?_⟩, ⟨by rw [f, List.length_append]; rfl, fun i z hz => ?_⟩, ⟨by rw [f]; exact h6, yTd_congr (fun i _ => ?_) h6'⟩, ⟨by rw [f]; exact h7, fun i a c hz => ?_⟩, yKp_pf (yKp_pr (yKp_pf (yKp_pr h8 (by omega)) (by omega)) (by omega)) (by omega)⟩
  · rw [r, if_neg (by omega)]
    have := snoc_row h4' i z hz
    simpa using this
  · rw [r]
    have := snoc_row h5' i z hz
    by_cases e : i = ms.length
    · rw [if_pos ⟨rfl, e⟩]; rw [if_pos e] at this; exact this
    · rw [if_neg (by omega), if_neg (by omega)]; rw [if_neg e] at this; exact this
  · rw [r, r, r, if_neg (by omega), if_neg (by omega), if_neg (by omega), if_neg (by omega), if_neg (by omega), if_neg (by omega)]
    exact ⟨rfl, rfl, rfl⟩
  · rw [r, r, if_neg (by omega), if_neg (by omega), if_neg (by omega), if_neg (by omega)]
    exact h7' i a c hz
theorem yAt_mark (h : yAt S0 S w fp p ws ms td hs) : yAt S0 (yMark S ms.length) w fp p ws (ms ++ [30]) td hs := by
  obtain ⟨h1, h2, h3, ⟨h4, h4'⟩, ⟨h5, h5'⟩, ⟨h6, h6'⟩, ⟨h7, h7'⟩, h8⟩ := h
  have f : ∀ k, (yMark S ms.length).1 0 k = if k = 9 then nI (ms.length + 1) else S.1 0 k := by
    intro k
    unfold yMark
    rw [pf_get]
    simp only [true_and]
    rfl
  have r : ∀ o i, (yMark S ms.length).2.1 o i = if o = 3 ∧ i = ms.length then 30 else S.2.1 o i := by
    intro o i
    show (mv_pr S 3 ms.length 30).2.1 o i = _
    rw [pr_get]
  refine ⟨by rw [f]; exact h1, by rw [f]; exact h2, by rw [f]; exact h3, ⟨by rw [f]; exact h4, fun i z hz => ?_⟩, ⟨by rw [f, List.length_append]; rfl, fun i z hz => ?_⟩, ⟨by rw [f]; exact h6, yTd_congr (fun i _ => ?_) h6'⟩, ⟨by rw [f]; exact h7, fun i a c hz => ?_⟩, yKp_pf (yKp_pr h8 (by omega)) (by omega)⟩
  · rw [r, if_neg (by omega)]
    exact h4' i z hz
  · rw [r]
    have := snoc_row h5' i z hz
    by_cases e : i = ms.length
    · rw [if_pos ⟨rfl, e⟩]; rw [if_pos e] at this; exact this
    · rw [if_neg (by omega)]; rw [if_neg e] at this; exact this
  · rw [r, r, r, if_neg (by omega), if_neg (by omega), if_neg (by omega)]
    exact ⟨rfl, rfl, rfl⟩
  · rw [r, r, if_neg (by omega), if_neg (by omega)]
    exact h7' i a c hz
theorem yAt_later (h : yAt S0 S w fp p ws ms td hs) (a b c : Int32) : yAt S0 (yLater S td.length a b c) w fp p ws ms ((a, b, c) :: td) hs := by
  obtain ⟨h1, h2, h3, ⟨h4, h4'⟩, ⟨h5, h5'⟩, ⟨h6, h6'⟩, ⟨h7, h7'⟩, h8⟩ := h
  have f : ∀ k, (yLater S td.length a b c).1 0 k = if k = 20 then nI (td.length + 1) else S.1 0 k := by
    intro k
    unfold yLater
    rw [pf_get]
    simp only [true_and]
    rfl
  have r : ∀ o i, (yLater S td.length a b c).2.1 o i = if o = 10 ∧ i = td.length then c else if o = 9 ∧ i = td.length then b else if o = 8 ∧ i = td.length then a else S.2.1 o i := by
    intro o i
    show (mv_pr (mv_pr (mv_pr S 8 td.length a) 9 td.length b) 10 td.length c).2.1 o i = _
    rw [pr_get, pr_get, pr_get]
  refine ⟨by rw [f]; exact h1, by rw [f]; exact h2, by rw [f]; exact h3, ⟨by rw [f]; exact h4, fun i z hz => ?_⟩, ⟨by rw [f]; exact h5, fun i z hz => ?_⟩, ⟨by rw [f]; rfl, ?_, ?_, ?_, yTd_congr (fun i hi => ?_) h6'⟩, ⟨by rw [f]; exact h7, fun i a c hz => ?_⟩, yKp_pf (yKp_pr (yKp_pr (yKp_pr h8 (by omega)) (by omega)) (by omega)) (by omega)⟩
  · rw [r, if_neg (by omega), if_neg (by omega), if_neg (by omega)]; exact h4' i z hz
  · rw [r, if_neg (by omega), if_neg (by omega), if_neg (by omega)]; exact h5' i z hz
  · rw [r, if_neg (by omega), if_neg (by omega), if_pos ⟨rfl, rfl⟩]
  · rw [r, if_neg (by omega), if_pos ⟨rfl, rfl⟩]
  · rw [r, if_pos ⟨rfl, rfl⟩]
  · rw [r, r, r, if_neg (by omega), if_neg (by omega), if_neg (by omega), if_neg (by omega), if_neg (by omega), if_neg (by omega), if_neg (by omega), if_neg (by omega), if_neg (by omega)]
    exact ⟨rfl, rfl, rfl⟩
  · rw [r, r, if_neg (by omega), if_neg (by omega), if_neg (by omega), if_neg (by omega), if_neg (by omega), if_neg (by omega)]
    exact h7' i _ _ hz
theorem yAt_hole (h : yAt S0 S w fp p ws ms td hs) : yAt S0 (mv_pf S 0 23 (nI (hs.length + 1))) w fp p ws ms td (hs ++ [none]) := by
  obtain ⟨h1, h2, h3, ⟨h4, h4'⟩, ⟨h5, h5'⟩, ⟨h6, h6'⟩, ⟨h7, h7'⟩, h8⟩ := h
  have f : ∀ k, (mv_pf S 0 23 (nI (hs.length + 1))).1 0 k = if k = 23 then nI (hs.length + 1) else S.1 0 k := by
    intro k
    rw [pf_get]
    simp only [true_and]
  refine ⟨by rw [f]; exact h1, by rw [f]; exact h2, by rw [f]; exact h3, ⟨by rw [f]; exact h4, h4'⟩, ⟨by rw [f]; exact h5, h5'⟩, ⟨by rw [f]; exact h6, yTd_congr (S := S) (fun _ _ => ⟨rfl, rfl, rfl⟩) h6'⟩, ⟨by rw [f, List.length_append]; rfl, fun i a c hz => ?_⟩, yKp_pf h8 (by omega)⟩
  by_cases hi : i < hs.length
  · rw [List.getElem?_append_left hi] at hz
    exact h7' i a c hz
  · rw [List.getElem?_append_right (by omega)] at hz
    obtain ⟨z, hz2⟩ := List.getElem?_eq_some_iff.mp hz
    simp at hz2
theorem yAt_rem (h : yAt S0 S w fp p ws ms td hs) (q : Nat) : yAt S0 (yRem S q ws.length ms.length) w fp p ws ms td (hs.set q (some (ws.length, ms.length))) := by
  obtain ⟨h1, h2, h3, ⟨h4, h4'⟩, ⟨h5, h5'⟩, ⟨h6, h6'⟩, ⟨h7, h7'⟩, h8⟩ := h
  have r : ∀ o i, (yRem S q ws.length ms.length).2.1 o i = if o = 12 ∧ i = q then nI ms.length else if o = 11 ∧ i = q then nI ws.length else S.2.1 o i := by
    intro o i
    show (mv_pr (mv_pr S 11 q (nI ws.length)) 12 q (nI ms.length)).2.1 o i = _
    rw [pr_get, pr_get]
  refine ⟨h1, h2, h3, ⟨h4, fun i z hz => ?_⟩, ⟨h5, fun i z hz => ?_⟩, ⟨h6, yTd_congr (fun i _ => ?_) h6'⟩, ⟨by rw [List.length_set]; exact h7, fun i a c hz => ?_⟩, yKp_pr (yKp_pr h8 (by omega)) (by omega)⟩
  · rw [r, if_neg (by omega), if_neg (by omega)]; exact h4' i z hz
  · rw [r, if_neg (by omega), if_neg (by omega)]; exact h5' i z hz
  · rw [r, r, r, if_neg (by omega), if_neg (by omega), if_neg (by omega), if_neg (by omega), if_neg (by omega), if_neg (by omega)]
    exact ⟨rfl, rfl, rfl⟩
  · rw [List.getElem?_set] at hz
    rw [r, r]
    by_cases e : q = i
    · subst e
      rw [if_pos rfl] at hz
      split at hz
      · simp only [Option.some.injEq, Prod.mk.injEq] at hz
        obtain ⟨rfl, rfl⟩ := hz
        rw [if_neg (by omega), if_pos ⟨rfl, rfl⟩, if_pos ⟨rfl, rfl⟩]
        exact ⟨rfl, rfl⟩
      · cases hz
    · rw [if_neg e] at hz
      rw [if_neg (by omega), if_neg (by omega), if_neg (by omega), if_neg (by omega)]
      exact h7' i a c hz
theorem yAt_fill (h : yAt S0 S w fp p ws ms td hs) (a c : Nat) : yAt S0 (yFill S a c ws.length ms.length) w fp p (ws.set a (nI ws.length)) (ms.set c (nI ms.length)) td hs := by
  obtain ⟨h1, h2, h3, ⟨h4, h4'⟩, ⟨h5, h5'⟩, ⟨h6, h6'⟩, ⟨h7, h7'⟩, h8⟩ := h
  have r : ∀ o i, (yFill S a c ws.length ms.length).2.1 o i = if o = 3 ∧ i = c then nI ms.length else if o = 2 ∧ i = a then nI ws.length else S.2.1 o i := by
    intro o i
    show (mv_pr (mv_pr S 2 a (nI ws.length)) 3 c (nI ms.length)).2.1 o i = _
    rw [pr_get, pr_get]
  refine ⟨h1, h2, h3, ⟨by rw [List.length_set]; exact h4, fun i z hz => ?_⟩, ⟨by rw [List.length_set]; exact h5, fun i z hz => ?_⟩, ⟨h6, yTd_congr (fun i _ => ?_) h6'⟩, ⟨h7, fun i a c hz => ?_⟩, yKp_pr (yKp_pr h8 (by omega)) (by omega)⟩
  · rw [r, if_neg (by omega)]
    have := set_row h4' i z hz
    simpa using this
  · rw [r]
    have := set_row h5' i z hz
    by_cases e : i = c
    · rw [if_pos ⟨rfl, e⟩]; rw [if_pos e] at this; exact this
    · rw [if_neg (by omega), if_neg (by omega)]; rw [if_neg e] at this; exact this
  · rw [r, r, r, if_neg (by omega), if_neg (by omega), if_neg (by omega), if_neg (by omega), if_neg (by omega), if_neg (by omega)]
    exact ⟨rfl, rfl, rfl⟩
  · rw [r, r, if_neg (by omega), if_neg (by omega), if_neg (by omega), if_neg (by omega)]
    exact h7' i _ _ hz
theorem yAt_next (h : yAt S0 S w fp p ws ms td hs) : yAt S0 (mv_pf S 0 2 (S.1 0 2 + 1)) w fp (p + 1) ws ms td hs := by
  obtain ⟨h1, h2, h3, ⟨h4, h4'⟩, ⟨h5, h5'⟩, ⟨h6, h6'⟩, ⟨h7, h7'⟩, h8⟩ := h
  have f : ∀ k, (mv_pf S 0 2 (S.1 0 2 + 1)).1 0 k = if k = 2 then nI (p + 1) else S.1 0 k := by
    intro k
    rw [pf_get, h3, nI_1]
    simp only [true_and]
  exact ⟨by rw [f]; exact h1, by rw [f]; exact h2, by rw [f]; rfl, ⟨by rw [f]; exact h4, h4'⟩, ⟨by rw [f]; exact h5, h5'⟩, ⟨by rw [f]; exact h6, yTd_congr (S := S) (fun _ _ => ⟨rfl, rfl, rfl⟩) h6'⟩, ⟨by rw [f]; exact h7, h7'⟩, yKp_pf h8 (by omega)⟩
theorem yAt_pop {a b c : Int32} (h : yAt S0 S w fp p ws ms ((a, b, c) :: td) hs) : yAt S0 (mv_pf S 0 20 (S.1 0 20 - 1)) w fp p ws ms td hs := by
  obtain ⟨h1, h2, h3, ⟨h4, h4'⟩, ⟨h5, h5'⟩, ⟨h6, h6'⟩, ⟨h7, h7'⟩, h8⟩ := h
  have f : ∀ k, (mv_pf S 0 20 (S.1 0 20 - 1)).1 0 k = if k = 20 then nI td.length else S.1 0 k := by
    intro k
    rw [pf_get, h6, List.length_cons, nI_pred]
    simp only [true_and]
  exact ⟨by rw [f]; exact h1, by rw [f]; exact h2, by rw [f]; exact h3, ⟨by rw [f]; exact h4, h4'⟩, ⟨by rw [f]; exact h5, h5'⟩, ⟨by rw [f]; rfl, yTd_congr (S := S) (fun _ _ => ⟨rfl, rfl, rfl⟩) h6'.2.2.2⟩, ⟨by rw [f]; exact h7, h7'⟩, yKp_pf h8 (by omega)⟩
theorem yAt_wrong (h : yAt S0 S w fp p ws ms td hs) (v : Int32) : yAt S0 (mv_pf (mv_pf S 0 3 v) 0 4 (S.1 0 2)) v (nI p) p ws ms td hs := by
  obtain ⟨h1, h2, h3, ⟨h4, h4'⟩, ⟨h5, h5'⟩, ⟨h6, h6'⟩, ⟨h7, h7'⟩, h8⟩ := h
  have f : ∀ k, (mv_pf (mv_pf S 0 3 v) 0 4 (S.1 0 2)).1 0 k = if k = 4 then nI p else if k = 3 then v else S.1 0 k := by
    intro k
    rw [pf_get, pf_get, h3]
    simp only [true_and]
  exact ⟨by rw [f]; rfl, by rw [f]; rfl, by rw [f]; exact h3, ⟨by rw [f]; exact h4, h4'⟩, ⟨by rw [f]; exact h5, h5'⟩, ⟨by rw [f]; exact h6, yTd_congr (S := S) (fun _ _ => ⟨rfl, rfl, rfl⟩) h6'⟩, ⟨by rw [f]; exact h7, h7'⟩, yKp_pf (yKp_pf h8 (by omega)) (by omega)⟩
end YA
end
section
/-! THE REFERENCE READS: its small methods by lists -/
/-- what does not change while it reads: n tokens tk, parameters par, mn: in the main part -/
def yTk (S0 : mv_S) (n : Nat) (tk par : Nat → Int32) (mn : Bool) : Prop :=
  S0.1 0 1 = nI n ∧ n ≤ 700 ∧ (∀ i, i < n → S0.2.1 1 i = tk i) ∧ (∀ i, n ≤ i → tk i = -1) ∧ (∀ f, f < 8 → (par f = -1 → S0.2.1 4 f = 0) ∧ (par f ≠ -1 → S0.2.1 4 f = 1 ∧ S0.2.1 5 f = par f ∧ 0 ≤ par f ∧ par f ≤ 3)) ∧ S0.1 0 12 = (if mn then 1 else 0)
section YA
variable {d : Nat} {P : Option Value → mv_S → Prop} {S0 S : mv_S} {w fp : Int32} {n p : Nat} {tk par : Nat → Int32} {mn : Bool} {ws ms : List Int32} {td : List (Int32 × Int32 × Int32)} {hs : List (Option (Nat × Nat))}
theorem y_layA {x : Int32} (h : yAt S0 S w fp p ws ms td hs) (b1 : ws.length < 6000) (b2 : ms.length < 8000) (k : ∀ S', yAt S0 S' w fp p (ws ++ [x]) (ms ++ [x]) td hs → P none S') : mv_big layY sysY (d + 1) 8 [.ref 0, .int x] S P :=
  y_lay h.2.2.2.1.1 b1 h.2.2.2.2.1.1 b2 (k _ (yAt_lay h x x))
theorem y_markA (h : yAt S0 S w fp p ws ms td hs) (b2 : ms.length < 8000) (k : ∀ S', yAt S0 S' w fp p ws (ms ++ [30]) td hs → P none S') : mv_big layY sysY (d + 1) 9 [.ref 0] S P :=
  y_mark h.2.2.2.2.1.1 b2 (k _ (yAt_mark h))
theorem y_laterA {a b c : Int32} (h : yAt S0 S w fp p ws ms td hs) (b1 : td.length < 4000) (k : ∀ S', yAt S0 S' w fp p ws ms ((a, b, c) :: td) hs → P none S') : mv_big layY sysY (d + 1) 7 [.ref 0, .int a, .int b, .int c] S P :=
  y_later h.2.2.2.2.2.1.1 b1 (k _ (yAt_later h a b c))
theorem y_newHoleA (h : yAt S0 S w fp p ws ms td hs) (k : ∀ S', yAt S0 S' w fp p ws ms td (hs ++ [none]) → P (some (.int (nI hs.length))) S') : mv_big layY sysY (d + 1) 10 [.ref 0] S P :=
  y_newHole h.2.2.2.2.2.2.1.1 (k _ (yAt_hole h))
theorem y_rememberA {q : Nat} (h : yAt S0 S w fp p ws ms td hs) (b1 : q < 2000) (k : ∀ S', yAt S0 S' w fp p ws ms td (hs.set q (some (ws.length, ms.length))) → P none S') : mv_big layY sysY (d + 1) 14 [.ref 0, .int (nI q)] S P :=
  y_remember h.2.2.2.1.1 h.2.2.2.2.1.1 b1 (k _ (yAt_rem h q))
theorem y_layHoleA {q : Nat} (h : yAt S0 S w fp p ws ms td hs) (b1 : ws.length < 6000) (b2 : ms.length < 8000) (b3 : q < 2000) (k : ∀ S', yAt S0 S' w fp p (ws ++ [0]) (ms ++ [0]) td (hs.set q (some (ws.length, ms.length))) → P none S') : mv_big layY sysY (d + 2) 11 [.ref 0, .int (nI q)] S P :=
  y_layHole h.2.2.2.1.1 b1 h.2.2.2.2.1.1 b2 b3 (k _ (yAt_lay (yAt_rem h q) 0 0))
theorem y_fillA {q a c : Nat} (h : yAt S0 S w fp p ws ms td hs) (b3 : q < 2000) (hq : hs[q]? = some (some (a, c))) (b1 : a < 6000) (b2 : c < 8000) (k : ∀ S', yAt S0 S' w fp p (ws.set a (nI ws.length)) (ms.set c (nI ms.length)) td hs → P none S') : mv_big layY sysY (d + 1) 12 [.ref 0, .int (nI q)] S P :=
  y_fill h.2.2.2.1.1 h.2.2.2.2.1.1 b3 (h.2.2.2.2.2.2.1.2 q a c hq).1 b1 (h.2.2.2.2.2.2.1.2 q a c hq).2 b2 (k _ (yAt_fill h a c))
theorem y_layBackA {q a c : Nat} (h : yAt S0 S w fp p ws ms td hs) (b3 : q < 2000) (hq : hs[q]? = some (some (a, c))) (b1 : ws.length < 6000) (b2 : ms.length < 8000) (k : ∀ S', yAt S0 S' w fp p (ws ++ [nI a]) (ms ++ [nI c]) td hs → P none S') : mv_big layY sysY (d + 1) 13 [.ref 0, .int (nI q)] S P := by
  have e3 : (nI q).toNatClampNeg = q := nI_clamp (by omega)
  have hv : vp_in (nI q) 2000 := vp_in_nI b3 (by omega)
  have f1 : S.2.1 11 (nI q).toNatClampNeg = nI a := by rw [e3]; exact (h.2.2.2.2.2.2.1.2 q a c hq).1
  have f2 : S.2.1 12 (nI q).toNatClampNeg = nI c := by rw [e3]; exact (h.2.2.2.2.2.2.1.2 q a c hq).2
  have hw := h.2.2.2.1.1
  have hm := h.2.2.2.2.1.1
  refine ⟨60, hv, ?_, hv, ?_, ?_⟩
  · show vp_in (S.1 0 7) 6000
    rw [hw]; exact vp_in_nI b1 (by omega)
  · show vp_in (S.1 0 9) 8000
    rw [hm]; exact vp_in_nI b2 (by omega)
  · have h3 : P none (mv_pf (mv_pr (mv_pf (mv_pr S 2 (S.1 0 7).toNatClampNeg (S.2.1 11 (nI q).toNatClampNeg)) 0 7 (S.1 0 7 + 1)) 3 (S.1 0 9).toNatClampNeg (S.2.1 12 (nI q).toNatClampNeg)) 0 9 (S.1 0 9 + 1)) := by
      rw [f1, f2, hw, hm, nI_clamp (by omega), nI_clamp (by omega), nI_1, nI_1]
      exact k _ (yAt_lay h (nI a) (nI c))
    exact h3
theorem yTk_n (hT : yTk S0 n tk par mn) (h : yAt S0 S w fp p ws ms td hs) : S.1 0 1 = nI n := by
  rw [h.2.2.2.2.2.2.2.1 0 1 (by decide)]; exact hT.1
theorem y_tokenA (hT : yTk S0 n tk par mn) (h : yAt S0 S w fp p ws ms td hs) (hp : p < 2 ^ 31) (k : P (some (.int (tk p))) S) : mv_big layY sysY (d + 1) 3 [.ref 0] S P := by
  refine y_token h.2.2.1 (yTk_n hT h) hT.2.1 hp ?_
  by_cases c : p < n
  · rw [if_pos c, h.2.2.2.2.2.2.2.2.1 1 p (by decide) (by decide) (by decide), hT.2.2.1 p c]; exact k
  · rw [if_neg c]
    rw [hT.2.2.2.1 p (by omega)] at k; exact k
theorem y_wrongA {v : Int32} (h : yAt S0 S 0 fp p ws ms td hs) (k : ∀ S', yAt S0 S' v (nI p) p ws ms td hs → P none S') : mv_big layY sysY (d + 1) 4 [.ref 0, .int v] S P :=
  y_wrong (fun _ => k _ (yAt_wrong h v)) (fun c => absurd h.1 c)
theorem lePred {v : Int32} {k : Nat} (h0 : 0 < k) (h1 : k < 2 ^ 31) : v ≤ nI k - 1 ↔ v < nI k := by
  obtain ⟨j, rfl⟩ : ∃ j, k = j + 1 := ⟨k - 1, by omega⟩
  rw [nI_pred, Int32.le_iff_toInt_le, Int32.lt_iff_toInt_lt, nI_toInt (by omega), nI_toInt h1]
  omega
theorem y_numberA {m : Nat} (hT : yTk S0 n tk par mn) (h : yAt S0 S 0 fp p ws ms td hs) (hp : p ≤ n) (h0 : 0 < m) (h1 : m < 2 ^ 31)
    (he : ∀ v q S', cBare n tk (nI m) p = .error (v, q) → v ≠ 0 → q = p → yAt S0 S' v (nI q) p ws ms td hs → P (some (.int (tk p))) S')
    (ho : ∀ S', cBare n tk (nI m) p = .ok (p + 1) → yAt S0 S' 0 fp (p + 1) ws ms td hs → P (some (.int (tk p))) S') : mv_big layY sysY (d + 2) 5 [.ref 0, .int (nI m)] S P := by
  have hn := hT.2.1
  refine ⟨60, ?_⟩
  refine y_tokenA hT h (by omega) ?_
  refine ⟨fun c => ?_, fun c => ?_⟩
  · have c : ¬ S.1 0 2 = S.1 0 1 := c
    rw [h.2.2.1, yTk_n hT h, nI_eq (by omega) (by omega)] at c
    have hlt : p < n := by omega
    refine y_in (fun c2 => ?_) (fun c2 => ?_)
    · refine ⟨fun z => absurd rfl z, fun _ => ?_⟩
      refine y_wrongA (v := -12) h (fun S' h' => he (-12) p S' ?_ (by decide) rfl h')
      unfold cBare
      rw [if_pos hlt, if_neg]
      intro z
      exact c2 ⟨z.1, (lePred h0 h1).mpr z.2⟩
    · refine ⟨fun _ => ?_, fun z => absurd (show (1 : Int32) = 0 from z) (by decide)⟩
      refine ho _ ?_ (yAt_next h)
      unfold cBare
      rw [if_pos hlt, if_pos ⟨c2.1, (lePred h0 h1).mp c2.2⟩]
  · have c : S.1 0 2 = S.1 0 1 := c
    rw [h.2.2.1, yTk_n hT h, nI_eq (by omega) (by omega)] at c
    refine y_wrongA (v := -11) h (fun S' h' => he (-11) p S' ?_ (by decide) rfl h')
    unfold cBare
    rw [if_neg (by omega)]
theorem yTk_isF (hT : yTk S0 n tk par mn) (h : yAt S0 S w fp p ws ms td hs) {f : Nat} (hf : f < 8) : (S.2.1 4 f = 0 ↔ par f = -1) := by
  rw [h.2.2.2.2.2.2.2.2.1 4 f (by decide) (by decide) (by decide)]
  constructor
  · intro z
    by_cases c : par f = -1
    · exact c
    · rw [((hT.2.2.2.2.1 f hf).2 c).1] at z
      exact absurd z (by decide)
  · intro z
    exact (hT.2.2.2.2.1 f hf).1 z
theorem y_knownA (hT : yTk S0 n tk par mn) (h : yAt S0 S 0 fp p ws ms td hs) (hp : p ≤ n)
    (he : ∀ v q S' x, cKnown n tk par p = .error (v, q) → v ≠ 0 → q = p → yAt S0 S' v (nI q) p ws ms td hs → P (some (.int x)) S')
    (ho : ∀ S', cKnown n tk par p = .ok (p + 1) → yAt S0 S' 0 fp (p + 1) ws ms td hs → P (some (.int (tk p))) S') : mv_big layY sysY (d + 3) 6 [.ref 0] S P := by
  have hn := hT.2.1
  have num : ∀ Q : Option Value → mv_S → Prop, (∀ x S', P (some (.int x)) S' → Q (some (.int x)) S') → (p < n → 0 ≤ tk p ∧ tk p < 8 → cHasF par (tk p)) → mv_big layY sysY (d + 2) 5 [.ref 0, .int 8] S Q := by
    intro Q hQ hk
    refine y_numberA (m := 8) hT h hp (by decide) (by decide) (fun v q S' e e1 e2 h' => hQ _ _ (he v q S' _ ?_ e1 e2 h')) (fun S' e h' => hQ _ _ (ho S' ?_ h'))
    · unfold cKnown
      unfold cBare at e
      split at e
      · rename_i c
        split at e
        · cases e
        · rename_i c2
          rw [if_neg (fun z => c2 ⟨z.1, z.2.1⟩), if_pos c, if_neg (show ¬ (0 ≤ tk p ∧ tk p < 8) from c2)]; exact e
      · rename_i c
        have : tk p = -1 := hT.2.2.2.1 p (by omega)
        rw [if_neg (fun z => by have := z.1; rw [hT.2.2.2.1 p (by omega)] at this; exact absurd this (by decide)), if_neg c]; exact e
    · have := cBare_ok e
      unfold cKnown
      rw [if_pos (hk this.2.1 this.2.2)]
  refine ⟨80, ?_⟩
  refine y_tokenA hT h (by omega) ?_
  have f0 : S.1 0 3 = 0 := h.1
  refine ⟨fun c => ?_, fun c => ?_⟩
  · have c : S.1 0 1 ≤ S.1 0 2 := c
    rw [h.2.2.1, yTk_n hT h, nI_leI (by omega) (by omega)] at c
    exact ⟨fun z => absurd f0 z, fun _ => num _ (fun _ _ z => z) (fun z => by omega)⟩
  · have c : ¬ S.1 0 1 ≤ S.1 0 2 := c
    rw [h.2.2.1, yTk_n hT h, nI_leI (by omega) (by omega)] at c
    refine y_in (fun c2 => ?_) (fun c2 => ?_)
    · refine ⟨fun _ => ?_, fun z => absurd rfl z⟩
      refine ⟨fun z => absurd f0 z, fun _ => num _ (fun _ _ z => z) (fun _ z => ?_)⟩
      exact absurd ⟨z.1, (lePred (k := 8) (by decide) (by decide)).mpr z.2⟩ c2
    · refine ⟨fun z => absurd (show (1 : Int32) = 0 from z) (by decide), fun _ => ?_⟩
      have c3 : tk p < 8 := (lePred (k := 8) (by decide) (by decide)).mp c2.2
      obtain ⟨f, hf, e⟩ := nI_of (Int32.not_lt.mpr c2.1)
      rw [e] at c3
      have hf8 : f < 8 := (nI_ltI (b := 8) hf (by decide)).mp c3
      have ef : (tk p).toNatClampNeg = f := by rw [e, nI_clamp hf]
      refine ⟨by rw [e]; exact vp_in_nI hf8 (by decide), fun c4 => ?_, fun c4 => ?_⟩
      · have c4 : ¬ S.2.1 4 (tk p).toNatClampNeg = 0 := c4
        rw [ef, yTk_isF hT h hf8] at c4
        exact ⟨fun z => absurd f0 z, fun _ => num _ (fun _ _ z => z) (fun _ z => ⟨z.1, z.2, by rw [ef]; exact c4⟩)⟩
      · have c4 : S.2.1 4 (tk p).toNatClampNeg = 0 := c4
        rw [ef, yTk_isF hT h hf8] at c4
        refine y_wrongA (v := -14) h (fun S' h' => ?_)
        refine ⟨fun _ => he (-14) p S' _ ?_ (by decide) rfl h', fun z => ?_⟩
        · unfold cKnown
          rw [if_neg (fun z => z.2.2 (by rw [ef]; exact c4)), if_pos (by omega), if_pos ⟨c2.1, by rw [e]; exact c3⟩]
        · have z : S'.1 0 3 = 0 := z
          rw [h'.1] at z
          exact absurd z (by decide)
theorem y_isDeepA {k : Nat} (h : yAt S0 S 0 fp p ws ms td hs) (hk : k < 2 ^ 31) (he : ∀ S', 16 ≤ k → yAt S0 S' (-15) (nI p) p ws ms td hs → P (some (.int 1)) S') (ho : k < 16 → P (some (.int 0)) S) : mv_big layY sysY (d + 2) 16 [.ref 0, .int (nI k)] S P := by
  refine ⟨40, ?_⟩
  refine ⟨fun c => ?_, fun c => ?_⟩
  · have c : nI k < nI 16 := c
    rw [nI_ltI hk (by decide)] at c
    exact ⟨fun _ => ⟨Or.inl rfl, ho c⟩, fun z => absurd h.1 z⟩
  · have c : ¬ nI k < nI 16 := c
    rw [nI_ltI hk (by decide)] at c
    refine y_wrongA (v := -15) h (fun S' h' => ?_)
    refine ⟨fun z => ?_, fun _ => ⟨Or.inr rfl, he S' (by omega) h'⟩⟩
    have z : S'.1 0 3 = 0 := z
    rw [h'.1] at z
    exact absurd z (by decide)
end YA
end
section
/-! THE REFERENCE READS: its reading methods by lists -/
section YA
variable {d : Nat} {P : Option Value → mv_S → Prop} {S0 S : mv_S} {w fp : Int32} {n p : Nat} {tk par : Nat → Int32} {mn : Bool} {ws ms : List Int32} {td : List (Int32 × Int32 × Int32)} {hs : List (Option (Nat × Nat))}
def yEiT (t k : Int32) (x : Nat) (td : List (Int32 × Int32 × Int32)) : List (Int32 × Int32 × Int32) := (2, 0, k) :: (4, (if t = 30 then 13 else 14), 0) :: (5, nI x, 0) :: (2, 0, k) :: (4, 11, 0) :: (4, 11, 0) :: (4, 12, 0) :: (5, nI (x + 1), 0) :: (6, nI x, 0) :: (4, 1, 0) :: (4, (if t = 30 then 0 else 1), 0) :: (6, nI (x + 1), 0) :: td
theorem y_readEither {t k : Int32} (h : yAt S0 S w fp p ws ms td hs) (hb : td.length + 12 ≤ 4000) (kk : ∀ S', yAt S0 S' w fp p ws ms (yEiT t k hs.length td) (hs ++ [none] ++ [none]) → P none S') : mv_big layY sysY (d + 2) 22 [.ref 0, .int t, .int k] S P := by
  refine ⟨160, ?_⟩
  refine y_newHoleA h (fun S1 h1 => ?_)
  refine y_newHoleA h1 (fun S2 h2 => ?_)
  have el : (hs ++ [none]).length = hs.length + 1 := by simp
  rw [el]
  refine y_laterA (a := 6) (b := nI (hs.length + 1)) (c := 0) h2 (by omega) (fun S3 h3 => ?_)
  by_cases c : t = 30
  · refine ⟨fun z => absurd c z, fun _ => ?_⟩
    refine y_laterA (a := 4) (b := 0) (c := 0) h3 (by simp; omega) (fun S4 h4 => ?_)
    refine y_laterA (a := 4) (b := 1) (c := 0) h4 (by simp; omega) (fun S5 h5 => ?_)
    refine y_laterA (a := 6) (b := nI hs.length) (c := 0) h5 (by simp; omega) (fun S6 h6 => ?_)
    refine y_laterA (a := 5) (b := nI (hs.length + 1)) (c := 0) h6 (by simp; omega) (fun S7 h7 => ?_)
    refine y_laterA (a := 4) (b := 12) (c := 0) h7 (by simp; omega) (fun S8 h8 => ?_)
    refine y_laterA (a := 4) (b := 11) (c := 0) h8 (by simp; omega) (fun S9 h9 => ?_)
    refine y_laterA (a := 4) (b := 11) (c := 0) h9 (by simp; omega) (fun S10 h10 => ?_)
    refine y_laterA (a := 2) (b := 0) (c := k) h10 (by simp; omega) (fun S11 h11 => ?_)
    refine y_laterA (a := 5) (b := nI hs.length) (c := 0) h11 (by simp; omega) (fun S12 h12 => ?_)
    refine ⟨fun z => absurd c z, fun _ => ?_⟩
    refine y_laterA (a := 4) (b := 13) (c := 0) h12 (by simp; omega) (fun S13 h13 => ?_)
    refine y_laterA (a := 2) (b := 0) (c := k) h13 (by simp; omega) (fun S14 h14 => kk S14 ?_)
    unfold yEiT
    rw [if_pos c, if_pos c]
    exact h14
  · refine ⟨fun _ => ?_, fun z => absurd z c⟩
    refine y_laterA (a := 4) (b := 1) (c := 0) h3 (by simp; omega) (fun S4 h4 => ?_)
    refine y_laterA (a := 4) (b := 1) (c := 0) h4 (by simp; omega) (fun S5 h5 => ?_)
    refine y_laterA (a := 6) (b := nI hs.length) (c := 0) h5 (by simp; omega) (fun S6 h6 => ?_)
    refine y_laterA (a := 5) (b := nI (hs.length + 1)) (c := 0) h6 (by simp; omega) (fun S7 h7 => ?_)
    refine y_laterA (a := 4) (b := 12) (c := 0) h7 (by simp; omega) (fun S8 h8 => ?_)
    refine y_laterA (a := 4) (b := 11) (c := 0) h8 (by simp; omega) (fun S9 h9 => ?_)
    refine y_laterA (a := 4) (b := 11) (c := 0) h9 (by simp; omega) (fun S10 h10 => ?_)
    refine y_laterA (a := 2) (b := 0) (c := k) h10 (by simp; omega) (fun S11 h11 => ?_)
    refine y_laterA (a := 5) (b := nI hs.length) (c := 0) h11 (by simp; omega) (fun S12 h12 => ?_)
    refine ⟨fun _ => ?_, fun z => absurd z c⟩
    refine y_laterA (a := 4) (b := 14) (c := 0) h12 (by simp; omega) (fun S13 h13 => ?_)
    refine y_laterA (a := 2) (b := 0) (c := k) h13 (by simp; omega) (fun S14 h14 => kk S14 ?_)
    unfold yEiT
    rw [if_neg c, if_neg c]
    exact h14
theorem y_readCall {k : Int32} (hT : yTk S0 n tk par mn) (h : yAt S0 S 0 fp p ws ms td hs) (hp : p ≤ n) (hb : td.length + 5 ≤ 4000)
    (he : ∀ v q S', cKnown n tk par p = .error (v, q) → v ≠ 0 → yAt S0 S' v (nI q) p ws ms td hs → P none S')
    (ho : ∀ S', cKnown n tk par p = .ok (p + 1) → yAt S0 S' 0 fp (p + 1) ws ms (List.replicate (cPar par (tk p)).toNatClampNeg (2, 0, k) ++ (4, 16, 0) :: (4, tk p, 0) :: td) hs → P none S') : mv_big layY sysY (d + 4) 20 [.ref 0, .int k] S P := by
  have hn := hT.2.1
  by_cases hk : cKnown n tk par p = .ok (p + 1)
  · have hk2 := cKnown_ok hT.2.2.2.1 hk
    obtain ⟨f, hf, e⟩ := nI_of (Int32.not_lt.mpr hk2.2.2.1)
    have hf8 : f < 8 := by
      have := hk2.2.2.2.1
      rw [e] at this
      exact (nI_ltI (b := 8) hf (by decide)).mp this
    have ef : (tk p).toNatClampNeg = f := by rw [e, nI_clamp hf]
    have hpf : par f ≠ -1 := by
      have := hk2.2.2.2.2
      rw [ef] at this; exact this
    obtain ⟨q1, q2, q3, q4⟩ := (hT.2.2.2.2.1 f hf8).2 hpf
    obtain ⟨K, hK, eK⟩ := nI_of (Int32.not_lt.mpr q3)
    have hK3 : K ≤ 3 := by
      rw [eK] at q4
      exact (nI_leI (b := 3) hK (by decide)).mp q4
    have ec : cPar par (tk p) = nI K := by
      unfold cPar
      rw [if_pos hk2.2.2, ef, eK]
    rw [ec, nI_clamp hK] at ho
    have loop := mv_loop (T := tT11) (nL := 4) (z := none) (il := mX11_readCall.2.2.2.2.2.2.2) (lay := layY) (sys := sysY) (d := d + 3) (P := P) (pc := 30) 40 (fun k' lv st S' => ∃ i, i + k' = K ∧ lv = [(3, .int (nI i)), (2, .int (tk p)), (0, .ref 0), (1, .int k)] ∧ st = [] ∧ yAt S0 S' 0 fp (p + 1) ws ms (List.replicate i (2, 0, k) ++ (4, 16, 0) :: (4, tk p, 0) :: td) hs) (by
        rintro m lv st S' ⟨i, hk0, rfl, rfl, g⟩
        obtain rfl : i = K := hk0
        have e5 : S'.2.1 5 (tk p).toNatClampNeg = nI i := by rw [ef, g.2.2.2.2.2.2.2.2.1 5 f (by decide) (by decide) (by decide), q2, eK]
        refine ⟨by rw [e]; exact vp_in_nI hf8 (by decide), fun _ => ho S' hk g, fun z => ?_⟩
        exact absurd (show S'.2.1 5 (tk p).toNatClampNeg ≤ nI i by rw [e5]; exact Int32.le_refl _) z) (by
        rintro k' m lv st S' ⟨i, hk0, rfl, rfl, g⟩ ih
        have e5 : S'.2.1 5 (tk p).toNatClampNeg = nI K := by rw [ef, g.2.2.2.2.2.2.2.2.1 5 f (by decide) (by decide) (by decide), q2, eK]
        refine ⟨by rw [e]; exact vp_in_nI hf8 (by decide), fun z => ?_, fun _ => ?_⟩
        · have z : S'.2.1 5 (tk p).toNatClampNeg ≤ nI i := z
          rw [e5] at z
          exact absurd ((nI_leI (by omega) (by omega)).mp z) (by omega)
        · refine y_laterA (a := 2) (b := 0) (c := k) g (by simp; omega) (fun S1 g1 => ?_)
          exact ws_iinc (y := nI (i + 1)) rfl rfl rfl (nI_succ i).symm rfl rfl (ws_goto (t := 30) rfl (by decide) (ih _ [(3, .int (nI (i + 1))), (2, .int (tk p)), (0, .ref 0), (1, .int k)] [] S1 (by omega) ⟨i + 1, by omega, rfl, rfl, g1⟩)))
    refine ⟨40 * (K + 1) + 40, ?_⟩
    refine y_knownA hT h hp (fun v q S' x e1 _ _ _ => ?_) (fun S1 _ h1 => ?_)
    · rw [hk] at e1; cases e1
    · refine ⟨fun _ => ?_, fun z => absurd h1.1 z⟩
      refine y_laterA (a := 4) (b := tk p) (c := 0) h1 (by omega) (fun S2 h2 => ?_)
      refine y_laterA (a := 4) (b := 16) (c := 0) h2 (by simp; omega) (fun S3 h3 => ?_)
      exact ws_iconst (x := nI 0) rfl rfl rfl (ws_istore_n rfl rfl rfl rfl (loop K _ [(3, .int (nI 0)), (2, .int (tk p)), (0, .ref 0), (1, .int k)] [] S3 (by omega) ⟨0, by omega, rfl, rfl, h3⟩))
  · refine ⟨40, ?_⟩
    refine y_knownA hT h hp (fun v q S1 x e1 e2 e3 h1 => ?_) (fun S1 e1 _ => absurd e1 hk)
    refine ⟨fun z => ?_, fun _ => he v q S1 e1 e2 h1⟩
    have z : S1.1 0 3 = 0 := z
    rw [h1.1] at z
    exact absurd z e2
end YA
end
section
/-! THE REFERENCE READS: an expression, a map -/
theorem tk_rng {t : Int32} {a b : Nat} (ha : a < 2 ^ 31) (hb : b < 2 ^ 31) (h1 : nI a ≤ t) (h2 : t ≤ nI b) : ∃ j, a ≤ j ∧ j ≤ b ∧ t = nI j := by
  obtain ⟨j, hj, rfl⟩ := nI_of (x := t) (Int32.not_lt.mpr (Int32.le_trans (nI_pos' ha) h1))
  exact ⟨j, (nI_leI ha hj).mp h1, (nI_leI hj hb).mp h2, rfl⟩
theorem tkA_22 {t : Int32} (h1 : 22 ≤ t) (h2 : t ≤ 28) : tkWord t = t - 18 ∧ tkNums t = 2 ∧ tkMaps t = 0 ∧ tkArg t = 0 := by
  obtain ⟨j, a, b, rfl⟩ := tk_rng (a := 22) (b := 28) (by decide) (by decide) h1 h2
  have : j = 22 ∨ j = 23 ∨ j = 24 ∨ j = 25 ∨ j = 26 ∨ j = 27 ∨ j = 28 := by omega
  rcases this with rfl | rfl | rfl | rfl | rfl | rfl | rfl <;> decide
theorem tkA_32 {t : Int32} (h1 : 32 ≤ t) (h2 : t ≤ 35) : tkWord t = t - 7 ∧ tkNums t = (if t = 34 then 0 else if t = 35 then 2 else 1) ∧ tkMaps t = 1 ∧ tkArg t = 0 := by
  obtain ⟨j, a, b, rfl⟩ := tk_rng (a := 32) (b := 35) (by decide) (by decide) h1 h2
  have : j = 32 ∨ j = 33 ∨ j = 34 ∨ j = 35 := by omega
  rcases this with rfl | rfl | rfl | rfl <;> decide
theorem tkA_42 {t : Int32} (h1 : 42 ≤ t) (h2 : t ≤ 44) : tkWord t = t - 20 ∧ tkNums t = (if t = 42 then 2 else if t = 43 then 1 else 0) ∧ tkMaps t = (if t = 44 then 2 else 1) ∧ tkArg t = 0 := by
  obtain ⟨j, a, b, rfl⟩ := tk_rng (a := 42) (b := 44) (by decide) (by decide) h1 h2
  have : j = 42 ∨ j = 43 ∨ j = 44 := by omega
  rcases this with rfl | rfl | rfl <;> decide
/-- the parts of a plain token, to do -/
def yPa (t : Int32) (k : Int32) (td : List (Int32 × Int32 × Int32)) : List (Int32 × Int32 × Int32) := List.replicate (tkMaps t).toNatClampNeg (3, 0, k) ++ (List.replicate (tkNums t).toNatClampNeg (2, 0, k) ++ (4, tkWord t, 0) :: td)
section YA
variable {d : Nat} {P : Option Value → mv_S → Prop} {S0 S : mv_S} {w fp : Int32} {n p : Nat} {tk par : Nat → Int32} {mn : Bool} {ws ms : List Int32} {td : List (Int32 × Int32 × Int32)} {hs : List (Option (Nat × Nat))}
set_option maxRecDepth 4000 in
theorem y_readExpression {k : Nat} (hT : yTk S0 n tk par mn) (h : yAt S0 S 0 fp p ws ms td hs) (hp : p ≤ n) (hk : k ≤ 16) (b1 : ws.length + 2 ≤ 6000) (b2 : ms.length + 3 ≤ 8000) (b3 : td.length + 12 ≤ 4000)
    (e1 : ¬ cKind false (tk p) → ∀ S', yAt S0 S' (-11) (nI p) p ws ms td hs → P none S')
    (e2 : cKind false (tk p) → 16 ≤ k → ∀ S', yAt S0 S' (-15) (nI p) p ws ms td hs → P none S')
    (o20 : k < 16 → tk p = 20 → p + 1 < n → ∀ S', yAt S0 S' 0 fp (p + 2) (ws ++ [1] ++ [tk (p + 1)]) (ms ++ [30] ++ [1] ++ [tk (p + 1)]) td hs → P none S')
    (e20 : k < 16 → tk p = 20 → ¬ p + 1 < n → ∀ S', yAt S0 S' (-11) (nI (p + 1)) (p + 1) ws (ms ++ [30]) td hs → P none S')
    (o21 : k < 16 → tk p = 21 → cBare n tk 14 (p + 1) = .ok (p + 2) → ∀ S', yAt S0 S' 0 fp (p + 2) (ws ++ [2] ++ [tk (p + 1)]) (ms ++ [30] ++ [2] ++ [tk (p + 1)]) td hs → P none S')
    (e21 : k < 16 → tk p = 21 → ∀ v q, cBare n tk 14 (p + 1) = .error (v, q) → v ≠ 0 → ∀ S' ws' ms', yAt S0 S' v (nI q) (p + 1) ws' ms' td hs → P none S')
    (oP : k < 16 → (22 ≤ tk p ∧ tk p ≤ 29 ∨ 32 ≤ tk p ∧ tk p ≤ 35) → ∀ S', yAt S0 S' 0 fp (p + 1) ws (ms ++ [30]) (yPa (tk p) (nI k + 1) td) hs → P none S')
    (o30 : k < 16 → (tk p = 30 ∨ tk p = 31) → ∀ S', yAt S0 S' 0 fp (p + 1) ws (ms ++ [30]) (yEiT (tk p) (nI k + 1) hs.length td) (hs ++ [none] ++ [none]) → P none S')
    (e36 : k < 16 → tk p = 36 → ∀ v q, cKnown n tk par (p + 1) = .error (v, q) → v ≠ 0 → ∀ S', yAt S0 S' v (nI q) (p + 1) ws (ms ++ [30]) td hs → P none S')
    (o36 : k < 16 → tk p = 36 → cKnown n tk par (p + 1) = .ok (p + 2) → ∀ S', yAt S0 S' 0 fp (p + 2) ws (ms ++ [30]) (List.replicate (cPar par (tk (p + 1))).toNatClampNeg (2, 0, nI k + 1) ++ (4, 16, 0) :: (4, tk (p + 1), 0) :: td) hs → P none S') : mv_big layY sysY (d + 5) 21 [.ref 0, .int (nI k)] S P := by
  have hn := hT.2.1
  refine ⟨200, ?_⟩
  refine y_tokenA hT h (by omega) ?_
  refine ⟨fun c => ?_, fun c => ?_⟩
  · have c : S.1 0 2 = S.1 0 1 := c
    rw [h.2.2.1, yTk_n hT h, nI_eq (by omega) (by omega)] at c
    refine y_wrongA (v := -11) h (fun S' h' => e1 (fun z => ?_) S' h')
    have := cKind_in hT.2.2.2.1 z
    omega
  have c : ¬ S.1 0 2 = S.1 0 1 := c
  rw [h.2.2.1, yTk_n hT h, nI_eq (by omega) (by omega)] at c
  have hlt : p < n := by omega
  refine y_in (fun c2 => ?_) (fun c2 => ?_)
  · have c2 : ¬ cKind false (tk p) := c2
    refine ⟨fun z => absurd rfl z, fun _ => ?_⟩
    exact y_wrongA (v := -11) h (fun S' h' => e1 c2 S' h')
  have c2 : cKind false (tk p) := c2
  have c20 : 20 ≤ tk p := c2.1
  have c36 : tk p ≤ 36 := c2.2
  refine ⟨fun _ => ?_, fun z => absurd (show (1 : Int32) = 0 from z) (by decide)⟩
  refine y_isDeepA h (by omega) (fun S' g h' => ?_) (fun hk16 => ?_)
  · exact ⟨fun z => absurd (show (1 : Int32) = 0 from z) (by decide), fun _ => e2 c2 g S' h'⟩
  refine ⟨fun _ => ?_, fun z => absurd rfl z⟩
  have h1 := yAt_next h
  refine y_markA h1 (by omega) (fun S2 h2 => ?_)
  have b2' : (ms ++ [(30 : Int32)]).length = ms.length + 1 := by simp
  refine ⟨fun n20 => ?_, fun t20 => ?_⟩
  · have n20 : ¬ tk p = 20 := n20
    refine ⟨fun n21 => ?_, fun t21 => ?_⟩
    · have n21 : ¬ tk p = 21 := n21
      have g22 : 22 ≤ tk p := by
        obtain ⟨j, a, b, e⟩ := tk_rng (a := 20) (b := 36) (by decide) (by decide) c20 c36
        have : j ≠ 20 := fun z => n20 (by rw [e, z]; rfl)
        have : j ≠ 21 := fun z => n21 (by rw [e, z]; rfl)
        rw [e]; exact nI_le (a := 22) (by omega) (by omega)
      refine ⟨fun g30 => ?_, fun l30 => ?_⟩
      · have g30 : 30 ≤ tk p := g30
        refine ⟨fun g32 => ?_, fun l32 => ?_⟩
        · have g32 : 32 ≤ tk p := g32
          refine ⟨fun g36 => ?_, fun l36 => ?_⟩
          · have g36 : 36 ≤ tk p := g36
            have t36 : tk p = 36 := Int32.le_antisymm c36 g36
            refine y_readCall hT h2 (by omega) (by omega) (fun v q S3 a1 a2 h3 => e36 hk16 t36 v q a1 a2 S3 h3) (fun S3 a1 h3 => o36 hk16 t36 a1 S3 h3)
          · have l36 : ¬ 36 ≤ tk p := l36
            have l35 : tk p ≤ 35 := by
              obtain ⟨j, a, b, e⟩ := tk_rng (a := 32) (b := 36) (by decide) (by decide) g32 c36
              rw [e] at l36 ⊢
              have : ¬ 36 ≤ j := fun z => l36 (nI_le (a := 36) z (by omega))
              exact nI_le (b := 35) (by omega) (by decide)
            have ta := tkA_32 g32 l35
            refine y_laterA (a := 4) (b := tk p - 7) (c := 0) h2 (by omega) (fun S3 h3 => ?_)
            have fin : ∀ S4, yAt S0 S4 0 fp (p + 1) ws (ms ++ [30]) ((3, 0, nI k + 1) :: (List.replicate (tkNums (tk p)).toNatClampNeg (2, 0, nI k + 1) ++ (4, tk p - 7, 0) :: td)) hs → P none S4 := by
              intro S4 h4
              refine oP hk16 (Or.inr ⟨g32, l35⟩) S4 ?_
              unfold yPa
              rw [ta.1, ta.2.2.1]
              exact h4
            rw [ta.2.1] at fin
            by_cases t34 : tk p = 34
            · rw [if_pos t34] at fin
              refine ⟨fun z => absurd t34 z, fun _ => ⟨fun _ => ?_, fun z => absurd (show (0 : Int32) ≤ 0 by decide) z⟩⟩
              exact y_laterA (a := 3) (b := 0) (c := nI k + 1) h3 (by simp; omega) (fun S4 h4 => fin S4 h4)
            · rw [if_neg t34] at fin
              by_cases t35 : tk p = 35
              · rw [if_pos t35] at fin
                refine ⟨fun _ => ⟨fun z => absurd t35 z, fun _ => ⟨fun z => absurd (show (2 : Int32) ≤ 0 from z) (by decide), fun _ => ?_⟩⟩, fun z => absurd z t34⟩
                refine y_laterA (a := 2) (b := 0) (c := nI k + 1) h3 (by simp; omega) (fun S4 h4 => ?_)
                refine ⟨fun _ => ⟨fun z => absurd t35 z, fun _ => ⟨fun z => absurd (show (2 : Int32) ≤ 1 from z) (by decide), fun _ => ?_⟩⟩, fun z => absurd z t34⟩
                refine y_laterA (a := 2) (b := 0) (c := nI k + 1) h4 (by simp; omega) (fun S5 h5 => ?_)
                refine ⟨fun _ => ⟨fun z => absurd t35 z, fun _ => ⟨fun _ => ?_, fun z => absurd (show (2 : Int32) ≤ 2 by decide) z⟩⟩, fun z => absurd z t34⟩
                exact y_laterA (a := 3) (b := 0) (c := nI k + 1) h5 (by simp; omega) (fun S6 h6 => fin S6 h6)
              · rw [if_neg t35] at fin
                refine ⟨fun _ => ⟨fun _ => ⟨fun z => absurd (show (1 : Int32) ≤ 0 from z) (by decide), fun _ => ?_⟩, fun z => absurd z t35⟩, fun z => absurd z t34⟩
                refine y_laterA (a := 2) (b := 0) (c := nI k + 1) h3 (by simp; omega) (fun S4 h4 => ?_)
                refine ⟨fun _ => ⟨fun _ => ⟨fun _ => ?_, fun z => absurd (show (1 : Int32) ≤ 1 by decide) z⟩, fun z => absurd z t35⟩, fun z => absurd z t34⟩
                exact y_laterA (a := 3) (b := 0) (c := nI k + 1) h4 (by simp; omega) (fun S5 h5 => fin S5 h5)
        · have l32 : ¬ 32 ≤ tk p := l32
          have t30 : tk p = 30 ∨ tk p = 31 := by
            obtain ⟨j, a, b, e⟩ := tk_rng (a := 30) (b := 36) (by decide) (by decide) g30 c36
            rw [e] at l32 ⊢
            have : ¬ 32 ≤ j := fun z => l32 (nI_le (a := 32) z (by omega))
            have : j = 30 ∨ j = 31 := by omega
            rcases this with rfl | rfl
            · exact Or.inl rfl
            · exact Or.inr rfl
          exact y_readEither h2 (by omega) (fun S3 h3 => o30 hk16 t30 S3 h3)
      · have l30 : ¬ 30 ≤ tk p := l30
        refine y_laterA (a := 4) (b := tk p - 18) (c := 0) h2 (by omega) (fun S3 h3 => ?_)
        refine y_laterA (a := 2) (b := 0) (c := nI k + 1) h3 (by simp; omega) (fun S4 h4 => ?_)
        refine ⟨fun g29 => ?_, fun l29 => ?_⟩
        · have g29 : 29 ≤ tk p := g29
          have t29 : tk p = 29 := by
            obtain ⟨j, a, b, e⟩ := tk_rng (a := 29) (b := 36) (by decide) (by decide) g29 c36
            rw [e] at l30 ⊢
            have : ¬ 30 ≤ j := fun z => l30 (nI_le (a := 30) z (by omega))
            have : j = 29 := by omega
            rw [this]; rfl
          refine oP hk16 (Or.inl ⟨g22, by rw [t29]; decide⟩) S4 ?_
          rw [t29] at h4 ⊢
          exact h4
        · have l29 : ¬ 29 ≤ tk p := l29
          have l28 : tk p ≤ 28 := by
            obtain ⟨j, a, b, e⟩ := tk_rng (a := 22) (b := 36) (by decide) (by decide) g22 c36
            rw [e] at l29 ⊢
            have : ¬ 29 ≤ j := fun z => l29 (nI_le (a := 29) z (by omega))
            exact nI_le (b := 28) (by omega) (by decide)
          have ta := tkA_22 g22 l28
          refine y_laterA (a := 2) (b := 0) (c := nI k + 1) h4 (by simp; omega) (fun S5 h5 => oP hk16 (Or.inl ⟨g22, Int32.le_trans l28 (by decide)⟩) S5 ?_)
          unfold yPa
          rw [ta.1, ta.2.1, ta.2.2.1]
          exact h5
    · have t21 : tk p = 21 := t21
      refine y_numberA (m := 14) hT h2 (by omega) (by decide) (by decide) (fun v q S3 a1 a2 a3 h3 => ?_) (fun S3 a1 h3 => ?_)
      · refine y_layA (x := 2) h3 (by omega) (by omega) (fun S4 h4 => ?_)
        exact y_layA (x := tk (p + 1)) h4 (by simp; omega) (by simp; omega) (fun S5 h5 => e21 hk16 t21 v q a1 a2 S5 _ _ h5)
      · refine y_layA (x := 2) h3 (by omega) (by omega) (fun S4 h4 => ?_)
        exact y_layA (x := tk (p + 1)) h4 (by simp; omega) (by simp; omega) (fun S5 h5 => o21 hk16 t21 a1 S5 h5)
  · have t20 : tk p = 20 := t20
    refine ⟨fun z => ?_, fun z => ?_⟩
    · have z : ¬ S2.1 0 2 = S2.1 0 1 := z
      rw [h2.2.2.1, yTk_n hT h2, nI_eq (by omega) (by omega)] at z
      have hlt1 : p + 1 < n := by omega
      refine y_layA (x := 1) h2 (by omega) (by omega) (fun S3 h3 => ?_)
      have e3 : (S3.1 0 2).toNatClampNeg = p + 1 := by rw [h3.2.2.1, nI_clamp (by omega)]
      have e4 : S3.2.1 1 (S3.1 0 2).toNatClampNeg = tk (p + 1) := by
        rw [e3, h3.2.2.2.2.2.2.2.2.1 1 (p + 1) (by decide) (by decide) (by decide)]
        exact hT.2.2.1 (p + 1) hlt1
      refine ⟨?_, ?_⟩
      · show vp_in (S3.1 0 2) 700
        rw [h3.2.2.1]; exact vp_in_nI (by omega) (by decide)
      · refine y_layA (x := S3.2.1 1 (S3.1 0 2).toNatClampNeg) h3 (by simp; omega) (by simp; omega) (fun S4 h4 => ?_)
        rw [e4] at h4
        exact o20 hk16 t20 hlt1 _ (yAt_next h4)
    · have z : S2.1 0 2 = S2.1 0 1 := z
      rw [h2.2.2.1, yTk_n hT h2, nI_eq (by omega) (by omega)] at z
      exact y_wrongA (v := -11) h2 (fun S3 h3 => e20 hk16 t20 (by omega) S3 h3)
end YA
end
section
/-! THE REFERENCE READS: a map, EACH, a statement -/
theorem set2 {α : Type} (a : List α) (x y u v : α) : ((a ++ [x] ++ [y]).set a.length u).set (a.length + 1) v = a ++ u :: v :: [] := by
  induction a with
  | nil => rfl
  | cons z a ih => simpa using ih
section YA
variable {d : Nat} {P : Option Value → mv_S → Prop} {S0 S : mv_S} {w fp : Int32} {n p : Nat} {tk par : Nat → Int32} {mn : Bool} {ws ms : List Int32} {td : List (Int32 × Int32 × Int32)} {hs : List (Option (Nat × Nat))}
set_option maxRecDepth 4000 in
theorem y_readMap {k : Nat} (hT : yTk S0 n tk par mn) (h : yAt S0 S 0 fp p ws ms td hs) (hp : p ≤ n) (hk : k ≤ 16) (b1 : ws.length + 2 ≤ 6000) (b2 : ms.length + 3 ≤ 8000) (b3 : td.length + 12 ≤ 4000)
    (e1 : ¬ cKind true (tk p) → ∀ S', yAt S0 S' (-11) (nI p) p ws ms td hs → P none S')
    (e2 : cKind true (tk p) → 16 ≤ k → ∀ S', yAt S0 S' (-15) (nI p) p ws ms td hs → P none S')
    (o40 : k < 16 → tk p = 40 → cBare n tk 6 (p + 1) = .ok (p + 2) → ∀ S', yAt S0 S' 0 fp (p + 2) (ws ++ [19] ++ [tk (p + 1)]) (ms ++ [30] ++ [19] ++ [tk (p + 1)]) td hs → P none S')
    (e40 : k < 16 → tk p = 40 → ∀ v q, cBare n tk 6 (p + 1) = .error (v, q) → v ≠ 0 → ∀ S' ws' ms', yAt S0 S' v (nI q) (p + 1) ws' ms' td hs → P none S')
    (o41 : k < 16 → tk p = 41 → ∀ S', yAt S0 S' 0 fp (p + 1) (ws ++ [21]) (ms ++ [30] ++ [21]) td hs → P none S')
    (oP : k < 16 → (42 ≤ tk p ∧ tk p ≤ 44) → ∀ S', yAt S0 S' 0 fp (p + 1) ws (ms ++ [30]) (yPa (tk p) (nI k + 1) td) hs → P none S') : mv_big layY sysY (d + 5) 23 [.ref 0, .int (nI k)] S P := by
  have hn := hT.2.1
  refine ⟨200, ?_⟩
  refine y_tokenA hT h (by omega) ?_
  refine ⟨fun c => ?_, fun c => ?_⟩
  · have c : S.1 0 2 = S.1 0 1 := c
    rw [h.2.2.1, yTk_n hT h, nI_eq (by omega) (by omega)] at c
    refine y_wrongA (v := -11) h (fun S' h' => e1 (fun z => ?_) S' h')
    have := cKind_in hT.2.2.2.1 z
    omega
  have c : ¬ S.1 0 2 = S.1 0 1 := c
  rw [h.2.2.1, yTk_n hT h, nI_eq (by omega) (by omega)] at c
  have hlt : p < n := by omega
  refine y_in (fun c2 => ?_) (fun c2 => ?_)
  · have c2 : ¬ cKind true (tk p) := c2
    refine ⟨fun z => absurd rfl z, fun _ => ?_⟩
    exact y_wrongA (v := -11) h (fun S' h' => e1 c2 S' h')
  have c2 : cKind true (tk p) := c2
  have c40 : 40 ≤ tk p := c2.1
  have c44 : tk p ≤ 44 := c2.2
  refine ⟨fun _ => ?_, fun z => absurd (show (1 : Int32) = 0 from z) (by decide)⟩
  refine y_isDeepA h (by omega) (fun S' g h' => ?_) (fun hk16 => ?_)
  · exact ⟨fun z => absurd (show (1 : Int32) = 0 from z) (by decide), fun _ => e2 c2 g S' h'⟩
  refine ⟨fun _ => ?_, fun z => absurd rfl z⟩
  have h1 := yAt_next h
  refine y_markA h1 (by omega) (fun S2 h2 => ?_)
  have b2' : (ms ++ [(30 : Int32)]).length = ms.length + 1 := by simp
  refine ⟨fun n40 => ?_, fun t40 => ?_⟩
  · have n40 : ¬ tk p = 40 := n40
    refine ⟨fun n41 => ?_, fun t41 => ?_⟩
    · have n41 : ¬ tk p = 41 := n41
      obtain ⟨j, ja, jb, e⟩ := tk_rng (a := 40) (b := 44) (by decide) (by decide) c40 c44
      have hj : j = 42 ∨ j = 43 ∨ j = 44 := by
        have : j ≠ 40 := fun z => n40 (by rw [e, z]; rfl)
        have : j ≠ 41 := fun z => n41 (by rw [e, z]; rfl)
        omega
      refine y_laterA (a := 4) (b := tk p - 20) (c := 0) h2 (by omega) (fun S3 h3 => ?_)
      rcases hj with rfl | rfl | rfl
      · have e : tk p = 42 := e
        refine ⟨fun _ => ?_, fun z => absurd (e.symm.trans z) (by decide)⟩
        refine ⟨fun z => absurd e z, fun _ => ⟨fun z => absurd (show (2 : Int32) ≤ 0 from z) (by decide), fun _ => ?_⟩⟩
        refine y_laterA (a := 2) (b := 0) (c := nI k + 1) h3 (by simp; omega) (fun S4 h4 => ?_)
        refine ⟨fun z => absurd e z, fun _ => ⟨fun z => absurd (show (2 : Int32) ≤ 1 from z) (by decide), fun _ => ?_⟩⟩
        refine y_laterA (a := 2) (b := 0) (c := nI k + 1) h4 (by simp; omega) (fun S5 h5 => ?_)
        refine ⟨fun z => absurd e z, fun _ => ⟨fun _ => ?_, fun z => absurd (show (2 : Int32) ≤ 2 by decide) z⟩⟩
        refine y_laterA (a := 3) (b := 0) (c := nI k + 1) h5 (by simp; omega) (fun S6 h6 => oP hk16 (by rw [e]; decide) S6 ?_)
        rw [e] at h6 ⊢
        exact h6
      · have e : tk p = 43 := e
        refine ⟨fun _ => ?_, fun z => absurd (e.symm.trans z) (by decide)⟩
        refine ⟨fun _ => ⟨fun z => absurd e z, fun _ => ⟨fun z => absurd (show (1 : Int32) ≤ 0 from z) (by decide), fun _ => ?_⟩⟩, fun z => absurd (e.symm.trans z) (by decide)⟩
        refine y_laterA (a := 2) (b := 0) (c := nI k + 1) h3 (by simp; omega) (fun S4 h4 => ?_)
        refine ⟨fun _ => ⟨fun z => absurd e z, fun _ => ⟨fun _ => ?_, fun z => absurd (show (1 : Int32) ≤ 1 by decide) z⟩⟩, fun z => absurd (e.symm.trans z) (by decide)⟩
        refine y_laterA (a := 3) (b := 0) (c := nI k + 1) h4 (by simp; omega) (fun S6 h6 => oP hk16 (by rw [e]; decide) S6 ?_)
        rw [e] at h6 ⊢
        exact h6
      · have e : tk p = 44 := e
        refine ⟨fun z => absurd e z, fun _ => ?_⟩
        refine y_laterA (a := 3) (b := 0) (c := nI k + 1) h3 (by simp; omega) (fun S4 h4 => ?_)
        refine ⟨fun _ => ⟨fun _ => ⟨fun _ => ?_, fun z => absurd (show (0 : Int32) ≤ 0 by decide) z⟩, fun z => absurd (e.symm.trans z) (by decide)⟩, fun z => absurd (e.symm.trans z) (by decide)⟩
        refine y_laterA (a := 3) (b := 0) (c := nI k + 1) h4 (by simp; omega) (fun S6 h6 => oP hk16 (by rw [e]; decide) S6 ?_)
        rw [e] at h6 ⊢
        exact h6
    · have t41 : tk p = 41 := t41
      exact y_layA (x := 21) h2 (by omega) (by omega) (fun S3 h3 => o41 hk16 t41 S3 h3)
  · have t40 : tk p = 40 := t40
    refine y_numberA (m := 6) hT h2 (by omega) (by decide) (by decide) (fun v q S3 a1 a2 a3 h3 => ?_) (fun S3 a1 h3 => ?_)
    · refine y_layA (x := 19) h3 (by omega) (by omega) (fun S4 h4 => ?_)
      exact y_layA (x := tk (p + 1)) h4 (by simp; omega) (by simp; omega) (fun S5 h5 => e40 hk16 t40 v q a1 a2 S5 _ _ h5)
    · refine y_layA (x := 19) h3 (by omega) (by omega) (fun S4 h4 => ?_)
      exact y_layA (x := tk (p + 1)) h4 (by simp; omega) (by simp; omega) (fun S5 h5 => o40 hk16 t40 a1 S5 h5)
theorem y_readOver {k : Int32} (hT : yTk S0 n tk par mn) (h : yAt S0 S 0 fp p ws ms td hs) (hp : p ≤ n) (b1 : ws.length + 6 ≤ 6000) (b2 : ms.length + 6 ≤ 8000) (b3 : td.length + 12 ≤ 4000) (b4 : hs.length + 2 ≤ 2000)
    (e1 : ∀ v q, cBare n tk 6 p = .error (v, q) → v ≠ 0 → ∀ S', yAt S0 S' v (nI q) p ws ms td hs → P none S')
    (e2 : ∀ v q, cBare n tk 6 p = .ok (p + 1) → cBare n tk 14 (p + 1) = .error (v, q) → v ≠ 0 → ∀ S', yAt S0 S' v (nI q) (p + 1) ws ms td hs → P none S')
    (e3 : ∀ v q, cBare n tk 6 p = .ok (p + 1) → cBare n tk 14 (p + 1) = .ok (p + 2) → cBare n tk 14 (p + 2) = .error (v, q) → v ≠ 0 → ∀ S', yAt S0 S' v (nI q) (p + 2) ws ms td hs → P none S')
    (ho : cBare n tk 6 p = .ok (p + 1) → cBare n tk 14 (p + 1) = .ok (p + 2) → cBare n tk 14 (p + 2) = .ok (p + 3) → ∀ S', yAt S0 S' 0 fp (p + 3) (ws ++ [19] ++ [tk p] ++ [29] ++ [tk (p + 1)] ++ [tk (p + 2)] ++ [0]) (ms ++ [19] ++ [tk p] ++ [29] ++ [tk (p + 1)] ++ [tk (p + 2)] ++ [0]) ((0, 0, k) :: (4, 12, 0) :: (7, nI hs.length, 0) :: (6, nI (hs.length + 1), 0) :: td) (hs ++ some (ws.length + 2, ms.length + 2) :: some (ws.length + 5, ms.length + 5) :: []) → P none S') : mv_big layY sysY (d + 5) 19 [.ref 0, .int k] S P := by
  have hn := hT.2.1
  refine ⟨200, ?_⟩
  refine y_numberA (m := 6) hT h hp (by decide) (by decide) (fun v q S1 a1 a2 a3 h1 => ?_) (fun S1 a1 h1 => ?_)
  · have f1 : ¬ S1.1 0 3 = 0 := by rw [h1.1]; exact a2
    exact ⟨fun _ => ⟨fun _ => ⟨fun z => absurd z f1, fun _ => e1 v q a1 a2 S1 h1⟩, fun z => absurd z f1⟩, fun z => absurd z f1⟩
  have f1 : S1.1 0 3 = 0 := h1.1
  have a1' := cBare_ok a1
  refine ⟨fun z => absurd f1 z, fun _ => ?_⟩
  refine y_numberA (m := 14) hT h1 (by omega) (by decide) (by decide) (fun v q S2 c1 c2 c3 h2 => ?_) (fun S2 c1 h2 => ?_)
  · have f2 : ¬ S2.1 0 3 = 0 := by rw [h2.1]; exact c2
    exact ⟨fun _ => ⟨fun z => absurd z f2, fun _ => e2 v q a1 c1 c2 S2 h2⟩, fun z => absurd z f2⟩
  have f2 : S2.1 0 3 = 0 := h2.1
  have c1' := cBare_ok c1
  refine ⟨fun z => absurd f2 z, fun _ => ?_⟩
  refine y_numberA (m := 14) hT h2 (by omega) (by decide) (by decide) (fun v q S3 d1 d2 d3 h3 => ?_) (fun S3 d1 h3 => ?_)
  · have f3 : ¬ S3.1 0 3 = 0 := by rw [h3.1]; exact d2
    exact ⟨fun z => absurd z f3, fun _ => e3 v q a1 c1 d1 d2 S3 h3⟩
  have f3 : S3.1 0 3 = 0 := h3.1
  refine ⟨fun _ => ?_, fun z => absurd f3 z⟩
  refine y_newHoleA h3 (fun S4 h4 => ?_)
  refine y_newHoleA h4 (fun S5 h5 => ?_)
  have el : (hs ++ [none]).length = hs.length + 1 := by simp
  rw [el]
  refine y_layA (x := 19) h5 (by omega) (by omega) (fun S6 h6 => ?_)
  refine y_layA (x := tk p) h6 (by simp; omega) (by simp; omega) (fun S7 h7 => ?_)
  refine y_rememberA (q := hs.length) h7 (by omega) (fun S8 h8 => ?_)
  refine y_layA (x := 29) h8 (by simp; omega) (by simp; omega) (fun S9 h9 => ?_)
  refine y_layA (x := tk (p + 1)) h9 (by simp; omega) (by simp; omega) (fun S10 h10 => ?_)
  refine y_layA (x := tk (p + 2)) h10 (by simp; omega) (by simp; omega) (fun S11 h11 => ?_)
  refine y_layHoleA (q := hs.length + 1) h11 (by simp; omega) (by simp; omega) (by omega) (fun S12 h12 => ?_)
  refine y_laterA (a := 6) (b := nI (hs.length + 1)) (c := 0) h12 (by omega) (fun S13 h13 => ?_)
  refine y_laterA (a := 7) (b := nI hs.length) (c := 0) h13 (by simp; omega) (fun S14 h14 => ?_)
  refine y_laterA (a := 4) (b := 12) (c := 0) h14 (by simp; omega) (fun S15 h15 => ?_)
  refine y_laterA (a := 0) (b := 0) (c := k) h15 (by simp; omega) (fun S16 h16 => ho a1 c1 d1 S16 ?_)
  have eh : ((hs ++ [none] ++ [none]).set hs.length (some ((ws ++ [19] ++ [tk p]).length, (ms ++ [19] ++ [tk p]).length))).set (hs.length + 1) (some ((ws ++ [19] ++ [tk p] ++ [29] ++ [tk (p + 1)] ++ [tk (p + 2)]).length, (ms ++ [19] ++ [tk p] ++ [29] ++ [tk (p + 1)] ++ [tk (p + 2)]).length)) = hs ++ some (ws.length + 2, ms.length + 2) :: some (ws.length + 5, ms.length + 5) :: [] := by
    rw [set2]
    simp
  rw [eh] at h16
  exact h16
theorem y_readStatement {t k : Int32} (hT : yTk S0 n tk par mn) (h : yAt S0 S 0 fp p ws ms td hs) (hp : p ≤ n) (b1 : ws.length + 6 ≤ 6000) (b2 : ms.length + 6 ≤ 8000) (b3 : td.length + 14 ≤ 4000) (b4 : hs.length + 2 ≤ 2000) (ht : cIsS t)
    (e1 : ∀ v q, t = 1 → cBare n tk 14 p = .error (v, q) → v ≠ 0 → ∀ S' td', yAt S0 S' v (nI q) p ws ms td' hs → P none S')
    (o1 : t = 1 → cBare n tk 14 p = .ok (p + 1) → ∀ S', yAt S0 S' 0 fp (p + 1) ws ms ((2, 0, k) :: (4, 3, 0) :: (4, tk p, 0) :: td) hs → P none S')
    (e2 : ∀ v q, t = 2 → cBare n tk 6 p = .error (v, q) → v ≠ 0 → ∀ S' td', yAt S0 S' v (nI q) p ws ms td' hs → P none S')
    (o2 : t = 2 → cBare n tk 6 p = .ok (p + 1) → ∀ S', yAt S0 S' 0 fp (p + 1) ws ms ((3, 0, k) :: (4, 20, 0) :: (4, tk p, 0) :: td) hs → P none S')
    (o3 : t = 3 → ∀ S', yAt S0 S' 0 fp p ws ms ((2, 0, k) :: (4, 13, 0) :: (5, nI hs.length, 0) :: (1, nI hs.length, k) :: td) (hs ++ [none]) → P none S')
    (o5 : t = 5 → ∀ S', yAt S0 S' 0 fp p ws ms ((2, 0, k) :: (4, 13, 0) :: (5, nI (hs.length + 1), 0) :: (0, 0, k) :: (4, 12, 0) :: (7, nI hs.length, 0) :: (6, nI (hs.length + 1), 0) :: td) (hs ++ some (ws.length, ms.length) :: none :: []) → P none S')
    (o6 : t = 6 → ∀ Q, (∀ S', P none S' → Q none S') → mv_big layY sysY (d + 5) 19 [.ref 0, .int k] S Q)
    (o7 : t = 7 → ∀ S', yAt S0 S' 0 fp p ws ms ((2, 0, k) :: (4, 15, 0) :: td) hs → P none S')
    (e8 : t = 8 → ∀ v q, cKnown n tk par p = .error (v, q) → v ≠ 0 → ∀ S' td', yAt S0 S' v (nI q) p ws ms td' hs → P none S')
    (o8 : t = 8 → cKnown n tk par p = .ok (p + 1) → ∀ S', yAt S0 S' 0 fp (p + 1) ws ms (List.replicate (cPar par (tk p)).toNatClampNeg (2, 0, k) ++ (4, 16, 0) :: (4, tk p, 0) :: (4, 18, 0) :: td) hs → P none S')
    (o9 : t = 9 → ∀ S', yAt S0 S' 0 fp p ws ms ((2, 0, k) :: (if mn then (4, 18, 0) :: (4, 0, 0) :: td else (4, 17, 0) :: td)) hs → P none S') : mv_big layY sysY (d + 6) 18 [.ref 0, .int t, .int k] S P := by
  have hn := hT.2.1
  refine ⟨120, ?_⟩
  refine ⟨fun c => ?_, fun c1 => ⟨fun c => ?_, fun c2 => ⟨fun c => ?_, fun c3 => ⟨fun c => ?_, fun c4 => ⟨fun c => ?_, fun c5 => ⟨fun c => ?_, fun c6 => ⟨fun c => ?_, fun c7 => ⟨fun c => ?_, fun c8 => ?_⟩⟩⟩⟩⟩⟩⟩⟩
  · have c : t = 1 := c
    refine y_numberA (m := 14) hT h hp (by decide) (by decide) (fun v q S1 a1 a2 a3 h1 => ?_) (fun S1 a1 h1 => ?_)
    · refine y_laterA (a := 4) (b := tk p) (c := 0) h1 (by omega) (fun S2 h2 => ?_)
      refine y_laterA (a := 4) (b := 3) (c := 0) h2 (by simp; omega) (fun S3 h3 => ?_)
      exact y_laterA (a := 2) (b := 0) (c := k) h3 (by simp; omega) (fun S4 h4 => e1 v q c a1 a2 S4 _ h4)
    · refine y_laterA (a := 4) (b := tk p) (c := 0) h1 (by omega) (fun S2 h2 => ?_)
      refine y_laterA (a := 4) (b := 3) (c := 0) h2 (by simp; omega) (fun S3 h3 => ?_)
      exact y_laterA (a := 2) (b := 0) (c := k) h3 (by simp; omega) (fun S4 h4 => o1 c a1 S4 h4)
  · have c : t = 2 := c
    refine y_numberA (m := 6) hT h hp (by decide) (by decide) (fun v q S1 a1 a2 a3 h1 => ?_) (fun S1 a1 h1 => ?_)
    · refine y_laterA (a := 4) (b := tk p) (c := 0) h1 (by omega) (fun S2 h2 => ?_)
      refine y_laterA (a := 4) (b := 20) (c := 0) h2 (by simp; omega) (fun S3 h3 => ?_)
      exact y_laterA (a := 3) (b := 0) (c := k) h3 (by simp; omega) (fun S4 h4 => e2 v q c a1 a2 S4 _ h4)
    · refine y_laterA (a := 4) (b := tk p) (c := 0) h1 (by omega) (fun S2 h2 => ?_)
      refine y_laterA (a := 4) (b := 20) (c := 0) h2 (by simp; omega) (fun S3 h3 => ?_)
      exact y_laterA (a := 3) (b := 0) (c := k) h3 (by simp; omega) (fun S4 h4 => o2 c a1 S4 h4)
  · have c : t = 3 := c
    refine y_newHoleA h (fun S1 h1 => ?_)
    refine y_laterA (a := 1) (b := nI hs.length) (c := k) h1 (by omega) (fun S2 h2 => ?_)
    refine y_laterA (a := 5) (b := nI hs.length) (c := 0) h2 (by simp; omega) (fun S3 h3 => ?_)
    refine y_laterA (a := 4) (b := 13) (c := 0) h3 (by simp; omega) (fun S4 h4 => ?_)
    exact y_laterA (a := 2) (b := 0) (c := k) h4 (by simp; omega) (fun S5 h5 => o3 c S5 h5)
  · have c : t = 4 := c
    exact absurd c ht.2.2
  · have c : t = 5 := c
    refine y_newHoleA h (fun S1 h1 => ?_)
    refine y_newHoleA h1 (fun S2 h2 => ?_)
    have el : (hs ++ [none]).length = hs.length + 1 := by simp
    rw [el]
    refine y_rememberA (q := hs.length) h2 (by omega) (fun S3 h3 => ?_)
    refine y_laterA (a := 6) (b := nI (hs.length + 1)) (c := 0) h3 (by omega) (fun S4 h4 => ?_)
    refine y_laterA (a := 7) (b := nI hs.length) (c := 0) h4 (by simp; omega) (fun S5 h5 => ?_)
    refine y_laterA (a := 4) (b := 12) (c := 0) h5 (by simp; omega) (fun S6 h6 => ?_)
    refine y_laterA (a := 0) (b := 0) (c := k) h6 (by simp; omega) (fun S7 h7 => ?_)
    refine y_laterA (a := 5) (b := nI (hs.length + 1)) (c := 0) h7 (by simp; omega) (fun S8 h8 => ?_)
    refine y_laterA (a := 4) (b := 13) (c := 0) h8 (by simp; omega) (fun S9 h9 => ?_)
    refine y_laterA (a := 2) (b := 0) (c := k) h9 (by simp; omega) (fun S10 h10 => o5 c S10 ?_)
    rw [show hs ++ [none] ++ [none] = hs ++ none :: [none] by simp, set_mid] at h10
    exact h10
  · have c : t = 6 := c
    exact mv_deep (by omega) (o6 c _ (fun S' z => z))
  · have c : t = 7 := c
    refine y_laterA (a := 4) (b := 15) (c := 0) h (by omega) (fun S2 h2 => ?_)
    exact y_laterA (a := 2) (b := 0) (c := k) h2 (by simp; omega) (fun S3 h3 => o7 c S3 h3)
  · have c : t = 8 := c
    refine y_laterA (a := 4) (b := 18) (c := 0) h (by omega) (fun S2 h2 => ?_)
    exact y_readCall hT h2 hp (by simp; omega) (fun v q S3 a1 a2 h3 => e8 c v q a1 a2 S3 _ h3) (fun S3 a1 h3 => o8 c a1 S3 h3)
  · have c : t = 9 := by
      have c1 : ¬ t = 1 := c1
      have c2 : ¬ t = 2 := c2
      have c3 : ¬ t = 3 := c3
      have c4 : ¬ t = 4 := c4
      have c5 : ¬ t = 5 := c5
      have c6 : ¬ t = 6 := c6
      have c7 : ¬ t = 7 := c7
      have c8 : ¬ t = 8 := c8
      obtain ⟨j, ja, jb, e⟩ := tk_rng (a := 1) (b := 9) (by decide) (by decide) ht.1 ht.2.1
      have : j = 1 ∨ j = 2 ∨ j = 3 ∨ j = 4 ∨ j = 5 ∨ j = 6 ∨ j = 7 ∨ j = 8 ∨ j = 9 := by omega
      rcases this with rfl | rfl | rfl | rfl | rfl | rfl | rfl | rfl | rfl
      · exact absurd e c1
      · exact absurd e c2
      · exact absurd e c3
      · exact absurd e c4
      · exact absurd e c5
      · exact absurd e c6
      · exact absurd e c7
      · exact absurd e c8
      · exact e
    have hm : S.1 0 12 = (if mn then 1 else 0) := by rw [h.2.2.2.2.2.2.2.1 0 12 (by decide)]; exact hT.2.2.2.2.2
    refine ⟨fun z => ?_, fun z => ?_⟩
    · have z : S.1 0 12 = 0 := z
      rw [hm] at z
      have hm0 : mn = false := by
        cases mn
        · rfl
        · exact absurd z (by decide)
      subst hm0
      refine y_laterA (a := 4) (b := 17) (c := 0) h (by omega) (fun S2 h2 => ?_)
      exact y_laterA (a := 2) (b := 0) (c := k) h2 (by simp; omega) (fun S3 h3 => o9 c S3 h3)
    · have z : ¬ S.1 0 12 = 0 := z
      rw [hm] at z
      have hm0 : mn = true := by
        cases mn
        · exact absurd rfl z
        · rfl
      subst hm0
      refine y_laterA (a := 4) (b := 0) (c := 0) h (by omega) (fun S2 h2 => ?_)
      refine y_laterA (a := 4) (b := 18) (c := 0) h2 (by simp; omega) (fun S3 h3 => ?_)
      exact y_laterA (a := 2) (b := 0) (c := k) h3 (by simp; omega) (fun S4 h4 => o9 c S4 h4)
end YA
end
section
/-! THE REFERENCE READS: statements -/
section YA
variable {d : Nat} {P : Option Value → mv_S → Prop} {S0 S : mv_S} {w fp : Int32} {n p : Nat} {tk par : Nat → Int32} {mn : Bool} {ws ms : List Int32} {td : List (Int32 × Int32 × Int32)} {hs : List (Option (Nat × Nat))}
theorem y_readStatements0 {k : Nat} (hT : yTk S0 n tk par mn) (h : yAt S0 S 0 fp p ws ms td hs) (hp : p ≤ n) (hk : k ≤ 16) (b1 : ws.length + 2 ≤ 6000) (b2 : ms.length + 3 ≤ 8000) (b3 : td.length + 3 ≤ 4000)
    (oz : tk p = 0 → ∀ S', yAt S0 S' 0 fp (p + 1) ws ms td hs → P none S')
    (e1 : ¬ tk p = 0 → ¬ cIsS (tk p) → ∀ S', yAt S0 S' (-11) (nI p) p ws ms td hs → P none S')
    (e2 : cIsS (tk p) → 16 ≤ k → ∀ S', yAt S0 S' (-15) (nI p) p ws ms td hs → P none S')
    (oS : cIsS (tk p) → k < 16 → ∀ S' Q, yAt S0 S' 0 fp (p + 1) ws (ms ++ [30]) ((0, -1, nI k) :: td) hs → (∀ S'', P none S'' → Q none S'') → mv_big layY sysY (d + 6) 18 [.ref 0, .int (tk p), .int (nI k + 1)] S' Q) : mv_big layY sysY (d + 7) 17 [.ref 0, .int (nI k), .int (-1)] S P := by
  have hn := hT.2.1
  refine ⟨160, ?_⟩
  refine y_tokenA hT h (by omega) ?_
  have ea : S.1 0 2 = nI p := h.2.2.1
  have en : S.1 0 1 = nI n := yTk_n hT h
  by_cases hlt : p < n
  · have l1 : ¬ S.1 0 1 ≤ S.1 0 2 := by rw [ea, en, nI_leI (by omega) (by omega)]; omega
    have l2 : ¬ S.1 0 2 = S.1 0 1 := by rw [ea, en, nI_eq (by omega) (by omega)]; omega
    refine ⟨fun z => absurd z l1, fun _ => ⟨fun n0 => ?_, fun t0 => ?_⟩⟩
    · have n0 : ¬ tk p = 0 := n0
      have rest : ∀ F, 120 ≤ F → mv_wp layY sysY tT11 5 none mX11_readStatements.2.2.2.2.2.2.2 (mv_big layY sysY (d + 6)) P F 110 [(3, .int (tk p)), (0, .ref 0), (1, .int (nI k)), (2, .int (-1))] [] S := by
        intro F hF
        refine mv_fuel (n := 120) hF ?_
        refine ⟨fun z => absurd z l2, fun _ => ?_⟩
        refine y_in (fun c => ?_) (fun c => ?_)
        · have c : ¬ (1 ≤ tk p ∧ tk p ≤ 9) := c
          refine ⟨fun _ => ?_, fun z => absurd rfl z⟩
          exact y_wrongA (v := -11) h (fun S' h' => e1 n0 (fun z => c ⟨z.1, z.2.1⟩) S' h')
        · have c : 1 ≤ tk p ∧ tk p ≤ 9 := c
          refine ⟨fun z => absurd (show (1 : Int32) = 0 from z) (by decide), fun _ => ⟨fun n4 => ?_, fun t4 => ?_⟩⟩
          · have n4 : ¬ tk p = 4 := n4
            have hs : cIsS (tk p) := ⟨c.1, c.2, n4⟩
            refine y_isDeepA h (by omega) (fun S' g h' => ?_) (fun hk16 => ?_)
            · exact ⟨fun z => absurd (show (1 : Int32) = 0 from z) (by decide), fun _ => e2 hs g S' h'⟩
            refine ⟨fun _ => ?_, fun z => absurd rfl z⟩
            refine y_markA (yAt_next h) (by omega) (fun S2 h2 => ?_)
            refine ⟨fun _ => ?_, fun z => absurd (show (-1 : Int32) < 0 by decide) z⟩
            refine y_laterA (a := 0) (b := -1) (c := nI k) h2 (by omega) (fun S3 h3 => ?_)
            exact oS hs hk16 S3 _ h3 (fun S'' z => z)
          · have t4 : tk p = 4 := t4
            exact y_wrongA (v := -11) h (fun S' h' => e1 n0 (fun z => z.2.2 t4) S' h')
      refine ⟨fun z => absurd z l1, fun _ => ⟨fun n4 => ?_, fun t4 => ?_⟩⟩
      · have n4 : ¬ tk p = 4 := n4
        exact rest _ (by decide)
      · have t4 : tk p = 4 := t4
        exact ⟨fun _ => rest _ (by decide), fun z => absurd (show (-1 : Int32) < 0 by decide) z⟩
    · have t0 : tk p = 0 := t0
      exact ⟨fun _ => oz t0 _ (yAt_next h), fun z => absurd (show (-1 : Int32) < 0 by decide) z⟩
  · have hpn : p = n := by omega
    have tm : tk p = -1 := hT.2.2.2.1 p (by omega)
    have l1 : S.1 0 1 ≤ S.1 0 2 := by rw [ea, en, nI_leI (by omega) (by omega)]; omega
    have l2 : S.1 0 2 = S.1 0 1 := by rw [ea, en, nI_eq (by omega) (by omega)]; omega
    refine ⟨fun _ => ⟨fun _ => ⟨fun _ => ?_, fun z => absurd l2 z⟩, fun z => absurd l1 z⟩, fun z => absurd l1 z⟩
    exact y_wrongA (v := -11) h (fun S' h' => e1 (by rw [tm]; decide) (by rw [tm]; decide) S' h')
theorem y_readStatements1 {k q a c : Nat} (hT : yTk S0 n tk par mn) (h : yAt S0 S 0 fp p ws ms td hs) (hp : p ≤ n) (hk : k ≤ 16) (b1 : ws.length + 2 ≤ 6000) (b2 : ms.length + 3 ≤ 8000) (b3 : td.length + 3 ≤ 4000) (b4 : hs.length < 2000) (hq : hs[q]? = some (some (a, c))) (ba : a < 6000) (bc : c < 8000)
    (oz : tk p = 0 → ∀ S', yAt S0 S' 0 fp (p + 1) (ws.set a (nI ws.length)) (ms.set c (nI ms.length)) td hs → P none S')
    (o4 : tk p = 4 → ∀ S', yAt S0 S' 0 fp (p + 1) ((ws ++ [12] ++ [0]).set a (nI (ws ++ [12] ++ [0]).length)) ((ms ++ [12] ++ [0]).set c (nI (ms ++ [12] ++ [0]).length)) ((0, 0, nI k) :: (6, nI hs.length, 0) :: td) (hs ++ [some (ws.length + 1, ms.length + 1)]) → P none S')
    (e1 : ¬ tk p = 0 → ¬ tk p = 4 → ¬ cIsS (tk p) → ∀ S', yAt S0 S' (-11) (nI p) p ws ms td hs → P none S')
    (e2 : cIsS (tk p) → 16 ≤ k → ∀ S', yAt S0 S' (-15) (nI p) p ws ms td hs → P none S')
    (oS : cIsS (tk p) → k < 16 → ∀ S' Q, yAt S0 S' 0 fp (p + 1) ws (ms ++ [30]) ((1, nI q, nI k) :: td) hs → (∀ S'', P none S'' → Q none S'') → mv_big layY sysY (d + 6) 18 [.ref 0, .int (tk p), .int (nI k + 1)] S' Q) : mv_big layY sysY (d + 7) 17 [.ref 0, .int (nI k), .int (nI q)] S P := by
  have hn := hT.2.1
  have hql : q < hs.length := (List.getElem?_eq_some_iff.mp hq).1
  refine ⟨160, ?_⟩
  refine y_tokenA hT h (by omega) ?_
  have ea : S.1 0 2 = nI p := h.2.2.1
  have en : S.1 0 1 = nI n := yTk_n hT h
  by_cases hlt : p < n
  · have l1 : ¬ S.1 0 1 ≤ S.1 0 2 := by rw [ea, en, nI_leI (by omega) (by omega)]; omega
    have l2 : ¬ S.1 0 2 = S.1 0 1 := by rw [ea, en, nI_eq (by omega) (by omega)]; omega
    refine ⟨fun z => absurd z l1, fun _ => ⟨fun n0 => ?_, fun t0 => ?_⟩⟩
    · have n0 : ¬ tk p = 0 := n0
      have rest : ∀ F, 120 ≤ F → ¬ tk p = 4 → mv_wp layY sysY tT11 5 none mX11_readStatements.2.2.2.2.2.2.2 (mv_big layY sysY (d + 6)) P F 110 [(3, .int (tk p)), (0, .ref 0), (1, .int (nI k)), (2, .int (nI q))] [] S := by
        intro F hF n4a
        refine mv_fuel (n := 120) hF ?_
        refine ⟨fun z => absurd z l2, fun _ => ?_⟩
        refine y_in (fun c => ?_) (fun c => ?_)
        · have c : ¬ (1 ≤ tk p ∧ tk p ≤ 9) := c
          refine ⟨fun _ => ?_, fun z => absurd rfl z⟩
          exact y_wrongA (v := -11) h (fun S' h' => e1 n0 n4a (fun z => c ⟨z.1, z.2.1⟩) S' h')
        · have c : 1 ≤ tk p ∧ tk p ≤ 9 := c
          refine ⟨fun z => absurd (show (1 : Int32) = 0 from z) (by decide), fun _ => ⟨fun n4 => ?_, fun t4 => ?_⟩⟩
          · have n4 : ¬ tk p = 4 := n4
            have hs : cIsS (tk p) := ⟨c.1, c.2, n4⟩
            refine y_isDeepA h (by omega) (fun S' g h' => ?_) (fun hk16 => ?_)
            · exact ⟨fun z => absurd (show (1 : Int32) = 0 from z) (by decide), fun _ => e2 hs g S' h'⟩
            refine ⟨fun _ => ?_, fun z => absurd rfl z⟩
            refine y_markA (yAt_next h) (by omega) (fun S2 h2 => ?_)
            refine ⟨fun z => absurd z (nI_pos (by omega)), fun _ => ?_⟩
            refine y_laterA (a := 1) (b := nI q) (c := nI k) h2 (by omega) (fun S3 h3 => ?_)
            exact oS hs hk16 S3 _ h3 (fun S'' z => z)
          · have t4 : tk p = 4 := t4
            exact absurd t4 n4a
      refine ⟨fun z => absurd z l1, fun _ => ⟨fun n4 => ?_, fun t4 => ?_⟩⟩
      · have n4 : ¬ tk p = 4 := n4
        exact rest _ (by decide) n4
      · have t4 : tk p = 4 := t4
        refine ⟨fun z => absurd z (nI_pos (by omega)), fun _ => ?_⟩
        refine y_newHoleA (yAt_next h) (fun S1 h1 => ?_)
        refine y_layA (x := 12) h1 (by omega) (by omega) (fun S2 h2 => ?_)
        refine y_layHoleA (q := hs.length) h2 (by simp; omega) (by simp; omega) b4 (fun S3 h3 => ?_)
        rw [set_mid hs [] none, show (ws ++ [(12 : Int32)]).length = ws.length + 1 by simp, show (ms ++ [(12 : Int32)]).length = ms.length + 1 by simp] at h3
        refine y_fillA (q := q) h3 (by omega) (by rw [List.getElem?_append_left (by omega)]; exact hq) ba bc (fun S4 h4 => ?_)
        refine y_laterA (a := 6) (b := nI hs.length) (c := 0) h4 (by omega) (fun S5 h5 => ?_)
        exact y_laterA (a := 0) (b := 0) (c := nI k) h5 (by simp; omega) (fun S6 h6 => o4 t4 S6 h6)
    · have t0 : tk p = 0 := t0
      refine ⟨fun z => absurd z (nI_pos (by omega)), fun _ => ?_⟩
      exact y_fillA (yAt_next h) (by omega) hq ba bc (fun S1 h1 => oz t0 S1 h1)
  · have hpn : p = n := by omega
    have tm : tk p = -1 := hT.2.2.2.1 p (by omega)
    have l1 : S.1 0 1 ≤ S.1 0 2 := by rw [ea, en, nI_leI (by omega) (by omega)]; omega
    have l2 : S.1 0 2 = S.1 0 1 := by rw [ea, en, nI_eq (by omega) (by omega)]; omega
    refine ⟨fun _ => ⟨fun _ => ⟨fun _ => ?_, fun z => absurd l2 z⟩, fun z => absurd l1 z⟩, fun z => absurd l1 z⟩
    exact y_wrongA (v := -11) h (fun S' h' => e1 (by rw [tm]; decide) (by rw [tm]; decide) (by rw [tm]; decide) S' h')
end YA
end
section
/-! THE COMPILER AS A FUNCTION: with marks and without, it goes alike -/
def cSh (a : cRes) : Except (Int32 × Nat) Nat :=
  match a with
  | .error e => .error e
  | .ok (p, _, _) => .ok p
theorem cSh_cases (a : cRes) : (∃ e, a = .error e ∧ cSh a = .error e) ∨ (∃ p l s, a = .ok (p, l, s) ∧ cSh a = .ok p) := by
  match a with
  | .error e => exact Or.inl ⟨e, rfl, rfl⟩
  | .ok (p, l, s) => exact Or.inr ⟨p, l, s, rfl, rfl⟩
theorem cSh_2 {a a' : cRes} (h : cSh a = cSh a') : (∃ e, a = .error e ∧ a' = .error e) ∨ (∃ p l s l' s', a = .ok (p, l, s) ∧ a' = .ok (p, l', s')) := by
  rcases cSh_cases a with ⟨e, h1, h2⟩ | ⟨p, l, s, h1, h2⟩ <;> rcases cSh_cases a' with ⟨e', g1, g2⟩ | ⟨p', l', s', g1, g2⟩
  · rw [h2, g2] at h
    cases h
    exact Or.inl ⟨e, h1, g1⟩
  · rw [h2, g2] at h; cases h
  · rw [h2, g2] at h; cases h
  · rw [h2, g2] at h
    cases h
    exact Or.inr ⟨p, l, s, l', s', h1, g1⟩
theorem cSh_then {a a' : cRes} {f f' : Nat → Nat → cRes} (h : cSh a = cSh a') (hf : ∀ p w w', cSh (f p w) = cSh (f' p w')) : cSh (cThen a f) = cSh (cThen a' f') := by
  rcases cSh_2 h with ⟨e, rfl, rfl⟩ | ⟨p, l, s, l', s', rfl, rfl⟩
  · rfl
  · rcases cSh_2 (hf p l.length l'.length) with ⟨e, h1, h2⟩ | ⟨p2, l2, s2, l2', s2', h1, h2⟩
    · simp only [cThen]; rw [h1, h2]
    · simp only [cThen]; rw [h1, h2]; rfl
theorem cSh_many {f f' : Nat → Nat → cRes} (hf : ∀ p b b', cSh (f p b) = cSh (f' p b')) : ∀ k p b b', cSh (cMany f k p b) = cSh (cMany f' k p b')
  | 0, _, _, _ => rfl
  | k + 1, p, b, b' => cSh_then (hf p b b') (fun p1 w w' => cSh_many hf k p1 (b + w) (b' + w'))
theorem cSh_loop {tk : Nat → Int32} {f f' : Nat → Nat → cRes} (hf : ∀ p b b', cSh (f p b) = cSh (f' p b')) : ∀ k p b b', cSh (cLoop tk f k p b) = cSh (cLoop tk f' k p b')
  | 0, _, _, _ => rfl
  | k + 1, p, b, b' => by
    unfold cLoop
    split
    · exact cSh_then (hf p b b') (fun p1 w w' => cSh_loop hf k p1 (b + w) (b' + w'))
    · rfl
theorem cSh_parts {f f' : Bool → Nat → Nat → cRes} (hf : ∀ m p b b', cSh (f m p b) = cSh (f' m p b')) (m k p b b' : Nat) : cSh (cParts f m k p b) = cSh (cParts f' m k p b') :=
  cSh_then (cSh_many (hf true) m p b b') (fun p1 w w' => cSh_many (hf false) k p1 (b + w) (b' + w'))
theorem cSh_plain {n : Nat} {tk par : Nat → Int32} {f f' : Bool → Nat → Nat → cRes} (hf : ∀ m p b b', cSh (f m p b) = cSh (f' m p b')) (p b b' : Nat) : cSh (cPlain n tk par f p b) = cSh (cPlain n tk par f' p b') := by
  unfold cPlain
  match cArg n tk par (tk p) (p + 1) with
  | .error e => rfl
  | .ok p1 =>
    simp only
    rcases cSh_2 (cSh_parts hf (tkMaps (tk p)).toNatClampNeg (cNums tk par p).toNatClampNeg p1 b b') with ⟨e, h1, h2⟩ | ⟨p2, l2, s2, l2', s2', h1, h2⟩
    · rw [h1, h2]
    · rw [h1, h2]; rfl
theorem cSh_either {f f' : Bool → Nat → Nat → cRes} (hf : ∀ m p b b', cSh (f m p b) = cSh (f' m p b')) (t : Int32) (p b b' : Nat) : cSh (cEither f t p b) = cSh (cEither f' t p b') := by
  unfold cEither
  rcases cSh_2 (hf false (p + 1) b b') with ⟨e, h1, h2⟩ | ⟨p2, l2, s2, l2', s2', h1, h2⟩
  · rw [h1, h2]
  · rw [h1, h2]
    simp only
    rcases cSh_2 (hf false p2 (b + l2.length + 2) (b' + l2'.length + 2)) with ⟨e, h1, h2⟩ | ⟨p3, l3, s3, l3', s3', h1, h2⟩
    · rw [h1, h2]
    · rw [h1, h2]; rfl
theorem cSh_mark {mk mk' : Bool} {note note' : Nat → List (Bool × Nat × Nat)} {a a' : cRes} (h : cSh a = cSh a') : cSh (cMark mk note a) = cSh (cMark mk' note' a') := by
  rcases cSh_2 h with ⟨e, rfl, rfl⟩ | ⟨p, l, s, l', s', rfl, rfl⟩ <;> rfl
theorem cSh_EM {n : Nat} {tk par : Nat → Int32} {mk mk' : Bool} : ∀ r m p b b', cSh (cEM n tk par mk r m p b) = cSh (cEM n tk par mk' r m p b') := by
  intro r
  induction r with
  | zero =>
    intro m p b b'
    unfold cEM
    rfl
  | succ r ih =>
    intro m p b b'
    rw [cEM, cEM]
    split
    · refine cSh_mark ?_
      split
      · exact cSh_either ih _ _ _ _
      · exact cSh_plain ih _ _ _
    · rfl
theorem cSh_stm {n : Nat} {tk par : Nat → Int32} {mk mk' mn : Bool} : ∀ r p b b', cSh (cStm n tk par mk mn r p b) = cSh (cStm n tk par mk' mn r p b') := by
  intro r
  induction r with
  | zero =>
    intro p b b'
    unfold cStm
    rfl
  | succ r ih =>
    intro p b b'
    have hE := cSh_EM (n := n) (tk := tk) (par := par) (mk := mk) (mk' := mk') r
    have hB := cSh_loop (tk := tk) ih 700
    rw [cStm, cStm]
    refine cSh_mark ?_
    split
    · unfold cIf
      rcases cSh_2 (hE false (p + 1) (b + mk.toNat) (b' + mk'.toNat)) with ⟨e, h1, h2⟩ | ⟨p2, l2, s2, l2', s2', h1, h2⟩
      · rw [h1, h2]
      · rw [h1, h2]
        simp only
        rcases cSh_2 (hB p2 (b + mk.toNat + l2.length + 2) (b' + mk'.toNat + l2'.length + 2)) with ⟨e, h1, h2⟩ | ⟨p3, l3, s3, l3', s3', h1, h2⟩
        · rw [h1, h2]
        · rw [h1, h2]
          simp only
          split
          · rcases cSh_2 (hB (p3 + 1) (b + mk.toNat + l2.length + 2 + l3.length + 2) (b' + mk'.toNat + l2'.length + 2 + l3'.length + 2)) with ⟨e, h1, h2⟩ | ⟨p4, l4, s4, l4', s4', h1, h2⟩
            · rw [h1, h2]
            · rw [h1, h2]
              simp only
              split <;> rfl
          · split <;> rfl
    · split
      · unfold cWhile
        rcases cSh_2 (hE false (p + 1) (b + mk.toNat) (b' + mk'.toNat)) with ⟨e, h1, h2⟩ | ⟨p2, l2, s2, l2', s2', h1, h2⟩
        · rw [h1, h2]
        · rw [h1, h2]
          simp only
          rcases cSh_2 (hB p2 (b + mk.toNat + l2.length + 2) (b' + mk'.toNat + l2'.length + 2)) with ⟨e, h1, h2⟩ | ⟨p3, l3, s3, l3', s3', h1, h2⟩
          · rw [h1, h2]
          · rw [h1, h2]
            simp only
            split <;> rfl
      · split
        · unfold cEach
          match cBare n tk 6 (p + 1) with
          | .error e => rfl
          | .ok _ =>
            simp only
            match cBare n tk 14 (p + 2) with
            | .error e => rfl
            | .ok _ =>
              simp only
              match cBare n tk 14 (p + 3) with
              | .error e => rfl
              | .ok _ =>
                simp only
                rcases cSh_2 (hB (p + 4) (b + mk.toNat + 6) (b' + mk'.toNat + 6)) with ⟨e, h1, h2⟩ | ⟨p3, l3, s3, l3', s3', h1, h2⟩
                · rw [h1, h2]
                · rw [h1, h2]
                  simp only
                  split <;> rfl
        · split
          · unfold cAnswer
            rcases cSh_2 (hE false (p + 1) (b + mk.toNat) (b' + mk'.toNat)) with ⟨e, h1, h2⟩ | ⟨p2, l2, s2, l2', s2', h1, h2⟩
            · rw [h1, h2]
            · rw [h1, h2]; rfl
          · split
            · rcases cSh_2 (cSh_plain (n := n) (tk := tk) (par := par) hE p (b + mk.toNat) (b' + mk'.toNat)) with ⟨e, h1, h2⟩ | ⟨p2, l2, s2, l2', s2', h1, h2⟩
              · rw [h1, h2]
              · rw [h1, h2]; rfl
            · exact cSh_plain hE _ _ _
theorem cSh_blk {n : Nat} {tk par : Nat → Int32} {mk mk' mn : Bool} (r k p b b' : Nat) : cSh (cLoop tk (cStm n tk par mk mn r) k p b) = cSh (cLoop tk (cStm n tk par mk' mn r) k p b') := cSh_loop (cSh_stm r) k p b b'
end
section
/-! THE REFERENCE READS: its loop, by what is to do -/
abbrev yWp (P : Option Value → mv_S → Prop) (N pc : Nat) (lv : List (Nat × Value)) (st : List Value) (S : mv_S) : Prop := mv_wp layY sysY tT11 3 none mX11_readAll.2.2.2.2.2.2.2 (mv_big layY sysY 20) P N pc lv st S
def yLv (lv : List (Nat × Value)) : Prop := lv = [(0, .ref 0)] ∨ ∃ a b, lv = [(2, .int a), (1, .int b), (0, .ref 0)]
/-- from this state on, the loop ends with P -/
def yRun (P : Option Value → mv_S → Prop) (S0 : mv_S) (w fp : Int32) (p : Nat) (ws ms : List Int32) (td : List (Int32 × Int32 × Int32)) (hs : List (Option (Nat × Nat))) : Prop :=
  ∃ N, ∀ S lv, yAt S0 S w fp p ws ms td hs → yLv lv → yWp P N 0 lv [] S
def yErr (P : Option Value → mv_S → Prop) (S0 : mv_S) (v : Int32) (q : Nat) : Prop := ∀ S p ws ms td hs, yAt S0 S v (nI q) p ws ms td hs → P none S
section YA
variable {P : Option Value → mv_S → Prop} {S0 : mv_S} {w fp : Int32} {n p : Nat} {tk par : Nat → Int32} {mn : Bool} {ws ms : List Int32} {td : List (Int32 × Int32 × Int32)} {hs : List (Option (Nat × Nat))}
theorem yWp_err {v : Int32} {q : Nat} {S : mv_S} {lv : List (Nat × Value)} (hv : v ≠ 0) (he : yErr P S0 v q) (h : yAt S0 S v (nI q) p ws ms td hs) (hl : yLv lv) : yWp P 10 0 lv [] S := by
  have hP := he S _ _ _ _ _ h
  have f : ¬ S.1 0 3 = 0 := by rw [h.1]; exact hv
  rcases hl with rfl | ⟨a, b, rfl⟩
  · exact ⟨fun _ => hP, fun _ => ⟨fun _ => hP, fun z => absurd z f⟩⟩
  · exact ⟨fun _ => hP, fun _ => ⟨fun _ => hP, fun z => absurd z f⟩⟩
theorem yRun_end (he : ∀ S, yAt S0 S 0 fp p ws ms [] hs → P none S) : yRun P S0 0 fp p ws ms [] hs := by
  refine ⟨10, fun S lv h hl => ?_⟩
  have hP := he S h
  have f : S.1 0 20 ≤ 0 := by rw [h.2.2.2.2.2.1.1]; decide
  rcases hl with rfl | ⟨a, b, rfl⟩
  · exact ⟨fun _ => hP, fun z => absurd f z⟩
  · exact ⟨fun _ => hP, fun z => absurd f z⟩
theorem yRun_top {a b c : Int32} (hb : td.length < 4000) (h : ∃ M, ∀ S, yAt S0 S 0 fp p ws ms td hs → yWp P M 53 [(2, .int c), (1, .int b), (0, .ref 0)] [.int a] S) : yRun P S0 0 fp p ws ms ((a, b, c) :: td) hs := by
  obtain ⟨M, hM⟩ := h
  refine ⟨M + 29, fun S lv hA hl => ?_⟩
  have t1 : S.1 0 20 = nI (td.length + 1) := hA.2.2.2.2.2.1.1
  have f1 : ¬ S.1 0 20 ≤ 0 := by rw [t1]; exact nI_nle (by omega) (by omega)
  have f2 : S.1 0 3 = 0 := hA.1
  have hA1 := yAt_pop hA
  have t2 : (mv_pf S 0 20 (S.1 0 20 - 1)).1 0 20 = nI td.length := hA1.2.2.2.2.2.1.1
  have v1 : vp_in ((mv_pf S 0 20 (S.1 0 20 - 1)).1 0 20) 4000 := by rw [t2]; exact vp_in_nI hb (by decide)
  obtain ⟨q1, q2, q3, _⟩ := hA.2.2.2.2.2.1.2
  have q1 : (mv_pf S 0 20 (S.1 0 20 - 1)).2.1 8 ((mv_pf S 0 20 (S.1 0 20 - 1)).1 0 20).toNatClampNeg = a := by rw [t2, nI_clamp (by omega)]; exact q1
  have q2 : (mv_pf S 0 20 (S.1 0 20 - 1)).2.1 9 ((mv_pf S 0 20 (S.1 0 20 - 1)).1 0 20).toNatClampNeg = b := by rw [t2, nI_clamp (by omega)]; exact q2
  have q3 : (mv_pf S 0 20 (S.1 0 20 - 1)).2.1 10 ((mv_pf S 0 20 (S.1 0 20 - 1)).1 0 20).toNatClampNeg = c := by rw [t2, nI_clamp (by omega)]; exact q3
  have h2 := hM _ hA1
  rw [← q1, ← q2, ← q3] at h2
  rcases hl with rfl | ⟨x, y, rfl⟩
  · exact ⟨fun z => absurd z f1, fun _ => ⟨fun z => absurd f2 z, fun _ => ⟨v1, v1, v1, h2⟩⟩⟩
  · exact ⟨fun z => absurd z f1, fun _ => ⟨fun z => absurd f2 z, fun _ => ⟨v1, v1, v1, h2⟩⟩⟩
theorem yRun_word {b c : Int32} (hb : td.length < 4000) (b1 : ws.length < 6000) (b2 : ms.length < 8000) (h : yRun P S0 0 fp p (ws ++ [b]) (ms ++ [b]) td hs) : yRun P S0 0 fp p ws ms ((4, b, c) :: td) hs := by
  obtain ⟨N, hN⟩ := h
  refine yRun_top hb ⟨N + 6, fun S hA => ?_⟩
  refine ⟨fun z => absurd (show (4 : Int32) = 0 from z) (by decide), fun _ => ⟨fun z => absurd (show (4 : Int32) = 1 from z) (by decide), fun _ => ⟨fun z => absurd (show (4 : Int32) = 2 from z) (by decide), fun _ => ⟨fun z => absurd (show (4 : Int32) = 3 from z) (by decide), fun _ => ⟨fun _ => ?_, fun z => absurd rfl z⟩⟩⟩⟩⟩
  exact y_layA (x := b) hA b1 b2 (fun S1 h1 => ws_goto (t := 159) rfl (by decide) (ws_goto (t := 0) rfl (by decide) (hN S1 _ h1 (Or.inr ⟨_, _, rfl⟩))))
theorem yRun_hole {b c : Int32} {q : Nat} (hb : td.length < 4000) (b1 : ws.length < 6000) (b2 : ms.length < 8000) (b3 : q < 2000) (h : yRun P S0 0 fp p (ws ++ [0]) (ms ++ [0]) td (hs.set q (some (ws.length, ms.length)))) : yRun P S0 0 fp p ws ms ((5, nI q, c) :: td) hs := by
  obtain ⟨N, hN⟩ := h
  refine yRun_top hb ⟨N + 6, fun S hA => ?_⟩
  refine ⟨fun z => absurd (show (5 : Int32) = 0 from z) (by decide), fun _ => ⟨fun z => absurd (show (5 : Int32) = 1 from z) (by decide), fun _ => ⟨fun z => absurd (show (5 : Int32) = 2 from z) (by decide), fun _ => ⟨fun z => absurd (show (5 : Int32) = 3 from z) (by decide), fun _ => ⟨fun z => absurd (show (5 : Int32) = 4 from z) (by decide), fun _ => ⟨fun _ => ?_, fun z => absurd rfl z⟩⟩⟩⟩⟩⟩
  exact y_layHoleA (q := q) hA b1 b2 b3 (fun S1 h1 => ws_goto (t := 159) rfl (by decide) (ws_goto (t := 0) rfl (by decide) (hN S1 _ h1 (Or.inr ⟨_, _, rfl⟩))))
theorem yRun_target {b c : Int32} {q x y : Nat} (hb : td.length < 4000) (b3 : q < 2000) (hq : hs[q]? = some (some (x, y))) (b1 : x < 6000) (b2 : y < 8000) (h : yRun P S0 0 fp p (ws.set x (nI ws.length)) (ms.set y (nI ms.length)) td hs) : yRun P S0 0 fp p ws ms ((6, nI q, c) :: td) hs := by
  obtain ⟨N, hN⟩ := h
  refine yRun_top hb ⟨N + 6, fun S hA => ?_⟩
  refine ⟨fun z => absurd (show (6 : Int32) = 0 from z) (by decide), fun _ => ⟨fun z => absurd (show (6 : Int32) = 1 from z) (by decide), fun _ => ⟨fun z => absurd (show (6 : Int32) = 2 from z) (by decide), fun _ => ⟨fun z => absurd (show (6 : Int32) = 3 from z) (by decide), fun _ => ⟨fun z => absurd (show (6 : Int32) = 4 from z) (by decide), fun _ => ⟨fun z => absurd (show (6 : Int32) = 5 from z) (by decide), fun _ => ⟨fun _ => ?_, fun z => absurd rfl z⟩⟩⟩⟩⟩⟩⟩
  exact y_fillA (q := q) hA b3 hq b1 b2 (fun S1 h1 => ws_goto (t := 159) rfl (by decide) (ws_goto (t := 0) rfl (by decide) (hN S1 _ h1 (Or.inr ⟨_, _, rfl⟩))))
theorem yRun_back {b c : Int32} {q x y : Nat} (hb : td.length < 4000) (b3 : q < 2000) (hq : hs[q]? = some (some (x, y))) (b1 : ws.length < 6000) (b2 : ms.length < 8000) (h : yRun P S0 0 fp p (ws ++ [nI x]) (ms ++ [nI y]) td hs) : yRun P S0 0 fp p ws ms ((7, nI q, c) :: td) hs := by
  obtain ⟨N, hN⟩ := h
  refine yRun_top hb ⟨N + 5, fun S hA => ?_⟩
  refine ⟨fun z => absurd (show (7 : Int32) = 0 from z) (by decide), fun _ => ⟨fun z => absurd (show (7 : Int32) = 1 from z) (by decide), fun _ => ⟨fun z => absurd (show (7 : Int32) = 2 from z) (by decide), fun _ => ⟨fun z => absurd (show (7 : Int32) = 3 from z) (by decide), fun _ => ⟨fun z => absurd (show (7 : Int32) = 4 from z) (by decide), fun _ => ⟨fun z => absurd (show (7 : Int32) = 5 from z) (by decide), fun _ => ⟨fun z => absurd (show (7 : Int32) = 6 from z) (by decide), fun _ => ?_⟩⟩⟩⟩⟩⟩⟩
  exact y_layBackA (q := q) hA b3 hq b1 b2 (fun S1 h1 => ws_goto (t := 0) rfl (by decide) (hN S1 _ h1 (Or.inr ⟨_, _, rfl⟩)))
theorem yRun_e20 {k : Nat} {x : Int32} (hT : yTk S0 n tk par mn) (hp : p ≤ n) (b1 : ws.length + 2 ≤ 6000) (b2 : ms.length + 3 ≤ 8000) (b3 : td.length + 12 ≤ 4000) (hk : k < 16) (t : tk p = 20) (hq : p + 1 < n) (h : yRun P S0 0 fp (p + 2) (ws ++ [1] ++ [tk (p + 1)]) (ms ++ [30] ++ [1] ++ [tk (p + 1)]) td hs) : yRun P S0 0 fp p ws ms ((2, x, nI k) :: td) hs := by
  obtain ⟨N, hN⟩ := h
  refine yRun_top (by omega) ⟨N + 6, fun S hA => ?_⟩
  refine ⟨fun z => absurd (show (2 : Int32) = 0 from z) (by decide), fun _ => ⟨fun z => absurd (show (2 : Int32) = 1 from z) (by decide), fun _ => ⟨fun _ => ?_, fun z => absurd rfl z⟩⟩⟩
  have ck : cKind false (tk p) := by rw [t]; decide
  have n21 : ¬ tk p = 21 := by rw [t]; decide
  have nP : ¬ (22 ≤ tk p ∧ tk p ≤ 29 ∨ 32 ≤ tk p ∧ tk p ≤ 35) := by rw [t]; decide
  have n30 : ¬ (tk p = 30 ∨ tk p = 31) := by rw [t]; decide
  have n36 : ¬ tk p = 36 := by rw [t]; decide
  exact y_readExpression hT hA hp (by omega) b1 b2 b3 (fun z => absurd ck z) (fun _ z => absurd hk (by omega)) (fun _ _ _ S1 h1 => ws_goto (t := 159) rfl (by decide) (ws_goto (t := 0) rfl (by decide) (hN S1 _ h1 (Or.inr ⟨_, _, rfl⟩)))) (fun _ _ z => absurd hq z) (fun _ z => absurd z n21) (fun _ z => absurd z n21) (fun _ z => absurd z nP) (fun _ z => absurd z n30) (fun _ z => absurd z n36) (fun _ z => absurd z n36)
theorem yRun_e21 {k : Nat} {x : Int32} (hT : yTk S0 n tk par mn) (hp : p ≤ n) (b1 : ws.length + 2 ≤ 6000) (b2 : ms.length + 3 ≤ 8000) (b3 : td.length + 12 ≤ 4000) (hk : k < 16) (t : tk p = 21) (hq : cBare n tk 14 (p + 1) = .ok (p + 2)) (h : yRun P S0 0 fp (p + 2) (ws ++ [2] ++ [tk (p + 1)]) (ms ++ [30] ++ [2] ++ [tk (p + 1)]) td hs) : yRun P S0 0 fp p ws ms ((2, x, nI k) :: td) hs := by
  obtain ⟨N, hN⟩ := h
  refine yRun_top (by omega) ⟨N + 6, fun S hA => ?_⟩
  refine ⟨fun z => absurd (show (2 : Int32) = 0 from z) (by decide), fun _ => ⟨fun z => absurd (show (2 : Int32) = 1 from z) (by decide), fun _ => ⟨fun _ => ?_, fun z => absurd rfl z⟩⟩⟩
  have ck : cKind false (tk p) := by rw [t]; decide
  have n20 : ¬ tk p = 20 := by rw [t]; decide
  have nP : ¬ (22 ≤ tk p ∧ tk p ≤ 29 ∨ 32 ≤ tk p ∧ tk p ≤ 35) := by rw [t]; decide
  have n30 : ¬ (tk p = 30 ∨ tk p = 31) := by rw [t]; decide
  have n36 : ¬ tk p = 36 := by rw [t]; decide
  exact y_readExpression hT hA hp (by omega) b1 b2 b3 (fun z => absurd ck z) (fun _ z => absurd hk (by omega)) (fun _ z => absurd z n20) (fun _ z => absurd z n20) (fun _ _ _ S1 h1 => ws_goto (t := 159) rfl (by decide) (ws_goto (t := 0) rfl (by decide) (hN S1 _ h1 (Or.inr ⟨_, _, rfl⟩)))) (fun _ _ v q z => absurd (hq.symm.trans z) (by simp)) (fun _ z => absurd z nP) (fun _ z => absurd z n30) (fun _ z => absurd z n36) (fun _ z => absurd z n36)
theorem yRun_eP {k : Nat} {x : Int32} (hT : yTk S0 n tk par mn) (hp : p ≤ n) (b1 : ws.length + 2 ≤ 6000) (b2 : ms.length + 3 ≤ 8000) (b3 : td.length + 12 ≤ 4000) (hk : k < 16) (r : 22 ≤ tk p ∧ tk p ≤ 29 ∨ 32 ≤ tk p ∧ tk p ≤ 35) (h : yRun P S0 0 fp (p + 1) ws (ms ++ [30]) (yPa (tk p) (nI k + 1) td) hs) : yRun P S0 0 fp p ws ms ((2, x, nI k) :: td) hs := by
  obtain ⟨N, hN⟩ := h
  refine yRun_top (by omega) ⟨N + 6, fun S hA => ?_⟩
  refine ⟨fun z => absurd (show (2 : Int32) = 0 from z) (by decide), fun _ => ⟨fun z => absurd (show (2 : Int32) = 1 from z) (by decide), fun _ => ⟨fun _ => ?_, fun z => absurd rfl z⟩⟩⟩
  have ck : cKind false (tk p) := by
    rcases r with r | r
    · exact ⟨Int32.le_trans (by decide) r.1, Int32.le_trans r.2 (by decide)⟩
    · exact ⟨Int32.le_trans (by decide) r.1, Int32.le_trans r.2 (by decide)⟩
  have n20 : ¬ tk p = 20 := fun z => by rw [z] at r; exact absurd r (by decide)
  have n21 : ¬ tk p = 21 := fun z => by rw [z] at r; exact absurd r (by decide)
  have n36 : ¬ tk p = 36 := fun z => by rw [z] at r; exact absurd r (by decide)
  have n30 : ¬ (tk p = 30 ∨ tk p = 31) := fun z => by rcases z with z | z <;> rw [z] at r <;> exact absurd r (by decide)
  exact y_readExpression hT hA hp (by omega) b1 b2 b3 (fun z => absurd ck z) (fun _ z => absurd hk (by omega)) (fun _ z => absurd z n20) (fun _ z => absurd z n20) (fun _ z => absurd z n21) (fun _ z => absurd z n21) (fun _ _ S1 h1 => ws_goto (t := 159) rfl (by decide) (ws_goto (t := 0) rfl (by decide) (hN S1 _ h1 (Or.inr ⟨_, _, rfl⟩)))) (fun _ z => absurd z n30) (fun _ z => absurd z n36) (fun _ z => absurd z n36)
theorem yRun_e30 {k : Nat} {x : Int32} (hT : yTk S0 n tk par mn) (hp : p ≤ n) (b1 : ws.length + 2 ≤ 6000) (b2 : ms.length + 3 ≤ 8000) (b3 : td.length + 12 ≤ 4000) (hk : k < 16) (r : tk p = 30 ∨ tk p = 31) (h : yRun P S0 0 fp (p + 1) ws (ms ++ [30]) (yEiT (tk p) (nI k + 1) hs.length td) (hs ++ [none] ++ [none])) : yRun P S0 0 fp p ws ms ((2, x, nI k) :: td) hs := by
  obtain ⟨N, hN⟩ := h
  refine yRun_top (by omega) ⟨N + 6, fun S hA => ?_⟩
  refine ⟨fun z => absurd (show (2 : Int32) = 0 from z) (by decide), fun _ => ⟨fun z => absurd (show (2 : Int32) = 1 from z) (by decide), fun _ => ⟨fun _ => ?_, fun z => absurd rfl z⟩⟩⟩
  have ck : cKind false (tk p) := by rcases r with r | r <;> rw [r] <;> decide
  have n20 : ¬ tk p = 20 := by rcases r with r | r <;> rw [r] <;> decide
  have n21 : ¬ tk p = 21 := by rcases r with r | r <;> rw [r] <;> decide
  have nP : ¬ (22 ≤ tk p ∧ tk p ≤ 29 ∨ 32 ≤ tk p ∧ tk p ≤ 35) := by rcases r with r | r <;> rw [r] <;> decide
  have n36 : ¬ tk p = 36 := by rcases r with r | r <;> rw [r] <;> decide
  exact y_readExpression hT hA hp (by omega) b1 b2 b3 (fun z => absurd ck z) (fun _ z => absurd hk (by omega)) (fun _ z => absurd z n20) (fun _ z => absurd z n20) (fun _ z => absurd z n21) (fun _ z => absurd z n21) (fun _ z => absurd z nP) (fun _ _ S1 h1 => ws_goto (t := 159) rfl (by decide) (ws_goto (t := 0) rfl (by decide) (hN S1 _ h1 (Or.inr ⟨_, _, rfl⟩)))) (fun _ z => absurd z n36) (fun _ z => absurd z n36)
theorem yRun_e36 {k : Nat} {x : Int32} (hT : yTk S0 n tk par mn) (hp : p ≤ n) (b1 : ws.length + 2 ≤ 6000) (b2 : ms.length + 3 ≤ 8000) (b3 : td.length + 12 ≤ 4000) (hk : k < 16) (t : tk p = 36) (hq : cKnown n tk par (p + 1) = .ok (p + 2)) (h : yRun P S0 0 fp (p + 2) ws (ms ++ [30]) (List.replicate (cPar par (tk (p + 1))).toNatClampNeg (2, 0, nI k + 1) ++ (4, 16, 0) :: (4, tk (p + 1), 0) :: td) hs) : yRun P S0 0 fp p ws ms ((2, x, nI k) :: td) hs := by
  obtain ⟨N, hN⟩ := h
  refine yRun_top (by omega) ⟨N + 6, fun S hA => ?_⟩
  refine ⟨fun z => absurd (show (2 : Int32) = 0 from z) (by decide), fun _ => ⟨fun z => absurd (show (2 : Int32) = 1 from z) (by decide), fun _ => ⟨fun _ => ?_, fun z => absurd rfl z⟩⟩⟩
  have ck : cKind false (tk p) := by rw [t]; decide
  have n20 : ¬ tk p = 20 := by rw [t]; decide
  have n21 : ¬ tk p = 21 := by rw [t]; decide
  have nP : ¬ (22 ≤ tk p ∧ tk p ≤ 29 ∨ 32 ≤ tk p ∧ tk p ≤ 35) := by rw [t]; decide
  have n30 : ¬ (tk p = 30 ∨ tk p = 31) := by rw [t]; decide
  exact y_readExpression hT hA hp (by omega) b1 b2 b3 (fun z => absurd ck z) (fun _ z => absurd hk (by omega)) (fun _ z => absurd z n20) (fun _ z => absurd z n20) (fun _ z => absurd z n21) (fun _ z => absurd z n21) (fun _ z => absurd z nP) (fun _ z => absurd z n30) (fun _ _ v q z => absurd (hq.symm.trans z) (by simp)) (fun _ _ _ S1 h1 => ws_goto (t := 159) rfl (by decide) (ws_goto (t := 0) rfl (by decide) (hN S1 _ h1 (Or.inr ⟨_, _, rfl⟩))))
theorem yRun_eW {k : Nat} {x : Int32} (hT : yTk S0 n tk par mn) (hp : p ≤ n) (b1 : ws.length + 2 ≤ 6000) (b2 : ms.length + 3 ≤ 8000) (b3 : td.length + 12 ≤ 4000) (hk : k ≤ 16) (t : ¬ cKind false (tk p)) (he : yErr P S0 (-11) p) : yRun P S0 0 fp p ws ms ((2, x, nI k) :: td) hs := by
  refine yRun_top (by omega) ⟨10 + 6, fun S hA => ?_⟩
  refine ⟨fun z => absurd (show (2 : Int32) = 0 from z) (by decide), fun _ => ⟨fun z => absurd (show (2 : Int32) = 1 from z) (by decide), fun _ => ⟨fun _ => ?_, fun z => absurd rfl z⟩⟩⟩
  have hv : (-11 : Int32) ≠ 0 := by decide
  exact y_readExpression hT hA hp (by omega) b1 b2 b3 (fun _ S1 h1 => ws_goto (t := 159) rfl (by decide) (ws_goto (t := 0) rfl (by decide) (yWp_err hv he h1 (Or.inr ⟨_, _, rfl⟩)))) (fun z => absurd z t) (fun _ z => absurd (by rw [z]; decide) t) (fun _ z => absurd (by rw [z]; decide) t) (fun _ z => absurd (by rw [z]; decide) t) (fun _ z => absurd (by rw [z]; decide) t) (fun _ z => absurd (z.elim (fun y => ⟨Int32.le_trans (by decide) y.1, Int32.le_trans y.2 (by decide)⟩) (fun y => ⟨Int32.le_trans (by decide) y.1, Int32.le_trans y.2 (by decide)⟩)) t) (fun _ z => absurd (by rcases z with z | z <;> rw [z] <;> decide) t) (fun _ z => absurd (by rw [z]; decide) t) (fun _ z => absurd (by rw [z]; decide) t)
theorem yRun_eD {k : Nat} {x : Int32} (hT : yTk S0 n tk par mn) (hp : p ≤ n) (b1 : ws.length + 2 ≤ 6000) (b2 : ms.length + 3 ≤ 8000) (b3 : td.length + 12 ≤ 4000)  (t : cKind false (tk p)) (h16 : k = 16) (he : yErr P S0 (-15) p) : yRun P S0 0 fp p ws ms ((2, x, nI k) :: td) hs := by
  refine yRun_top (by omega) ⟨10 + 6, fun S hA => ?_⟩
  refine ⟨fun z => absurd (show (2 : Int32) = 0 from z) (by decide), fun _ => ⟨fun z => absurd (show (2 : Int32) = 1 from z) (by decide), fun _ => ⟨fun _ => ?_, fun z => absurd rfl z⟩⟩⟩
  have hv : (-15 : Int32) ≠ 0 := by decide
  exact y_readExpression hT hA hp (by omega) b1 b2 b3 (fun z => absurd t z) (fun _ _ S1 h1 => ws_goto (t := 159) rfl (by decide) (ws_goto (t := 0) rfl (by decide) (yWp_err hv he h1 (Or.inr ⟨_, _, rfl⟩)))) (fun z => absurd z (by omega)) (fun z => absurd z (by omega)) (fun z => absurd z (by omega)) (fun z => absurd z (by omega)) (fun z => absurd z (by omega)) (fun z => absurd z (by omega)) (fun z => absurd z (by omega)) (fun z => absurd z (by omega))
theorem yRun_f20 {k : Nat} {x : Int32} (hT : yTk S0 n tk par mn) (hp : p ≤ n) (b1 : ws.length + 2 ≤ 6000) (b2 : ms.length + 3 ≤ 8000) (b3 : td.length + 12 ≤ 4000) (hk : k < 16) (t : tk p = 20) (hq : ¬ p + 1 < n) (he : yErr P S0 (-11) (p + 1)) : yRun P S0 0 fp p ws ms ((2, x, nI k) :: td) hs := by
  refine yRun_top (by omega) ⟨10 + 6, fun S hA => ?_⟩
  refine ⟨fun z => absurd (show (2 : Int32) = 0 from z) (by decide), fun _ => ⟨fun z => absurd (show (2 : Int32) = 1 from z) (by decide), fun _ => ⟨fun _ => ?_, fun z => absurd rfl z⟩⟩⟩
  have ck : cKind false (tk p) := by rw [t]; decide
  have n21 : ¬ tk p = 21 := by rw [t]; decide
  have nP : ¬ (22 ≤ tk p ∧ tk p ≤ 29 ∨ 32 ≤ tk p ∧ tk p ≤ 35) := by rw [t]; decide
  have n30 : ¬ (tk p = 30 ∨ tk p = 31) := by rw [t]; decide
  have n36 : ¬ tk p = 36 := by rw [t]; decide
  have hv : (-11 : Int32) ≠ 0 := by decide
  exact y_readExpression hT hA hp (by omega) b1 b2 b3 (fun z => absurd ck z) (fun _ z => absurd hk (by omega)) (fun _ _ z => absurd z hq) (fun _ _ _ S1 h1 => ws_goto (t := 159) rfl (by decide) (ws_goto (t := 0) rfl (by decide) (yWp_err hv he h1 (Or.inr ⟨_, _, rfl⟩)))) (fun _ z => absurd z n21) (fun _ z => absurd z n21) (fun _ z => absurd z nP) (fun _ z => absurd z n30) (fun _ z => absurd z n36) (fun _ z => absurd z n36)
theorem yRun_f21 {k : Nat} {x : Int32} (hT : yTk S0 n tk par mn) (hp : p ≤ n) (b1 : ws.length + 2 ≤ 6000) (b2 : ms.length + 3 ≤ 8000) (b3 : td.length + 12 ≤ 4000) (hk : k < 16) {v : Int32} {q : Nat} (t : tk p = 21) (hq : cBare n tk 14 (p + 1) = .error (v, q)) (hv : v ≠ 0) (he : yErr P S0 v q) : yRun P S0 0 fp p ws ms ((2, x, nI k) :: td) hs := by
  refine yRun_top (by omega) ⟨10 + 6, fun S hA => ?_⟩
  refine ⟨fun z => absurd (show (2 : Int32) = 0 from z) (by decide), fun _ => ⟨fun z => absurd (show (2 : Int32) = 1 from z) (by decide), fun _ => ⟨fun _ => ?_, fun z => absurd rfl z⟩⟩⟩
  have ck : cKind false (tk p) := by rw [t]; decide
  have n20 : ¬ tk p = 20 := by rw [t]; decide
  have nP : ¬ (22 ≤ tk p ∧ tk p ≤ 29 ∨ 32 ≤ tk p ∧ tk p ≤ 35) := by rw [t]; decide
  have n30 : ¬ (tk p = 30 ∨ tk p = 31) := by rw [t]; decide
  have n36 : ¬ tk p = 36 := by rw [t]; decide
  exact y_readExpression hT hA hp (by omega) b1 b2 b3 (fun z => absurd ck z) (fun _ z => absurd hk (by omega)) (fun _ z => absurd z n20) (fun _ z => absurd z n20) (fun _ _ z => absurd (hq.symm.trans z) (by simp)) (fun _ _ v1 q1 z _ S1 ws1 ms1 h1 => by
    obtain ⟨rfl, rfl⟩ : v = v1 ∧ q = q1 := by have := hq.symm.trans z; simp at this; exact this
    exact ws_goto (t := 159) rfl (by decide) (ws_goto (t := 0) rfl (by decide) (yWp_err hv he h1 (Or.inr ⟨_, _, rfl⟩)))) (fun _ z => absurd z nP) (fun _ z => absurd z n30) (fun _ z => absurd z n36) (fun _ z => absurd z n36)
theorem yRun_f36 {k : Nat} {x : Int32} (hT : yTk S0 n tk par mn) (hp : p ≤ n) (b1 : ws.length + 2 ≤ 6000) (b2 : ms.length + 3 ≤ 8000) (b3 : td.length + 12 ≤ 4000) (hk : k < 16) {v : Int32} {q : Nat} (t : tk p = 36) (hq : cKnown n tk par (p + 1) = .error (v, q)) (hv : v ≠ 0) (he : yErr P S0 v q) : yRun P S0 0 fp p ws ms ((2, x, nI k) :: td) hs := by
  refine yRun_top (by omega) ⟨10 + 6, fun S hA => ?_⟩
  refine ⟨fun z => absurd (show (2 : Int32) = 0 from z) (by decide), fun _ => ⟨fun z => absurd (show (2 : Int32) = 1 from z) (by decide), fun _ => ⟨fun _ => ?_, fun z => absurd rfl z⟩⟩⟩
  have ck : cKind false (tk p) := by rw [t]; decide
  have n20 : ¬ tk p = 20 := by rw [t]; decide
  have n21 : ¬ tk p = 21 := by rw [t]; decide
  have nP : ¬ (22 ≤ tk p ∧ tk p ≤ 29 ∨ 32 ≤ tk p ∧ tk p ≤ 35) := by rw [t]; decide
  have n30 : ¬ (tk p = 30 ∨ tk p = 31) := by rw [t]; decide
  exact y_readExpression hT hA hp (by omega) b1 b2 b3 (fun z => absurd ck z) (fun _ z => absurd hk (by omega)) (fun _ z => absurd z n20) (fun _ z => absurd z n20) (fun _ z => absurd z n21) (fun _ z => absurd z n21) (fun _ z => absurd z nP) (fun _ z => absurd z n30) (fun _ _ v1 q1 z _ S1 h1 => by
    obtain ⟨rfl, rfl⟩ : v = v1 ∧ q = q1 := by have := hq.symm.trans z; simp at this; exact this
    exact ws_goto (t := 159) rfl (by decide) (ws_goto (t := 0) rfl (by decide) (yWp_err hv he h1 (Or.inr ⟨_, _, rfl⟩)))) (fun _ _ z => absurd (hq.symm.trans z) (by simp))
end YA
end
section
/-! THE REFERENCE READS: its loop at a map, at statements -/
section YA
variable {P : Option Value → mv_S → Prop} {S0 : mv_S} {w fp : Int32} {n p : Nat} {tk par : Nat → Int32} {mn : Bool} {ws ms : List Int32} {td : List (Int32 × Int32 × Int32)} {hs : List (Option (Nat × Nat))}
theorem yRun_m40 {k : Nat} {x : Int32} (hT : yTk S0 n tk par mn) (hp : p ≤ n) (b1 : ws.length + 2 ≤ 6000) (b2 : ms.length + 3 ≤ 8000) (b3 : td.length + 12 ≤ 4000) (hk : k < 16) (t : tk p = 40) (hq : cBare n tk 6 (p + 1) = .ok (p + 2)) (h : yRun P S0 0 fp (p + 2) (ws ++ [19] ++ [tk (p + 1)]) (ms ++ [30] ++ [19] ++ [tk (p + 1)]) td hs) : yRun P S0 0 fp p ws ms ((3, x, nI k) :: td) hs := by
  obtain ⟨N, hN⟩ := h
  refine yRun_top (by omega) ⟨N + 6, fun S hA => ?_⟩
  refine ⟨fun z => absurd (show (3 : Int32) = 0 from z) (by decide), fun _ => ⟨fun z => absurd (show (3 : Int32) = 1 from z) (by decide), fun _ => ⟨fun z => absurd (show (3 : Int32) = 2 from z) (by decide), fun _ => ⟨fun _ => ?_, fun z => absurd rfl z⟩⟩⟩⟩
  have ck : cKind true (tk p) := by rw [t]; decide
  have n41 : ¬ tk p = 41 := by rw [t]; decide
  have nP : ¬ (42 ≤ tk p ∧ tk p ≤ 44) := by rw [t]; decide
  exact y_readMap hT hA hp (by omega) b1 b2 b3 (fun z => absurd ck z) (fun _ z => absurd hk (by omega)) (fun _ _ _ S1 h1 => ws_goto (t := 159) rfl (by decide) (ws_goto (t := 0) rfl (by decide) (hN S1 _ h1 (Or.inr ⟨_, _, rfl⟩)))) (fun _ _ v q z => absurd (hq.symm.trans z) (by simp)) (fun _ z => absurd z n41) (fun _ z => absurd z nP)
theorem yRun_m41 {k : Nat} {x : Int32} (hT : yTk S0 n tk par mn) (hp : p ≤ n) (b1 : ws.length + 2 ≤ 6000) (b2 : ms.length + 3 ≤ 8000) (b3 : td.length + 12 ≤ 4000) (hk : k < 16) (t : tk p = 41) (h : yRun P S0 0 fp (p + 1) (ws ++ [21]) (ms ++ [30] ++ [21]) td hs) : yRun P S0 0 fp p ws ms ((3, x, nI k) :: td) hs := by
  obtain ⟨N, hN⟩ := h
  refine yRun_top (by omega) ⟨N + 6, fun S hA => ?_⟩
  refine ⟨fun z => absurd (show (3 : Int32) = 0 from z) (by decide), fun _ => ⟨fun z => absurd (show (3 : Int32) = 1 from z) (by decide), fun _ => ⟨fun z => absurd (show (3 : Int32) = 2 from z) (by decide), fun _ => ⟨fun _ => ?_, fun z => absurd rfl z⟩⟩⟩⟩
  have ck : cKind true (tk p) := by rw [t]; decide
  have n40 : ¬ tk p = 40 := by rw [t]; decide
  have nP : ¬ (42 ≤ tk p ∧ tk p ≤ 44) := by rw [t]; decide
  exact y_readMap hT hA hp (by omega) b1 b2 b3 (fun z => absurd ck z) (fun _ z => absurd hk (by omega)) (fun _ z => absurd z n40) (fun _ z => absurd z n40) (fun _ _ S1 h1 => ws_goto (t := 159) rfl (by decide) (ws_goto (t := 0) rfl (by decide) (hN S1 _ h1 (Or.inr ⟨_, _, rfl⟩)))) (fun _ z => absurd z nP)
theorem yRun_mP {k : Nat} {x : Int32} (hT : yTk S0 n tk par mn) (hp : p ≤ n) (b1 : ws.length + 2 ≤ 6000) (b2 : ms.length + 3 ≤ 8000) (b3 : td.length + 12 ≤ 4000) (hk : k < 16) (r : 42 ≤ tk p ∧ tk p ≤ 44) (h : yRun P S0 0 fp (p + 1) ws (ms ++ [30]) (yPa (tk p) (nI k + 1) td) hs) : yRun P S0 0 fp p ws ms ((3, x, nI k) :: td) hs := by
  obtain ⟨N, hN⟩ := h
  refine yRun_top (by omega) ⟨N + 6, fun S hA => ?_⟩
  refine ⟨fun z => absurd (show (3 : Int32) = 0 from z) (by decide), fun _ => ⟨fun z => absurd (show (3 : Int32) = 1 from z) (by decide), fun _ => ⟨fun z => absurd (show (3 : Int32) = 2 from z) (by decide), fun _ => ⟨fun _ => ?_, fun z => absurd rfl z⟩⟩⟩⟩
  have ck : cKind true (tk p) := ⟨Int32.le_trans (by decide) r.1, r.2⟩
  have n40 : ¬ tk p = 40 := fun z => by rw [z] at r; exact absurd r (by decide)
  have n41 : ¬ tk p = 41 := fun z => by rw [z] at r; exact absurd r (by decide)
  exact y_readMap hT hA hp (by omega) b1 b2 b3 (fun z => absurd ck z) (fun _ z => absurd hk (by omega)) (fun _ z => absurd z n40) (fun _ z => absurd z n40) (fun _ z => absurd z n41) (fun _ _ S1 h1 => ws_goto (t := 159) rfl (by decide) (ws_goto (t := 0) rfl (by decide) (hN S1 _ h1 (Or.inr ⟨_, _, rfl⟩))))
theorem yRun_mW {k : Nat} {x : Int32} (hT : yTk S0 n tk par mn) (hp : p ≤ n) (b1 : ws.length + 2 ≤ 6000) (b2 : ms.length + 3 ≤ 8000) (b3 : td.length + 12 ≤ 4000) (hk : k ≤ 16) (t : ¬ cKind true (tk p)) (he : yErr P S0 (-11) p) : yRun P S0 0 fp p ws ms ((3, x, nI k) :: td) hs := by
  refine yRun_top (by omega) ⟨10 + 6, fun S hA => ?_⟩
  refine ⟨fun z => absurd (show (3 : Int32) = 0 from z) (by decide), fun _ => ⟨fun z => absurd (show (3 : Int32) = 1 from z) (by decide), fun _ => ⟨fun z => absurd (show (3 : Int32) = 2 from z) (by decide), fun _ => ⟨fun _ => ?_, fun z => absurd rfl z⟩⟩⟩⟩
  have hv : (-11 : Int32) ≠ 0 := by decide
  exact y_readMap hT hA hp (by omega) b1 b2 b3 (fun _ S1 h1 => ws_goto (t := 159) rfl (by decide) (ws_goto (t := 0) rfl (by decide) (yWp_err hv he h1 (Or.inr ⟨_, _, rfl⟩)))) (fun z => absurd z t) (fun _ z => absurd (by rw [z]; decide) t) (fun _ z => absurd (by rw [z]; decide) t) (fun _ z => absurd (by rw [z]; decide) t) (fun _ z => absurd ⟨Int32.le_trans (by decide) z.1, z.2⟩ t)
theorem yRun_mD {k : Nat} {x : Int32} (hT : yTk S0 n tk par mn) (hp : p ≤ n) (b1 : ws.length + 2 ≤ 6000) (b2 : ms.length + 3 ≤ 8000) (b3 : td.length + 12 ≤ 4000)  (t : cKind true (tk p)) (h16 : k = 16) (he : yErr P S0 (-15) p) : yRun P S0 0 fp p ws ms ((3, x, nI k) :: td) hs := by
  refine yRun_top (by omega) ⟨10 + 6, fun S hA => ?_⟩
  refine ⟨fun z => absurd (show (3 : Int32) = 0 from z) (by decide), fun _ => ⟨fun z => absurd (show (3 : Int32) = 1 from z) (by decide), fun _ => ⟨fun z => absurd (show (3 : Int32) = 2 from z) (by decide), fun _ => ⟨fun _ => ?_, fun z => absurd rfl z⟩⟩⟩⟩
  have hv : (-15 : Int32) ≠ 0 := by decide
  exact y_readMap hT hA hp (by omega) b1 b2 b3 (fun z => absurd t z) (fun _ _ S1 h1 => ws_goto (t := 159) rfl (by decide) (ws_goto (t := 0) rfl (by decide) (yWp_err hv he h1 (Or.inr ⟨_, _, rfl⟩)))) (fun z => absurd z (by omega)) (fun z => absurd z (by omega)) (fun z => absurd z (by omega)) (fun z => absurd z (by omega))
theorem yRun_f40 {k : Nat} {x : Int32} (hT : yTk S0 n tk par mn) (hp : p ≤ n) (b1 : ws.length + 2 ≤ 6000) (b2 : ms.length + 3 ≤ 8000) (b3 : td.length + 12 ≤ 4000) (hk : k < 16) {v : Int32} {q : Nat} (t : tk p = 40) (hq : cBare n tk 6 (p + 1) = .error (v, q)) (hv : v ≠ 0) (he : yErr P S0 v q) : yRun P S0 0 fp p ws ms ((3, x, nI k) :: td) hs := by
  refine yRun_top (by omega) ⟨10 + 6, fun S hA => ?_⟩
  refine ⟨fun z => absurd (show (3 : Int32) = 0 from z) (by decide), fun _ => ⟨fun z => absurd (show (3 : Int32) = 1 from z) (by decide), fun _ => ⟨fun z => absurd (show (3 : Int32) = 2 from z) (by decide), fun _ => ⟨fun _ => ?_, fun z => absurd rfl z⟩⟩⟩⟩
  have ck : cKind true (tk p) := by rw [t]; decide
  have n41 : ¬ tk p = 41 := by rw [t]; decide
  have nP : ¬ (42 ≤ tk p ∧ tk p ≤ 44) := by rw [t]; decide
  exact y_readMap hT hA hp (by omega) b1 b2 b3 (fun z => absurd ck z) (fun _ z => absurd hk (by omega)) (fun _ _ z => absurd (hq.symm.trans z) (by simp)) (fun _ _ v1 q1 z _ S1 ws1 ms1 h1 => by
    obtain ⟨rfl, rfl⟩ : v = v1 ∧ q = q1 := by have := hq.symm.trans z; simp at this; exact this
    exact ws_goto (t := 159) rfl (by decide) (ws_goto (t := 0) rfl (by decide) (yWp_err hv he h1 (Or.inr ⟨_, _, rfl⟩)))) (fun _ z => absurd z n41) (fun _ z => absurd z nP)
/-- the statement t, its first token passed: from there on the loop ends with P -/
def ySt (P : Option Value → mv_S → Prop) (S0 : mv_S) (t k fp : Int32) (p : Nat) (ws ms : List Int32) (td : List (Int32 × Int32 × Int32)) (hs : List (Option (Nat × Nat))) : Prop :=
  ∃ N, ∀ S (Q : Option Value → mv_S → Prop), yAt S0 S 0 fp p ws ms td hs → (∀ S1, (∀ lv, yLv lv → yWp P N 0 lv [] S1) → Q none S1) → mv_big layY sysY 19 18 [.ref 0, .int t, .int k] S Q
theorem yRun_z0 {k : Nat} {x : Int32} (hT : yTk S0 n tk par mn) (hp : p ≤ n) (hk : k ≤ 16) (b1 : ws.length + 2 ≤ 6000) (b2 : ms.length + 3 ≤ 8000) (b3 : td.length + 3 ≤ 4000) (t : tk p = 0) (h : yRun P S0 0 fp (p + 1) ws ms td hs) : yRun P S0 0 fp p ws ms ((0, x, nI k) :: td) hs := by
  obtain ⟨N, hN⟩ := h
  refine yRun_top (by omega) ⟨N + 7, fun S hA => ?_⟩
  refine ⟨fun _ => ?_, fun z => absurd rfl z⟩
  have ns : ¬ cIsS (tk p) := by rw [t]; decide
  exact y_readStatements0 hT hA hp hk b1 b2 b3 (fun _ S1 h1 => ws_goto (t := 159) rfl (by decide) (ws_goto (t := 0) rfl (by decide) (hN S1 _ h1 (Or.inr ⟨_, _, rfl⟩)))) (fun z => absurd t z) (fun z => absurd z ns) (fun z => absurd z ns)
theorem yRun_sW0 {k : Nat} {x : Int32} (hT : yTk S0 n tk par mn) (hp : p ≤ n) (hk : k ≤ 16) (b1 : ws.length + 2 ≤ 6000) (b2 : ms.length + 3 ≤ 8000) (b3 : td.length + 3 ≤ 4000) (n0 : ¬ tk p = 0) (ns : ¬ cIsS (tk p)) (he : yErr P S0 (-11) p) : yRun P S0 0 fp p ws ms ((0, x, nI k) :: td) hs := by
  refine yRun_top (by omega) ⟨10 + 7, fun S hA => ?_⟩
  refine ⟨fun _ => ?_, fun z => absurd rfl z⟩
  have hv : (-11 : Int32) ≠ 0 := by decide
  exact y_readStatements0 hT hA hp hk b1 b2 b3 (fun z => absurd z n0) (fun _ _ S1 h1 => ws_goto (t := 159) rfl (by decide) (ws_goto (t := 0) rfl (by decide) (yWp_err hv he h1 (Or.inr ⟨_, _, rfl⟩)))) (fun z => absurd z ns) (fun z => absurd z ns)
theorem yRun_sD0 {k : Nat} {x : Int32} (hT : yTk S0 n tk par mn) (hp : p ≤ n) (hk : k ≤ 16) (b1 : ws.length + 2 ≤ 6000) (b2 : ms.length + 3 ≤ 8000) (b3 : td.length + 3 ≤ 4000) (hs1 : cIsS (tk p)) (h16 : k = 16) (he : yErr P S0 (-15) p) : yRun P S0 0 fp p ws ms ((0, x, nI k) :: td) hs := by
  refine yRun_top (by omega) ⟨10 + 7, fun S hA => ?_⟩
  refine ⟨fun _ => ?_, fun z => absurd rfl z⟩
  have n0 : ¬ tk p = 0 := fun z => by rw [z] at hs1; exact absurd hs1 (by decide)
  have hv : (-15 : Int32) ≠ 0 := by decide
  exact y_readStatements0 hT hA hp hk b1 b2 b3 (fun z => absurd z n0) (fun _ z => absurd hs1 z) (fun _ _ S1 h1 => ws_goto (t := 159) rfl (by decide) (ws_goto (t := 0) rfl (by decide) (yWp_err hv he h1 (Or.inr ⟨_, _, rfl⟩)))) (fun _ z => absurd z (by omega))
theorem yRun_s0 {k : Nat} {x : Int32} (hT : yTk S0 n tk par mn) (hp : p ≤ n) (hk : k ≤ 16) (b1 : ws.length + 2 ≤ 6000) (b2 : ms.length + 3 ≤ 8000) (b3 : td.length + 3 ≤ 4000) (hs1 : cIsS (tk p)) (hk16 : k < 16) (h : ySt P S0 (tk p) (nI k + 1) fp (p + 1) ws (ms ++ [30]) ((0, -1, nI k) :: td) hs) : yRun P S0 0 fp p ws ms ((0, x, nI k) :: td) hs := by
  obtain ⟨N, hN⟩ := h
  refine yRun_top (by omega) ⟨N + 7, fun S hA => ?_⟩
  refine ⟨fun _ => ?_, fun z => absurd rfl z⟩
  have n0 : ¬ tk p = 0 := fun z => by rw [z] at hs1; exact absurd hs1 (by decide)
  exact y_readStatements0 hT hA hp hk b1 b2 b3 (fun z => absurd z n0) (fun _ z => absurd hs1 z) (fun _ z => absurd hk16 (by omega)) (fun _ _ S1 Q h1 hQ => hN S1 Q h1 (fun S2 h2 => hQ S2 (ws_goto (t := 159) rfl (by decide) (ws_goto (t := 0) rfl (by decide) (h2 _ (Or.inr ⟨_, _, rfl⟩))))))
theorem yRun_z1 {k q x y : Nat} (hT : yTk S0 n tk par mn) (hp : p ≤ n) (hk : k ≤ 16) (b1 : ws.length + 2 ≤ 6000) (b2 : ms.length + 3 ≤ 8000) (b3 : td.length + 3 ≤ 4000) (b4 : hs.length < 2000) (hq : hs[q]? = some (some (x, y))) (ba : x < 6000) (bc : y < 8000) (t : tk p = 0) (h : yRun P S0 0 fp (p + 1) (ws.set x (nI ws.length)) (ms.set y (nI ms.length)) td hs) : yRun P S0 0 fp p ws ms ((1, nI q, nI k) :: td) hs := by
  obtain ⟨N, hN⟩ := h
  refine yRun_top (by omega) ⟨N + 7, fun S hA => ?_⟩
  refine ⟨fun z => absurd (show (1 : Int32) = 0 from z) (by decide), fun _ => ⟨fun _ => ?_, fun z => absurd rfl z⟩⟩
  have ns : ¬ cIsS (tk p) := by rw [t]; decide
  have n4 : ¬ tk p = 4 := by rw [t]; decide
  exact y_readStatements1 (q := q) (a := x) (c := y) hT hA hp hk b1 b2 b3 b4 hq ba bc (fun _ S1 h1 => ws_goto (t := 159) rfl (by decide) (ws_goto (t := 0) rfl (by decide) (hN S1 _ h1 (Or.inr ⟨_, _, rfl⟩)))) (fun z => absurd z n4) (fun z => absurd t z) (fun z => absurd z ns) (fun z => absurd z ns)
theorem yRun_41 {k q x y : Nat} (hT : yTk S0 n tk par mn) (hp : p ≤ n) (hk : k ≤ 16) (b1 : ws.length + 2 ≤ 6000) (b2 : ms.length + 3 ≤ 8000) (b3 : td.length + 3 ≤ 4000) (b4 : hs.length < 2000) (hq : hs[q]? = some (some (x, y))) (ba : x < 6000) (bc : y < 8000) (t : tk p = 4) (h : yRun P S0 0 fp (p + 1) ((ws ++ [12] ++ [0]).set x (nI (ws ++ [12] ++ [0]).length)) ((ms ++ [12] ++ [0]).set y (nI (ms ++ [12] ++ [0]).length)) ((0, 0, nI k) :: (6, nI hs.length, 0) :: td) (hs ++ [some (ws.length + 1, ms.length + 1)])) : yRun P S0 0 fp p ws ms ((1, nI q, nI k) :: td) hs := by
  obtain ⟨N, hN⟩ := h
  refine yRun_top (by omega) ⟨N + 7, fun S hA => ?_⟩
  refine ⟨fun z => absurd (show (1 : Int32) = 0 from z) (by decide), fun _ => ⟨fun _ => ?_, fun z => absurd rfl z⟩⟩
  have ns : ¬ cIsS (tk p) := by rw [t]; decide
  have n0 : ¬ tk p = 0 := by rw [t]; decide
  exact y_readStatements1 (q := q) (a := x) (c := y) hT hA hp hk b1 b2 b3 b4 hq ba bc (fun z => absurd z n0) (fun _ S1 h1 => ws_goto (t := 159) rfl (by decide) (ws_goto (t := 0) rfl (by decide) (hN S1 _ h1 (Or.inr ⟨_, _, rfl⟩)))) (fun _ z => absurd t z) (fun z => absurd z ns) (fun z => absurd z ns)
theorem yRun_sW1 {k q x y : Nat} (hT : yTk S0 n tk par mn) (hp : p ≤ n) (hk : k ≤ 16) (b1 : ws.length + 2 ≤ 6000) (b2 : ms.length + 3 ≤ 8000) (b3 : td.length + 3 ≤ 4000) (b4 : hs.length < 2000) (hq : hs[q]? = some (some (x, y))) (ba : x < 6000) (bc : y < 8000) (n0 : ¬ tk p = 0) (n4 : ¬ tk p = 4) (ns : ¬ cIsS (tk p)) (he : yErr P S0 (-11) p) : yRun P S0 0 fp p ws ms ((1, nI q, nI k) :: td) hs := by
  refine yRun_top (by omega) ⟨10 + 7, fun S hA => ?_⟩
  refine ⟨fun z => absurd (show (1 : Int32) = 0 from z) (by decide), fun _ => ⟨fun _ => ?_, fun z => absurd rfl z⟩⟩
  have hv : (-11 : Int32) ≠ 0 := by decide
  exact y_readStatements1 (q := q) (a := x) (c := y) hT hA hp hk b1 b2 b3 b4 hq ba bc (fun z => absurd z n0) (fun z => absurd z n4) (fun _ _ _ S1 h1 => ws_goto (t := 159) rfl (by decide) (ws_goto (t := 0) rfl (by decide) (yWp_err hv he h1 (Or.inr ⟨_, _, rfl⟩)))) (fun z => absurd z ns) (fun z => absurd z ns)
theorem yRun_sD1 {k q x y : Nat} (hT : yTk S0 n tk par mn) (hp : p ≤ n) (hk : k ≤ 16) (b1 : ws.length + 2 ≤ 6000) (b2 : ms.length + 3 ≤ 8000) (b3 : td.length + 3 ≤ 4000) (b4 : hs.length < 2000) (hq : hs[q]? = some (some (x, y))) (ba : x < 6000) (bc : y < 8000) (hs1 : cIsS (tk p)) (h16 : k = 16) (he : yErr P S0 (-15) p) : yRun P S0 0 fp p ws ms ((1, nI q, nI k) :: td) hs := by
  refine yRun_top (by omega) ⟨10 + 7, fun S hA => ?_⟩
  refine ⟨fun z => absurd (show (1 : Int32) = 0 from z) (by decide), fun _ => ⟨fun _ => ?_, fun z => absurd rfl z⟩⟩
  have n0 : ¬ tk p = 0 := fun z => by rw [z] at hs1; exact absurd hs1 (by decide)
  have n4 : ¬ tk p = 4 := hs1.2.2
  have hv : (-15 : Int32) ≠ 0 := by decide
  exact y_readStatements1 (q := q) (a := x) (c := y) hT hA hp hk b1 b2 b3 b4 hq ba bc (fun z => absurd z n0) (fun z => absurd z n4) (fun _ _ z => absurd hs1 z) (fun _ _ S1 h1 => ws_goto (t := 159) rfl (by decide) (ws_goto (t := 0) rfl (by decide) (yWp_err hv he h1 (Or.inr ⟨_, _, rfl⟩)))) (fun _ z => absurd z (by omega))
theorem yRun_s1 {k q x y : Nat} (hT : yTk S0 n tk par mn) (hp : p ≤ n) (hk : k ≤ 16) (b1 : ws.length + 2 ≤ 6000) (b2 : ms.length + 3 ≤ 8000) (b3 : td.length + 3 ≤ 4000) (b4 : hs.length < 2000) (hq : hs[q]? = some (some (x, y))) (ba : x < 6000) (bc : y < 8000) (hs1 : cIsS (tk p)) (hk16 : k < 16) (h : ySt P S0 (tk p) (nI k + 1) fp (p + 1) ws (ms ++ [30]) ((1, nI q, nI k) :: td) hs) : yRun P S0 0 fp p ws ms ((1, nI q, nI k) :: td) hs := by
  obtain ⟨N, hN⟩ := h
  refine yRun_top (by omega) ⟨N + 7, fun S hA => ?_⟩
  refine ⟨fun z => absurd (show (1 : Int32) = 0 from z) (by decide), fun _ => ⟨fun _ => ?_, fun z => absurd rfl z⟩⟩
  have n0 : ¬ tk p = 0 := fun z => by rw [z] at hs1; exact absurd hs1 (by decide)
  have n4 : ¬ tk p = 4 := hs1.2.2
  exact y_readStatements1 (q := q) (a := x) (c := y) hT hA hp hk b1 b2 b3 b4 hq ba bc (fun z => absurd z n0) (fun z => absurd z n4) (fun _ _ z => absurd hs1 z) (fun _ z => absurd hk16 (by omega)) (fun _ _ S1 Q h1 hQ => hN S1 Q h1 (fun S2 h2 => hQ S2 (ws_goto (t := 159) rfl (by decide) (ws_goto (t := 0) rfl (by decide) (h2 _ (Or.inr ⟨_, _, rfl⟩))))))
theorem ySt_1 {k : Int32} (hT : yTk S0 n tk par mn) (hp : p ≤ n) (b1 : ws.length + 6 ≤ 6000) (b2 : ms.length + 6 ≤ 8000) (b3 : td.length + 14 ≤ 4000) (b4 : hs.length + 2 ≤ 2000) (hq : cBare n tk 14 p = .ok (p + 1)) (h : yRun P S0 0 fp (p + 1) ws ms ((2, 0, k) :: (4, 3, 0) :: (4, tk p, 0) :: td) hs) : ySt P S0 1 k fp p ws ms td hs := by
  obtain ⟨N, hN⟩ := h
  refine ⟨N, fun S Q hA hQ => ?_⟩
  exact y_readStatement (d := 13) hT hA hp b1 b2 b3 b4 (by decide) (fun v q _ z => absurd (hq.symm.trans z) (by simp)) (fun _ _ S1 h1 => hQ S1 (fun lv hl => hN S1 lv h1 hl)) (fun v q z => absurd z (by decide)) (fun z => absurd z (by decide)) (fun z => absurd z (by decide)) (fun z => absurd z (by decide)) (fun z => absurd z (by decide)) (fun z => absurd z (by decide)) (fun z => absurd z (by decide)) (fun z => absurd z (by decide)) (fun z => absurd z (by decide))
theorem ySt_2 {k : Int32} (hT : yTk S0 n tk par mn) (hp : p ≤ n) (b1 : ws.length + 6 ≤ 6000) (b2 : ms.length + 6 ≤ 8000) (b3 : td.length + 14 ≤ 4000) (b4 : hs.length + 2 ≤ 2000) (hq : cBare n tk 6 p = .ok (p + 1)) (h : yRun P S0 0 fp (p + 1) ws ms ((3, 0, k) :: (4, 20, 0) :: (4, tk p, 0) :: td) hs) : ySt P S0 2 k fp p ws ms td hs := by
  obtain ⟨N, hN⟩ := h
  refine ⟨N, fun S Q hA hQ => ?_⟩
  exact y_readStatement (d := 13) hT hA hp b1 b2 b3 b4 (by decide) (fun v q z => absurd z (by decide)) (fun z => absurd z (by decide)) (fun v q _ z => absurd (hq.symm.trans z) (by simp)) (fun _ _ S1 h1 => hQ S1 (fun lv hl => hN S1 lv h1 hl)) (fun z => absurd z (by decide)) (fun z => absurd z (by decide)) (fun z => absurd z (by decide)) (fun z => absurd z (by decide)) (fun z => absurd z (by decide)) (fun z => absurd z (by decide)) (fun z => absurd z (by decide))
theorem ySt_3 {k : Int32} (hT : yTk S0 n tk par mn) (hp : p ≤ n) (b1 : ws.length + 6 ≤ 6000) (b2 : ms.length + 6 ≤ 8000) (b3 : td.length + 14 ≤ 4000) (b4 : hs.length + 2 ≤ 2000)  (h : yRun P S0 0 fp p ws ms ((2, 0, k) :: (4, 13, 0) :: (5, nI hs.length, 0) :: (1, nI hs.length, k) :: td) (hs ++ [none])) : ySt P S0 3 k fp p ws ms td hs := by
  obtain ⟨N, hN⟩ := h
  refine ⟨N, fun S Q hA hQ => ?_⟩
  exact y_readStatement (d := 13) hT hA hp b1 b2 b3 b4 (by decide) (fun v q z => absurd z (by decide)) (fun z => absurd z (by decide)) (fun v q z => absurd z (by decide)) (fun z => absurd z (by decide)) (fun _ S1 h1 => hQ S1 (fun lv hl => hN S1 lv h1 hl)) (fun z => absurd z (by decide)) (fun z => absurd z (by decide)) (fun z => absurd z (by decide)) (fun z => absurd z (by decide)) (fun z => absurd z (by decide)) (fun z => absurd z (by decide))
theorem ySt_5 {k : Int32} (hT : yTk S0 n tk par mn) (hp : p ≤ n) (b1 : ws.length + 6 ≤ 6000) (b2 : ms.length + 6 ≤ 8000) (b3 : td.length + 14 ≤ 4000) (b4 : hs.length + 2 ≤ 2000)  (h : yRun P S0 0 fp p ws ms ((2, 0, k) :: (4, 13, 0) :: (5, nI (hs.length + 1), 0) :: (0, 0, k) :: (4, 12, 0) :: (7, nI hs.length, 0) :: (6, nI (hs.length + 1), 0) :: td) (hs ++ some (ws.length, ms.length) :: none :: [])) : ySt P S0 5 k fp p ws ms td hs := by
  obtain ⟨N, hN⟩ := h
  refine ⟨N, fun S Q hA hQ => ?_⟩
  exact y_readStatement (d := 13) hT hA hp b1 b2 b3 b4 (by decide) (fun v q z => absurd z (by decide)) (fun z => absurd z (by decide)) (fun v q z => absurd z (by decide)) (fun z => absurd z (by decide)) (fun z => absurd z (by decide)) (fun _ S1 h1 => hQ S1 (fun lv hl => hN S1 lv h1 hl)) (fun z => absurd z (by decide)) (fun z => absurd z (by decide)) (fun z => absurd z (by decide)) (fun z => absurd z (by decide)) (fun z => absurd z (by decide))
theorem ySt_6 {k : Int32} (hT : yTk S0 n tk par mn) (hp : p ≤ n) (b1 : ws.length + 6 ≤ 6000) (b2 : ms.length + 6 ≤ 8000) (b3 : td.length + 14 ≤ 4000) (b4 : hs.length + 2 ≤ 2000) (h1 : cBare n tk 6 p = .ok (p + 1)) (h2 : cBare n tk 14 (p + 1) = .ok (p + 2)) (h3 : cBare n tk 14 (p + 2) = .ok (p + 3)) (h : yRun P S0 0 fp (p + 3) (ws ++ [19] ++ [tk p] ++ [29] ++ [tk (p + 1)] ++ [tk (p + 2)] ++ [0]) (ms ++ [19] ++ [tk p] ++ [29] ++ [tk (p + 1)] ++ [tk (p + 2)] ++ [0]) ((0, 0, k) :: (4, 12, 0) :: (7, nI hs.length, 0) :: (6, nI (hs.length + 1), 0) :: td) (hs ++ some (ws.length + 2, ms.length + 2) :: some (ws.length + 5, ms.length + 5) :: [])) : ySt P S0 6 k fp p ws ms td hs := by
  obtain ⟨N, hN⟩ := h
  refine ⟨N, fun S Q hA hQ => ?_⟩
  exact y_readStatement (d := 13) hT hA hp b1 b2 b3 b4 (by decide) (fun v q z => absurd z (by decide)) (fun z => absurd z (by decide)) (fun v q z => absurd z (by decide)) (fun z => absurd z (by decide)) (fun z => absurd z (by decide)) (fun z => absurd z (by decide)) (fun _ Q2 hQ2 => y_readOver (d := 13) hT hA hp b1 b2 (by omega) b4 (fun v q z => absurd (h1.symm.trans z) (by simp)) (fun v q _ z => absurd (h2.symm.trans z) (by simp)) (fun v q _ _ z => absurd (h3.symm.trans z) (by simp)) (fun _ _ _ S1 h1 => hQ2 S1 (hQ S1 (fun lv hl => hN S1 lv h1 hl)))) (fun z => absurd z (by decide)) (fun z => absurd z (by decide)) (fun z => absurd z (by decide)) (fun z => absurd z (by decide))
theorem ySt_f6a {k : Int32} (hT : yTk S0 n tk par mn) (hp : p ≤ n) (b1 : ws.length + 6 ≤ 6000) (b2 : ms.length + 6 ≤ 8000) (b3 : td.length + 14 ≤ 4000) (b4 : hs.length + 2 ≤ 2000) {v : Int32} {q : Nat} (hq : cBare n tk 6 p = .error (v, q)) (hv : v ≠ 0) (he : yErr P S0 v q) : ySt P S0 6 k fp p ws ms td hs := by
  refine ⟨10, fun S Q hA hQ => ?_⟩
  exact y_readStatement (d := 13) hT hA hp b1 b2 b3 b4 (by decide) (fun v q z => absurd z (by decide)) (fun z => absurd z (by decide)) (fun v q z => absurd z (by decide)) (fun z => absurd z (by decide)) (fun z => absurd z (by decide)) (fun z => absurd z (by decide)) (fun _ Q2 hQ2 => y_readOver (d := 13) hT hA hp b1 b2 (by omega) b4 (fun v1 q1 z _ S1 h1 => by
    obtain ⟨rfl, rfl⟩ : v = v1 ∧ q = q1 := by have := hq.symm.trans z; simp at this; exact this
    exact hQ2 S1 (hQ S1 (fun lv hl => yWp_err hv he h1 hl))) (fun v q z => absurd (hq.symm.trans z) (by simp)) (fun v q z => absurd (hq.symm.trans z) (by simp)) (fun z => absurd (hq.symm.trans z) (by simp))) (fun z => absurd z (by decide)) (fun z => absurd z (by decide)) (fun z => absurd z (by decide)) (fun z => absurd z (by decide))
theorem ySt_f6b {k : Int32} (hT : yTk S0 n tk par mn) (hp : p ≤ n) (b1 : ws.length + 6 ≤ 6000) (b2 : ms.length + 6 ≤ 8000) (b3 : td.length + 14 ≤ 4000) (b4 : hs.length + 2 ≤ 2000) {v : Int32} {q : Nat} (g1 : cBare n tk 6 p = .ok (p + 1)) (hq : cBare n tk 14 (p + 1) = .error (v, q)) (hv : v ≠ 0) (he : yErr P S0 v q) : ySt P S0 6 k fp p ws ms td hs := by
  refine ⟨10, fun S Q hA hQ => ?_⟩
  exact y_readStatement (d := 13) hT hA hp b1 b2 b3 b4 (by decide) (fun v q z => absurd z (by decide)) (fun z => absurd z (by decide)) (fun v q z => absurd z (by decide)) (fun z => absurd z (by decide)) (fun z => absurd z (by decide)) (fun z => absurd z (by decide)) (fun _ Q2 hQ2 => y_readOver (d := 13) hT hA hp b1 b2 (by omega) b4 (fun v q z => absurd (g1.symm.trans z) (by simp)) (fun v1 q1 _ z _ S1 h1 => by
    obtain ⟨rfl, rfl⟩ : v = v1 ∧ q = q1 := by have := hq.symm.trans z; simp at this; exact this
    exact hQ2 S1 (hQ S1 (fun lv hl => yWp_err hv he h1 hl))) (fun v q _ z => absurd (hq.symm.trans z) (by simp)) (fun _ z => absurd (hq.symm.trans z) (by simp))) (fun z => absurd z (by decide)) (fun z => absurd z (by decide)) (fun z => absurd z (by decide)) (fun z => absurd z (by decide))
theorem ySt_f6c {k : Int32} (hT : yTk S0 n tk par mn) (hp : p ≤ n) (b1 : ws.length + 6 ≤ 6000) (b2 : ms.length + 6 ≤ 8000) (b3 : td.length + 14 ≤ 4000) (b4 : hs.length + 2 ≤ 2000) {v : Int32} {q : Nat} (g1 : cBare n tk 6 p = .ok (p + 1)) (g2 : cBare n tk 14 (p + 1) = .ok (p + 2)) (hq : cBare n tk 14 (p + 2) = .error (v, q)) (hv : v ≠ 0) (he : yErr P S0 v q) : ySt P S0 6 k fp p ws ms td hs := by
  refine ⟨10, fun S Q hA hQ => ?_⟩
  exact y_readStatement (d := 13) hT hA hp b1 b2 b3 b4 (by decide) (fun v q z => absurd z (by decide)) (fun z => absurd z (by decide)) (fun v q z => absurd z (by decide)) (fun z => absurd z (by decide)) (fun z => absurd z (by decide)) (fun z => absurd z (by decide)) (fun _ Q2 hQ2 => y_readOver (d := 13) hT hA hp b1 b2 (by omega) b4 (fun v q z => absurd (g1.symm.trans z) (by simp)) (fun v q _ z => absurd (g2.symm.trans z) (by simp)) (fun v1 q1 _ _ z _ S1 h1 => by
    obtain ⟨rfl, rfl⟩ : v = v1 ∧ q = q1 := by have := hq.symm.trans z; simp at this; exact this
    exact hQ2 S1 (hQ S1 (fun lv hl => yWp_err hv he h1 hl))) (fun _ _ z => absurd (hq.symm.trans z) (by simp))) (fun z => absurd z (by decide)) (fun z => absurd z (by decide)) (fun z => absurd z (by decide)) (fun z => absurd z (by decide))
theorem ySt_7 {k : Int32} (hT : yTk S0 n tk par mn) (hp : p ≤ n) (b1 : ws.length + 6 ≤ 6000) (b2 : ms.length + 6 ≤ 8000) (b3 : td.length + 14 ≤ 4000) (b4 : hs.length + 2 ≤ 2000)  (h : yRun P S0 0 fp p ws ms ((2, 0, k) :: (4, 15, 0) :: td) hs) : ySt P S0 7 k fp p ws ms td hs := by
  obtain ⟨N, hN⟩ := h
  refine ⟨N, fun S Q hA hQ => ?_⟩
  exact y_readStatement (d := 13) hT hA hp b1 b2 b3 b4 (by decide) (fun v q z => absurd z (by decide)) (fun z => absurd z (by decide)) (fun v q z => absurd z (by decide)) (fun z => absurd z (by decide)) (fun z => absurd z (by decide)) (fun z => absurd z (by decide)) (fun z => absurd z (by decide)) (fun _ S1 h1 => hQ S1 (fun lv hl => hN S1 lv h1 hl)) (fun z => absurd z (by decide)) (fun z => absurd z (by decide)) (fun z => absurd z (by decide))
theorem ySt_8 {k : Int32} (hT : yTk S0 n tk par mn) (hp : p ≤ n) (b1 : ws.length + 6 ≤ 6000) (b2 : ms.length + 6 ≤ 8000) (b3 : td.length + 14 ≤ 4000) (b4 : hs.length + 2 ≤ 2000) (hq : cKnown n tk par p = .ok (p + 1)) (h : yRun P S0 0 fp (p + 1) ws ms (List.replicate (cPar par (tk p)).toNatClampNeg (2, 0, k) ++ (4, 16, 0) :: (4, tk p, 0) :: (4, 18, 0) :: td) hs) : ySt P S0 8 k fp p ws ms td hs := by
  obtain ⟨N, hN⟩ := h
  refine ⟨N, fun S Q hA hQ => ?_⟩
  exact y_readStatement (d := 13) hT hA hp b1 b2 b3 b4 (by decide) (fun v q z => absurd z (by decide)) (fun z => absurd z (by decide)) (fun v q z => absurd z (by decide)) (fun z => absurd z (by decide)) (fun z => absurd z (by decide)) (fun z => absurd z (by decide)) (fun z => absurd z (by decide)) (fun z => absurd z (by decide)) (fun _ v q z => absurd (hq.symm.trans z) (by simp)) (fun _ _ S1 h1 => hQ S1 (fun lv hl => hN S1 lv h1 hl)) (fun z => absurd z (by decide))
theorem ySt_9 {k : Int32} (hT : yTk S0 n tk par mn) (hp : p ≤ n) (b1 : ws.length + 6 ≤ 6000) (b2 : ms.length + 6 ≤ 8000) (b3 : td.length + 14 ≤ 4000) (b4 : hs.length + 2 ≤ 2000)  (h : yRun P S0 0 fp p ws ms ((2, 0, k) :: (if mn then (4, 18, 0) :: (4, 0, 0) :: td else (4, 17, 0) :: td)) hs) : ySt P S0 9 k fp p ws ms td hs := by
  obtain ⟨N, hN⟩ := h
  refine ⟨N, fun S Q hA hQ => ?_⟩
  exact y_readStatement (d := 13) hT hA hp b1 b2 b3 b4 (by decide) (fun v q z => absurd z (by decide)) (fun z => absurd z (by decide)) (fun v q z => absurd z (by decide)) (fun z => absurd z (by decide)) (fun z => absurd z (by decide)) (fun z => absurd z (by decide)) (fun z => absurd z (by decide)) (fun z => absurd z (by decide)) (fun z => absurd z (by decide)) (fun z => absurd z (by decide)) (fun _ S1 h1 => hQ S1 (fun lv hl => hN S1 lv h1 hl))
theorem ySt_f1 {k : Int32} (hT : yTk S0 n tk par mn) (hp : p ≤ n) (b1 : ws.length + 6 ≤ 6000) (b2 : ms.length + 6 ≤ 8000) (b3 : td.length + 14 ≤ 4000) (b4 : hs.length + 2 ≤ 2000) {v : Int32} {q : Nat} (hq : cBare n tk 14 p = .error (v, q)) (hv : v ≠ 0) (he : yErr P S0 v q) : ySt P S0 1 k fp p ws ms td hs := by
  refine ⟨10, fun S Q hA hQ => ?_⟩
  exact y_readStatement (d := 13) hT hA hp b1 b2 b3 b4 (by decide) (fun v1 q1 _ z _ S1 td1 h1 => by
    obtain ⟨rfl, rfl⟩ : v = v1 ∧ q = q1 := by have := hq.symm.trans z; simp at this; exact this
    exact hQ S1 (fun lv hl => yWp_err hv he h1 hl)) (fun _ z => absurd (hq.symm.trans z) (by simp)) (fun v q z => absurd z (by decide)) (fun z => absurd z (by decide)) (fun z => absurd z (by decide)) (fun z => absurd z (by decide)) (fun z => absurd z (by decide)) (fun z => absurd z (by decide)) (fun z => absurd z (by decide)) (fun z => absurd z (by decide)) (fun z => absurd z (by decide))
theorem ySt_f2 {k : Int32} (hT : yTk S0 n tk par mn) (hp : p ≤ n) (b1 : ws.length + 6 ≤ 6000) (b2 : ms.length + 6 ≤ 8000) (b3 : td.length + 14 ≤ 4000) (b4 : hs.length + 2 ≤ 2000) {v : Int32} {q : Nat} (hq : cBare n tk 6 p = .error (v, q)) (hv : v ≠ 0) (he : yErr P S0 v q) : ySt P S0 2 k fp p ws ms td hs := by
  refine ⟨10, fun S Q hA hQ => ?_⟩
  exact y_readStatement (d := 13) hT hA hp b1 b2 b3 b4 (by decide) (fun v q z => absurd z (by decide)) (fun z => absurd z (by decide)) (fun v1 q1 _ z _ S1 td1 h1 => by
    obtain ⟨rfl, rfl⟩ : v = v1 ∧ q = q1 := by have := hq.symm.trans z; simp at this; exact this
    exact hQ S1 (fun lv hl => yWp_err hv he h1 hl)) (fun _ z => absurd (hq.symm.trans z) (by simp)) (fun z => absurd z (by decide)) (fun z => absurd z (by decide)) (fun z => absurd z (by decide)) (fun z => absurd z (by decide)) (fun z => absurd z (by decide)) (fun z => absurd z (by decide)) (fun z => absurd z (by decide))
theorem ySt_f8 {k : Int32} (hT : yTk S0 n tk par mn) (hp : p ≤ n) (b1 : ws.length + 6 ≤ 6000) (b2 : ms.length + 6 ≤ 8000) (b3 : td.length + 14 ≤ 4000) (b4 : hs.length + 2 ≤ 2000) {v : Int32} {q : Nat} (hq : cKnown n tk par p = .error (v, q)) (hv : v ≠ 0) (he : yErr P S0 v q) : ySt P S0 8 k fp p ws ms td hs := by
  refine ⟨10, fun S Q hA hQ => ?_⟩
  exact y_readStatement (d := 13) hT hA hp b1 b2 b3 b4 (by decide) (fun v q z => absurd z (by decide)) (fun z => absurd z (by decide)) (fun v q z => absurd z (by decide)) (fun z => absurd z (by decide)) (fun z => absurd z (by decide)) (fun z => absurd z (by decide)) (fun z => absurd z (by decide)) (fun z => absurd z (by decide)) (fun _ v1 q1 z _ S1 td1 h1 => by
    obtain ⟨rfl, rfl⟩ : v = v1 ∧ q = q1 := by have := hq.symm.trans z; simp at this; exact this
    exact hQ S1 (fun lv hl => yWp_err hv he h1 hl)) (fun _ z => absurd (hq.symm.trans z) (by simp)) (fun z => absurd z (by decide))
end YA
end
