-- ===== PART A: goes FIRST, ahead of the names: the tables' words, and 'selects' of the private methods out of them =====
/-- a private method of a class that the tables say can be made, by its rows of tables_1 -/
def lw_okq (q : MethodName × Nat) : Prop := (q.1.cls ≠ "java/lang/invoke/MethodHandle" ∧ q.1.cls ≠ "java/lang/invoke/VarHandle") ∧ Cond.instantiable q.1.cls q.2 ∈ tables_1 ∧ Cond.privateMethod q.1 ∈ tables_1 ∧ Cond.instanceMethod q.1 ∈ tables_1
theorem lw_p0 : lw_okq (⟨"NameRows", "spareMachine", "()LNameRows$Machine;"⟩, 16) := ⟨⟨by decide +kernel, by decide +kernel⟩, List.mem_of_getElem? (i := 13) (by decide +kernel), List.mem_of_getElem? (i := 333) (by decide +kernel), List.mem_of_getElem? (i := 334) (by decide +kernel)⟩
theorem lw_p1 : lw_okq (⟨"NameRows", "addSpareMachine", "()I"⟩, 16) := ⟨⟨by decide +kernel, by decide +kernel⟩, List.mem_of_getElem? (i := 13) (by decide +kernel), List.mem_of_getElem? (i := 338) (by decide +kernel), List.mem_of_getElem? (i := 339) (by decide +kernel)⟩
theorem lw_p2 : lw_okq (⟨"NameRows", "machinesChanged", "()V"⟩, 16) := ⟨⟨by decide +kernel, by decide +kernel⟩, List.mem_of_getElem? (i := 13) (by decide +kernel), List.mem_of_getElem? (i := 342) (by decide +kernel), List.mem_of_getElem? (i := 343) (by decide +kernel)⟩
theorem lw_p3 : lw_okq (⟨"NameRows", "machineAt", "(I)LNameRows$Machine;"⟩, 16) := ⟨⟨by decide +kernel, by decide +kernel⟩, List.mem_of_getElem? (i := 13) (by decide +kernel), List.mem_of_getElem? (i := 350) (by decide +kernel), List.mem_of_getElem? (i := 351) (by decide +kernel)⟩
theorem lw_p4 : lw_okq (⟨"NameRows$Pairing", "numberOf", "(I)I"⟩, 2) := ⟨⟨by decide +kernel, by decide +kernel⟩, List.mem_of_getElem? (i := 103) (by decide +kernel), List.mem_of_getElem? (i := 420) (by decide +kernel), List.mem_of_getElem? (i := 421) (by decide +kernel)⟩
theorem lw_p5 : lw_okq (⟨"NameRows$Pairing", "joinSteps", "(LNameRows$Machine;ILNameRows$Machine;LNameRows$Machine;)Z"⟩, 2) := ⟨⟨by decide +kernel, by decide +kernel⟩, List.mem_of_getElem? (i := 103) (by decide +kernel), List.mem_of_getElem? (i := 424) (by decide +kernel), List.mem_of_getElem? (i := 425) (by decide +kernel)⟩
theorem lw_p6 : lw_okq (⟨"NameRows", "runOver", "(LNameRows$Machine;I)V"⟩, 16) := ⟨⟨by decide +kernel, by decide +kernel⟩, List.mem_of_getElem? (i := 13) (by decide +kernel), List.mem_of_getElem? (i := 439) (by decide +kernel), List.mem_of_getElem? (i := 440) (by decide +kernel)⟩
theorem lw_p7 : lw_okq (⟨"NameRows$Run", "caseOf", "(I)I"⟩, 5) := ⟨⟨by decide +kernel, by decide +kernel⟩, List.mem_of_getElem? (i := 116) (by decide +kernel), List.mem_of_getElem? (i := 451) (by decide +kernel), List.mem_of_getElem? (i := 452) (by decide +kernel)⟩
theorem lw_p8 : lw_okq (⟨"NameRows$Run", "keepIn", "(II)V"⟩, 5) := ⟨⟨by decide +kernel, by decide +kernel⟩, List.mem_of_getElem? (i := 116) (by decide +kernel), List.mem_of_getElem? (i := 456) (by decide +kernel), List.mem_of_getElem? (i := 457) (by decide +kernel)⟩
theorem lw_p9 : lw_okq (⟨"NameRows", "learnOrbits", "(LNameRows$Machine;)V"⟩, 16) := ⟨⟨by decide +kernel, by decide +kernel⟩, List.mem_of_getElem? (i := 13) (by decide +kernel), List.mem_of_getElem? (i := 468) (by decide +kernel), List.mem_of_getElem? (i := 469) (by decide +kernel)⟩
theorem lw_p10 : lw_okq (⟨"NameRows$Walk", "forget", "()V"⟩, 18) := ⟨⟨by decide +kernel, by decide +kernel⟩, List.mem_of_getElem? (i := 145) (by decide +kernel), List.mem_of_getElem? (i := 480) (by decide +kernel), List.mem_of_getElem? (i := 481) (by decide +kernel)⟩
theorem lw_p11 : lw_okq (⟨"NameRows$Walk", "meet", "(III)V"⟩, 18) := ⟨⟨by decide +kernel, by decide +kernel⟩, List.mem_of_getElem? (i := 145) (by decide +kernel), List.mem_of_getElem? (i := 484) (by decide +kernel), List.mem_of_getElem? (i := 485) (by decide +kernel)⟩
theorem lw_p12 : lw_okq (⟨"NameRows$Walk", "lookAt", "(I)V"⟩, 18) := ⟨⟨by decide +kernel, by decide +kernel⟩, List.mem_of_getElem? (i := 145) (by decide +kernel), List.mem_of_getElem? (i := 488) (by decide +kernel), List.mem_of_getElem? (i := 489) (by decide +kernel)⟩
theorem lw_p13 : lw_okq (⟨"NameRows$Walk", "labelOf", "(I)I"⟩, 18) := ⟨⟨by decide +kernel, by decide +kernel⟩, List.mem_of_getElem? (i := 145) (by decide +kernel), List.mem_of_getElem? (i := 492) (by decide +kernel), List.mem_of_getElem? (i := 493) (by decide +kernel)⟩
theorem lw_p14 : lw_okq (⟨"NameRows$Walk", "caseOf", "(II)I"⟩, 18) := ⟨⟨by decide +kernel, by decide +kernel⟩, List.mem_of_getElem? (i := 145) (by decide +kernel), List.mem_of_getElem? (i := 496) (by decide +kernel), List.mem_of_getElem? (i := 497) (by decide +kernel)⟩
theorem lw_p15 : lw_okq (⟨"NameRows$Walk", "codeBehind", "(LNameRows$Machine;LNameRows$Machine;I)I"⟩, 18) := ⟨⟨by decide +kernel, by decide +kernel⟩, List.mem_of_getElem? (i := 145) (by decide +kernel), List.mem_of_getElem? (i := 504) (by decide +kernel), List.mem_of_getElem? (i := 505) (by decide +kernel)⟩
def lw_privs_1 : List (MethodName × Nat) := [(⟨"NameRows", "spareMachine", "()LNameRows$Machine;"⟩, 16), (⟨"NameRows", "addSpareMachine", "()I"⟩, 16), (⟨"NameRows", "machinesChanged", "()V"⟩, 16), (⟨"NameRows", "machineAt", "(I)LNameRows$Machine;"⟩, 16), (⟨"NameRows$Pairing", "numberOf", "(I)I"⟩, 2), (⟨"NameRows$Pairing", "joinSteps", "(LNameRows$Machine;ILNameRows$Machine;LNameRows$Machine;)Z"⟩, 2), (⟨"NameRows", "runOver", "(LNameRows$Machine;I)V"⟩, 16), (⟨"NameRows$Run", "caseOf", "(I)I"⟩, 5), (⟨"NameRows$Run", "keepIn", "(II)V"⟩, 5), (⟨"NameRows", "learnOrbits", "(LNameRows$Machine;)V"⟩, 16), (⟨"NameRows$Walk", "forget", "()V"⟩, 18), (⟨"NameRows$Walk", "meet", "(III)V"⟩, 18), (⟨"NameRows$Walk", "lookAt", "(I)V"⟩, 18), (⟨"NameRows$Walk", "labelOf", "(I)I"⟩, 18), (⟨"NameRows$Walk", "caseOf", "(II)I"⟩, 18), (⟨"NameRows$Walk", "codeBehind", "(LNameRows$Machine;LNameRows$Machine;I)I"⟩, 18)]
theorem lw_r1 : ∀ q ∈ lw_privs_1, lw_okq q := List.forall_mem_cons.mpr ⟨lw_p0, List.forall_mem_cons.mpr ⟨lw_p1, List.forall_mem_cons.mpr ⟨lw_p2, List.forall_mem_cons.mpr ⟨lw_p3, List.forall_mem_cons.mpr ⟨lw_p4, List.forall_mem_cons.mpr ⟨lw_p5, List.forall_mem_cons.mpr ⟨lw_p6, List.forall_mem_cons.mpr ⟨lw_p7, List.forall_mem_cons.mpr ⟨lw_p8, List.forall_mem_cons.mpr ⟨lw_p9, List.forall_mem_cons.mpr ⟨lw_p10, List.forall_mem_cons.mpr ⟨lw_p11, List.forall_mem_cons.mpr ⟨lw_p12, List.forall_mem_cons.mpr ⟨lw_p13, List.forall_mem_cons.mpr ⟨lw_p14, List.forall_mem_cons.mpr ⟨lw_p15, fun _ h => absurd h List.not_mem_nil⟩⟩⟩⟩⟩⟩⟩⟩⟩⟩⟩⟩⟩⟩⟩⟩
theorem lw_p16 : lw_okq (⟨"NameRows$Walk", "heldBehind", "(III)I"⟩, 18) := ⟨⟨by decide +kernel, by decide +kernel⟩, List.mem_of_getElem? (i := 145) (by decide +kernel), List.mem_of_getElem? (i := 509) (by decide +kernel), List.mem_of_getElem? (i := 510) (by decide +kernel)⟩
theorem lw_p17 : lw_okq (⟨"NameRows$Walk", "keep", "(III)V"⟩, 18) := ⟨⟨by decide +kernel, by decide +kernel⟩, List.mem_of_getElem? (i := 145) (by decide +kernel), List.mem_of_getElem? (i := 514) (by decide +kernel), List.mem_of_getElem? (i := 515) (by decide +kernel)⟩
theorem lw_p18 : lw_okq (⟨"NameRows$Walk", "digitOfEarlier", "(I)I"⟩, 18) := ⟨⟨by decide +kernel, by decide +kernel⟩, List.mem_of_getElem? (i := 145) (by decide +kernel), List.mem_of_getElem? (i := 518) (by decide +kernel), List.mem_of_getElem? (i := 519) (by decide +kernel)⟩
theorem lw_p19 : lw_okq (⟨"NameRows$Walk", "tellNext", "(ILNameRows$Machine;LNameRows$Machine;)V"⟩, 18) := ⟨⟨by decide +kernel, by decide +kernel⟩, List.mem_of_getElem? (i := 145) (by decide +kernel), List.mem_of_getElem? (i := 522) (by decide +kernel), List.mem_of_getElem? (i := 523) (by decide +kernel)⟩
theorem lw_p20 : lw_okq (⟨"NameRows$Walk", "spreadLife", "()Z"⟩, 18) := ⟨⟨by decide +kernel, by decide +kernel⟩, List.mem_of_getElem? (i := 145) (by decide +kernel), List.mem_of_getElem? (i := 526) (by decide +kernel), List.mem_of_getElem? (i := 527) (by decide +kernel)⟩
theorem lw_p21 : lw_okq (⟨"NameRows$Walk", "leadsToLife", "(I)Z"⟩, 18) := ⟨⟨by decide +kernel, by decide +kernel⟩, List.mem_of_getElem? (i := 145) (by decide +kernel), List.mem_of_getElem? (i := 533) (by decide +kernel), List.mem_of_getElem? (i := 534) (by decide +kernel)⟩
theorem lw_p22 : lw_okq (⟨"NameRows$Run", "pattern", "()I"⟩, 5) := ⟨⟨by decide +kernel, by decide +kernel⟩, List.mem_of_getElem? (i := 116) (by decide +kernel), List.mem_of_getElem? (i := 552) (by decide +kernel), List.mem_of_getElem? (i := 553) (by decide +kernel)⟩
theorem lw_p23 : lw_okq (⟨"NameRows$Machine", "isMet", "(I)Z"⟩, 8) := ⟨⟨by decide +kernel, by decide +kernel⟩, List.mem_of_getElem? (i := 52) (by decide +kernel), List.mem_of_getElem? (i := 573) (by decide +kernel), List.mem_of_getElem? (i := 574) (by decide +kernel)⟩
theorem lw_p24 : lw_okq (⟨"NameRows", "findLeast", "(II)I"⟩, 16) := ⟨⟨by decide +kernel, by decide +kernel⟩, List.mem_of_getElem? (i := 13) (by decide +kernel), List.mem_of_getElem? (i := 582) (by decide +kernel), List.mem_of_getElem? (i := 583) (by decide +kernel)⟩
theorem lw_p25 : lw_okq (⟨"NameRows", "leastAt", "(IIII)I"⟩, 16) := ⟨⟨by decide +kernel, by decide +kernel⟩, List.mem_of_getElem? (i := 13) (by decide +kernel), List.mem_of_getElem? (i := 601) (by decide +kernel), List.mem_of_getElem? (i := 602) (by decide +kernel)⟩
theorem lw_p26 : lw_okq (⟨"NameRows", "watchAt", "(I)LNameRows$Watch;"⟩, 16) := ⟨⟨by decide +kernel, by decide +kernel⟩, List.mem_of_getElem? (i := 13) (by decide +kernel), List.mem_of_getElem? (i := 641) (by decide +kernel), List.mem_of_getElem? (i := 642) (by decide +kernel)⟩
theorem lw_p27 : lw_okq (⟨"NameRows", "sheetAt", "(I)LNameRows$Sheet;"⟩, 16) := ⟨⟨by decide +kernel, by decide +kernel⟩, List.mem_of_getElem? (i := 13) (by decide +kernel), List.mem_of_getElem? (i := 663) (by decide +kernel), List.mem_of_getElem? (i := 664) (by decide +kernel)⟩
theorem lw_p28 : lw_okq (⟨"NameRows", "scanPlace", "(LNameRows$Sheet;I)I"⟩, 16) := ⟨⟨by decide +kernel, by decide +kernel⟩, List.mem_of_getElem? (i := 13) (by decide +kernel), List.mem_of_getElem? (i := 692) (by decide +kernel), List.mem_of_getElem? (i := 693) (by decide +kernel)⟩
theorem lw_p29 : lw_okq (⟨"NameRows", "watchesDone", "()I"⟩, 16) := ⟨⟨by decide +kernel, by decide +kernel⟩, List.mem_of_getElem? (i := 13) (by decide +kernel), List.mem_of_getElem? (i := 700) (by decide +kernel), List.mem_of_getElem? (i := 701) (by decide +kernel)⟩
theorem lw_p30 : lw_okq (⟨"NameRows", "countUnlikeMachines", "()I"⟩, 16) := ⟨⟨by decide +kernel, by decide +kernel⟩, List.mem_of_getElem? (i := 13) (by decide +kernel), List.mem_of_getElem? (i := 705) (by decide +kernel), List.mem_of_getElem? (i := 706) (by decide +kernel)⟩
theorem lw_p31 : lw_okq (⟨"NameRows", "isAsEarlierOne", "(I)Z"⟩, 16) := ⟨⟨by decide +kernel, by decide +kernel⟩, List.mem_of_getElem? (i := 13) (by decide +kernel), List.mem_of_getElem? (i := 709) (by decide +kernel), List.mem_of_getElem? (i := 710) (by decide +kernel)⟩
def lw_privs_2 : List (MethodName × Nat) := [(⟨"NameRows$Walk", "heldBehind", "(III)I"⟩, 18), (⟨"NameRows$Walk", "keep", "(III)V"⟩, 18), (⟨"NameRows$Walk", "digitOfEarlier", "(I)I"⟩, 18), (⟨"NameRows$Walk", "tellNext", "(ILNameRows$Machine;LNameRows$Machine;)V"⟩, 18), (⟨"NameRows$Walk", "spreadLife", "()Z"⟩, 18), (⟨"NameRows$Walk", "leadsToLife", "(I)Z"⟩, 18), (⟨"NameRows$Run", "pattern", "()I"⟩, 5), (⟨"NameRows$Machine", "isMet", "(I)Z"⟩, 8), (⟨"NameRows", "findLeast", "(II)I"⟩, 16), (⟨"NameRows", "leastAt", "(IIII)I"⟩, 16), (⟨"NameRows", "watchAt", "(I)LNameRows$Watch;"⟩, 16), (⟨"NameRows", "sheetAt", "(I)LNameRows$Sheet;"⟩, 16), (⟨"NameRows", "scanPlace", "(LNameRows$Sheet;I)I"⟩, 16), (⟨"NameRows", "watchesDone", "()I"⟩, 16), (⟨"NameRows", "countUnlikeMachines", "()I"⟩, 16), (⟨"NameRows", "isAsEarlierOne", "(I)Z"⟩, 16)]
theorem lw_r2 : ∀ q ∈ lw_privs_2, lw_okq q := List.forall_mem_cons.mpr ⟨lw_p16, List.forall_mem_cons.mpr ⟨lw_p17, List.forall_mem_cons.mpr ⟨lw_p18, List.forall_mem_cons.mpr ⟨lw_p19, List.forall_mem_cons.mpr ⟨lw_p20, List.forall_mem_cons.mpr ⟨lw_p21, List.forall_mem_cons.mpr ⟨lw_p22, List.forall_mem_cons.mpr ⟨lw_p23, List.forall_mem_cons.mpr ⟨lw_p24, List.forall_mem_cons.mpr ⟨lw_p25, List.forall_mem_cons.mpr ⟨lw_p26, List.forall_mem_cons.mpr ⟨lw_p27, List.forall_mem_cons.mpr ⟨lw_p28, List.forall_mem_cons.mpr ⟨lw_p29, List.forall_mem_cons.mpr ⟨lw_p30, List.forall_mem_cons.mpr ⟨lw_p31, fun _ h => absurd h List.not_mem_nil⟩⟩⟩⟩⟩⟩⟩⟩⟩⟩⟩⟩⟩⟩⟩⟩
theorem lw_p32 : lw_okq (⟨"NameRowsModel", "firstOf", "(I)I"⟩, 42) := ⟨⟨by decide +kernel, by decide +kernel⟩, List.mem_of_getElem? (i := 713) (by decide +kernel), List.mem_of_getElem? (i := 862) (by decide +kernel), List.mem_of_getElem? (i := 863) (by decide +kernel)⟩
theorem lw_p33 : lw_okq (⟨"NameRowsModel", "begins", "(III)V"⟩, 42) := ⟨⟨by decide +kernel, by decide +kernel⟩, List.mem_of_getElem? (i := 713) (by decide +kernel), List.mem_of_getElem? (i := 875) (by decide +kernel), List.mem_of_getElem? (i := 876) (by decide +kernel)⟩
theorem lw_p34 : lw_okq (⟨"NameRowsModel", "isStep", "(IIII)Z"⟩, 42) := ⟨⟨by decide +kernel, by decide +kernel⟩, List.mem_of_getElem? (i := 713) (by decide +kernel), List.mem_of_getElem? (i := 883) (by decide +kernel), List.mem_of_getElem? (i := 884) (by decide +kernel)⟩
theorem lw_p35 : lw_okq (⟨"NameRowsModel", "isState", "(II)Z"⟩, 42) := ⟨⟨by decide +kernel, by decide +kernel⟩, List.mem_of_getElem? (i := 713) (by decide +kernel), List.mem_of_getElem? (i := 887) (by decide +kernel), List.mem_of_getElem? (i := 888) (by decide +kernel)⟩
theorem lw_p36 : lw_okq (⟨"NameRowsModel", "isMachine", "(I)Z"⟩, 42) := ⟨⟨by decide +kernel, by decide +kernel⟩, List.mem_of_getElem? (i := 713) (by decide +kernel), List.mem_of_getElem? (i := 891) (by decide +kernel), List.mem_of_getElem? (i := 892) (by decide +kernel)⟩
theorem lw_p37 : lw_okq (⟨"NameRowsModel", "isCase", "(II)Z"⟩, 42) := ⟨⟨by decide +kernel, by decide +kernel⟩, List.mem_of_getElem? (i := 713) (by decide +kernel), List.mem_of_getElem? (i := 895) (by decide +kernel), List.mem_of_getElem? (i := 896) (by decide +kernel)⟩
theorem lw_p38 : lw_okq (⟨"NameRowsModel", "isWatched", "(I)Z"⟩, 42) := ⟨⟨by decide +kernel, by decide +kernel⟩, List.mem_of_getElem? (i := 713) (by decide +kernel), List.mem_of_getElem? (i := 899) (by decide +kernel), List.mem_of_getElem? (i := 900) (by decide +kernel)⟩
theorem lw_p39 : lw_okq (⟨"NameRowsModel", "pairAt", "(II)I"⟩, 42) := ⟨⟨by decide +kernel, by decide +kernel⟩, List.mem_of_getElem? (i := 713) (by decide +kernel), List.mem_of_getElem? (i := 930) (by decide +kernel), List.mem_of_getElem? (i := 931) (by decide +kernel)⟩
theorem lw_p40 : lw_okq (⟨"NameRowsModel", "runs", "(II)V"⟩, 42) := ⟨⟨by decide +kernel, by decide +kernel⟩, List.mem_of_getElem? (i := 713) (by decide +kernel), List.mem_of_getElem? (i := 938) (by decide +kernel), List.mem_of_getElem? (i := 939) (by decide +kernel)⟩
theorem lw_p41 : lw_okq (⟨"NameRowsModel", "starts", "()V"⟩, 42) := ⟨⟨by decide +kernel, by decide +kernel⟩, List.mem_of_getElem? (i := 713) (by decide +kernel), List.mem_of_getElem? (i := 942) (by decide +kernel), List.mem_of_getElem? (i := 943) (by decide +kernel)⟩
theorem lw_p42 : lw_okq (⟨"NameRowsModel", "goes", "(IIII)V"⟩, 42) := ⟨⟨by decide +kernel, by decide +kernel⟩, List.mem_of_getElem? (i := 713) (by decide +kernel), List.mem_of_getElem? (i := 946) (by decide +kernel), List.mem_of_getElem? (i := 947) (by decide +kernel)⟩
theorem lw_p43 : lw_okq (⟨"NameRowsModel", "findAlive", "(I)V"⟩, 42) := ⟨⟨by decide +kernel, by decide +kernel⟩, List.mem_of_getElem? (i := 713) (by decide +kernel), List.mem_of_getElem? (i := 959) (by decide +kernel), List.mem_of_getElem? (i := 960) (by decide +kernel)⟩
theorem lw_p44 : lw_okq (⟨"NameRowsModel", "explores", "(II)V"⟩, 42) := ⟨⟨by decide +kernel, by decide +kernel⟩, List.mem_of_getElem? (i := 713) (by decide +kernel), List.mem_of_getElem? (i := 963) (by decide +kernel), List.mem_of_getElem? (i := 964) (by decide +kernel)⟩
theorem lw_p45 : lw_okq (⟨"NameRowsModel", "labelsIn", "(I)I"⟩, 42) := ⟨⟨by decide +kernel, by decide +kernel⟩, List.mem_of_getElem? (i := 713) (by decide +kernel), List.mem_of_getElem? (i := 967) (by decide +kernel), List.mem_of_getElem? (i := 968) (by decide +kernel)⟩
theorem lw_p46 : lw_okq (⟨"NameRowsModel", "apart", "(I)V"⟩, 42) := ⟨⟨by decide +kernel, by decide +kernel⟩, List.mem_of_getElem? (i := 713) (by decide +kernel), List.mem_of_getElem? (i := 971) (by decide +kernel), List.mem_of_getElem? (i := 972) (by decide +kernel)⟩
theorem lw_p47 : lw_okq (⟨"NameRowsModel", "most", "()I"⟩, 42) := ⟨⟨by decide +kernel, by decide +kernel⟩, List.mem_of_getElem? (i := 713) (by decide +kernel), List.mem_of_getElem? (i := 975) (by decide +kernel), List.mem_of_getElem? (i := 976) (by decide +kernel)⟩
def lw_privs_3 : List (MethodName × Nat) := [(⟨"NameRowsModel", "firstOf", "(I)I"⟩, 42), (⟨"NameRowsModel", "begins", "(III)V"⟩, 42), (⟨"NameRowsModel", "isStep", "(IIII)Z"⟩, 42), (⟨"NameRowsModel", "isState", "(II)Z"⟩, 42), (⟨"NameRowsModel", "isMachine", "(I)Z"⟩, 42), (⟨"NameRowsModel", "isCase", "(II)Z"⟩, 42), (⟨"NameRowsModel", "isWatched", "(I)Z"⟩, 42), (⟨"NameRowsModel", "pairAt", "(II)I"⟩, 42), (⟨"NameRowsModel", "runs", "(II)V"⟩, 42), (⟨"NameRowsModel", "starts", "()V"⟩, 42), (⟨"NameRowsModel", "goes", "(IIII)V"⟩, 42), (⟨"NameRowsModel", "findAlive", "(I)V"⟩, 42), (⟨"NameRowsModel", "explores", "(II)V"⟩, 42), (⟨"NameRowsModel", "labelsIn", "(I)I"⟩, 42), (⟨"NameRowsModel", "apart", "(I)V"⟩, 42), (⟨"NameRowsModel", "most", "()I"⟩, 42)]
theorem lw_r3 : ∀ q ∈ lw_privs_3, lw_okq q := List.forall_mem_cons.mpr ⟨lw_p32, List.forall_mem_cons.mpr ⟨lw_p33, List.forall_mem_cons.mpr ⟨lw_p34, List.forall_mem_cons.mpr ⟨lw_p35, List.forall_mem_cons.mpr ⟨lw_p36, List.forall_mem_cons.mpr ⟨lw_p37, List.forall_mem_cons.mpr ⟨lw_p38, List.forall_mem_cons.mpr ⟨lw_p39, List.forall_mem_cons.mpr ⟨lw_p40, List.forall_mem_cons.mpr ⟨lw_p41, List.forall_mem_cons.mpr ⟨lw_p42, List.forall_mem_cons.mpr ⟨lw_p43, List.forall_mem_cons.mpr ⟨lw_p44, List.forall_mem_cons.mpr ⟨lw_p45, List.forall_mem_cons.mpr ⟨lw_p46, List.forall_mem_cons.mpr ⟨lw_p47, fun _ h => absurd h List.not_mem_nil⟩⟩⟩⟩⟩⟩⟩⟩⟩⟩⟩⟩⟩⟩⟩⟩
theorem lw_p48 : lw_okq (⟨"NameRowsModel", "behind", "(IIII)I"⟩, 42) := ⟨⟨by decide +kernel, by decide +kernel⟩, List.mem_of_getElem? (i := 713) (by decide +kernel), List.mem_of_getElem? (i := 979) (by decide +kernel), List.mem_of_getElem? (i := 980) (by decide +kernel)⟩
theorem lw_p49 : lw_okq (⟨"NameRowsModel", "goesOn", "(IIIII)I"⟩, 42) := ⟨⟨by decide +kernel, by decide +kernel⟩, List.mem_of_getElem? (i := 713) (by decide +kernel), List.mem_of_getElem? (i := 983) (by decide +kernel), List.mem_of_getElem? (i := 984) (by decide +kernel)⟩
theorem lw_p50 : lw_okq (⟨"NameRowsModel", "put", "()I"⟩, 42) := ⟨⟨by decide +kernel, by decide +kernel⟩, List.mem_of_getElem? (i := 713) (by decide +kernel), List.mem_of_getElem? (i := 987) (by decide +kernel), List.mem_of_getElem? (i := 988) (by decide +kernel)⟩
theorem lw_p51 : lw_okq (⟨"NameRowsModel", "isGoodA", "(II)Z"⟩, 42) := ⟨⟨by decide +kernel, by decide +kernel⟩, List.mem_of_getElem? (i := 713) (by decide +kernel), List.mem_of_getElem? (i := 991) (by decide +kernel), List.mem_of_getElem? (i := 992) (by decide +kernel)⟩
theorem lw_p52 : lw_okq (⟨"NameRowsModel", "leadsOn", "(II)Z"⟩, 42) := ⟨⟨by decide +kernel, by decide +kernel⟩, List.mem_of_getElem? (i := 713) (by decide +kernel), List.mem_of_getElem? (i := 995) (by decide +kernel), List.mem_of_getElem? (i := 996) (by decide +kernel)⟩
theorem lw_p53 : lw_okq (⟨"NameRowsModel", "orbitOf", "(IZIZI)I"⟩, 42) := ⟨⟨by decide +kernel, by decide +kernel⟩, List.mem_of_getElem? (i := 713) (by decide +kernel), List.mem_of_getElem? (i := 999) (by decide +kernel), List.mem_of_getElem? (i := 1000) (by decide +kernel)⟩
theorem lw_p54 : lw_okq (⟨"NameRowsModel", "lengthOf", "(II)I"⟩, 42) := ⟨⟨by decide +kernel, by decide +kernel⟩, List.mem_of_getElem? (i := 713) (by decide +kernel), List.mem_of_getElem? (i := 1011) (by decide +kernel), List.mem_of_getElem? (i := 1012) (by decide +kernel)⟩
theorem lw_p55 : lw_okq (⟨"NameRowsModel", "wanted", "(II)I"⟩, 42) := ⟨⟨by decide +kernel, by decide +kernel⟩, List.mem_of_getElem? (i := 713) (by decide +kernel), List.mem_of_getElem? (i := 1015) (by decide +kernel), List.mem_of_getElem? (i := 1016) (by decide +kernel)⟩
theorem lw_p56 : lw_okq (⟨"NameRowsModel", "isGoodB", "(II)Z"⟩, 42) := ⟨⟨by decide +kernel, by decide +kernel⟩, List.mem_of_getElem? (i := 713) (by decide +kernel), List.mem_of_getElem? (i := 1019) (by decide +kernel), List.mem_of_getElem? (i := 1020) (by decide +kernel)⟩
theorem lw_p57 : lw_okq (⟨"NameRowsModel", "lines", "(I)I"⟩, 42) := ⟨⟨by decide +kernel, by decide +kernel⟩, List.mem_of_getElem? (i := 713) (by decide +kernel), List.mem_of_getElem? (i := 1023) (by decide +kernel), List.mem_of_getElem? (i := 1024) (by decide +kernel)⟩
theorem lw_p58 : lw_okq (⟨"NameRowsModel", "atOf", "(IIII)I"⟩, 42) := ⟨⟨by decide +kernel, by decide +kernel⟩, List.mem_of_getElem? (i := 713) (by decide +kernel), List.mem_of_getElem? (i := 1031) (by decide +kernel), List.mem_of_getElem? (i := 1032) (by decide +kernel)⟩
theorem lw_p59 : lw_okq (⟨"NameRowsModel", "tells", "(III)V"⟩, 42) := ⟨⟨by decide +kernel, by decide +kernel⟩, List.mem_of_getElem? (i := 713) (by decide +kernel), List.mem_of_getElem? (i := 1035) (by decide +kernel), List.mem_of_getElem? (i := 1036) (by decide +kernel)⟩
theorem lw_p60 : lw_okq (⟨"NameRowsModel", "keepsReal", "(IIII)V"⟩, 42) := ⟨⟨by decide +kernel, by decide +kernel⟩, List.mem_of_getElem? (i := 713) (by decide +kernel), List.mem_of_getElem? (i := 1039) (by decide +kernel), List.mem_of_getElem? (i := 1040) (by decide +kernel)⟩
theorem lw_p61 : lw_okq (⟨"NameRowsModel", "isDead", "(I)Z"⟩, 42) := ⟨⟨by decide +kernel, by decide +kernel⟩, List.mem_of_getElem? (i := 713) (by decide +kernel), List.mem_of_getElem? (i := 1063) (by decide +kernel), List.mem_of_getElem? (i := 1064) (by decide +kernel)⟩
def lw_privs_4 : List (MethodName × Nat) := [(⟨"NameRowsModel", "behind", "(IIII)I"⟩, 42), (⟨"NameRowsModel", "goesOn", "(IIIII)I"⟩, 42), (⟨"NameRowsModel", "put", "()I"⟩, 42), (⟨"NameRowsModel", "isGoodA", "(II)Z"⟩, 42), (⟨"NameRowsModel", "leadsOn", "(II)Z"⟩, 42), (⟨"NameRowsModel", "orbitOf", "(IZIZI)I"⟩, 42), (⟨"NameRowsModel", "lengthOf", "(II)I"⟩, 42), (⟨"NameRowsModel", "wanted", "(II)I"⟩, 42), (⟨"NameRowsModel", "isGoodB", "(II)Z"⟩, 42), (⟨"NameRowsModel", "lines", "(I)I"⟩, 42), (⟨"NameRowsModel", "atOf", "(IIII)I"⟩, 42), (⟨"NameRowsModel", "tells", "(III)V"⟩, 42), (⟨"NameRowsModel", "keepsReal", "(IIII)V"⟩, 42), (⟨"NameRowsModel", "isDead", "(I)Z"⟩, 42)]
theorem lw_r4 : ∀ q ∈ lw_privs_4, lw_okq q := List.forall_mem_cons.mpr ⟨lw_p48, List.forall_mem_cons.mpr ⟨lw_p49, List.forall_mem_cons.mpr ⟨lw_p50, List.forall_mem_cons.mpr ⟨lw_p51, List.forall_mem_cons.mpr ⟨lw_p52, List.forall_mem_cons.mpr ⟨lw_p53, List.forall_mem_cons.mpr ⟨lw_p54, List.forall_mem_cons.mpr ⟨lw_p55, List.forall_mem_cons.mpr ⟨lw_p56, List.forall_mem_cons.mpr ⟨lw_p57, List.forall_mem_cons.mpr ⟨lw_p58, List.forall_mem_cons.mpr ⟨lw_p59, List.forall_mem_cons.mpr ⟨lw_p60, List.forall_mem_cons.mpr ⟨lw_p61, fun _ h => absurd h List.not_mem_nil⟩⟩⟩⟩⟩⟩⟩⟩⟩⟩⟩⟩⟩⟩
def lw_privs : List (MethodName × Nat) := lw_privs_1 ++ (lw_privs_2 ++ (lw_privs_3 ++ (lw_privs_4)))
def lw_tbl : List Cond := k2_sels lw_privs ++ tables_1
theorem lw_privs_ok : ∀ q ∈ lw_privs, lw_okq q := by
  show ∀ q ∈ lw_privs_1 ++ (lw_privs_2 ++ (lw_privs_3 ++ (lw_privs_4))), lw_okq q
  exact List.forall_mem_append.mpr ⟨lw_r1, List.forall_mem_append.mpr ⟨lw_r2, List.forall_mem_append.mpr ⟨lw_r3, lw_r4⟩⟩⟩
/-! ===== BEGIN printed: names, fields, word lists, decode rows ===== -/
def RX0 : String := "NameRows$Machine"
def TX0 : u_T := fun k => match k with
  | 0 => ("NameRows$Machine", "next", "[I", true)
  | 1 => ("NameRows$Machine", "keep", "[I", true)
  | 2 => ("NameRows$Machine", "goodOnes", "[Z", true)
  | 3 => ("NameRows$Machine", "states", "I", false)
  | 4 => ("NameRows$Machine", "registers", "I", false)
  | 5 => ("NameRows$Machine", "watched", "Z", false)
  | 6 => ("NameRows$Machine", "fate", "[I", true)
  | _ => ("NameRows$Machine", "orbitsKnown", "Z", false)
def tyX0 : Nat → FieldType := fun k => match k with
  | 0 => .array .int
  | 1 => .array .int
  | 2 => .array .boolean
  | 3 => .int
  | 4 => .int
  | 5 => .boolean
  | 6 => .array .int
  | _ => .boolean
abbrev wsX00 : List Cond := u_ws RX0 TX0 8
theorem nmX0 : ∀ a, a < 8 → ∀ b, b < 8 → a ≠ b → (TX0 a).2.1 ≠ (TX0 b).2.1 := by decide +kernel
theorem tyX0_ok : ∀ k, k < 8 → parseFieldDescriptor (TX0 k).2.2.1 = some (tyX0 k) := by decide +kernel
abbrev cX0_init : ByteArray := prog_2_method_1_code
def yX0_init : MethodName := ⟨RX0, "<init>", "()V"⟩
abbrev cX0_begin : ByteArray := prog_2_method_2_code
def yX0_begin : MethodName := ⟨RX0, "begin", "(II)V"⟩
abbrev cX0_turnFrom : ByteArray := prog_2_method_3_code
def yX0_turnFrom : MethodName := ⟨RX0, "turnFrom", "(LNameRows$Machine;)V"⟩
abbrev cX0_hasState : ByteArray := prog_2_method_4_code
def yX0_hasState : MethodName := ⟨RX0, "hasState", "(I)Z"⟩
abbrev cX0_stepAt : ByteArray := prog_2_method_5_code
def yX0_stepAt : MethodName := ⟨RX0, "stepAt", "(III)I"⟩
abbrev cX0_canKeep : ByteArray := prog_2_method_6_code
def yX0_canKeep : MethodName := ⟨RX0, "canKeep", "(I)Z"⟩
abbrev cX0_setStep : ByteArray := prog_2_method_7_code
def yX0_setStep : MethodName := ⟨RX0, "setStep", "(III)V"⟩
abbrev cX0_isGood : ByteArray := prog_2_method_8_code
def yX0_isGood : MethodName := ⟨RX0, "isGood", "(I)Z"⟩
abbrev cX0_setGood : ByteArray := prog_2_method_9_code
def yX0_setGood : MethodName := ⟨RX0, "setGood", "(IZ)V"⟩
abbrev cX0_goodStates : ByteArray := prog_2_method_10_code
def yX0_goodStates : MethodName := ⟨RX0, "goodStates", "()I"⟩
abbrev cX0_forgetOrbits : ByteArray := prog_2_method_11_code
def yX0_forgetOrbits : MethodName := ⟨RX0, "forgetOrbits", "()V"⟩
abbrev cX0_setFate : ByteArray := prog_2_method_12_code
def yX0_setFate : MethodName := ⟨RX0, "setFate", "(III)V"⟩
abbrev cX0_fateOf : ByteArray := prog_2_method_13_code
def yX0_fateOf : MethodName := ⟨RX0, "fateOf", "(II)I"⟩
abbrev cX0_orbitsOf : ByteArray := prog_2_method_14_code
def yX0_orbitsOf : MethodName := ⟨RX0, "orbitsOf", "(I)I"⟩
abbrev cX0_statesMet : ByteArray := prog_2_method_15_code
def yX0_statesMet : MethodName := ⟨RX0, "statesMet", "()I"⟩
abbrev cX0_isMet : ByteArray := prog_2_method_16_code
def yX0_isMet : MethodName := ⟨RX0, "isMet", "(I)Z"⟩
def RX1 : String := "NameRows$Pairing"
def TX1 : u_T := fun k => match k with
  | 0 => ("NameRows$Pairing", "pairs", "[I", true)
  | _ => ("NameRows$Pairing", "met", "I", false)
def tyX1 : Nat → FieldType := fun k => match k with
  | 0 => .array .int
  | _ => .int
abbrev wsX10 : List Cond := u_ws RX1 TX1 2
theorem nmX1 : ∀ a, a < 2 → ∀ b, b < 2 → a ≠ b → (TX1 a).2.1 ≠ (TX1 b).2.1 := by decide +kernel
theorem tyX1_ok : ∀ k, k < 2 → parseFieldDescriptor (TX1 k).2.2.1 = some (tyX1 k) := by decide +kernel
abbrev cX1_init : ByteArray := prog_3_method_1_code
def yX1_init : MethodName := ⟨RX1, "<init>", "()V"⟩
abbrev cX1_join : ByteArray := prog_3_method_2_code
def yX1_join : MethodName := ⟨RX1, "join", "(LNameRows$Machine;LNameRows$Machine;LNameRows$Machine;I)Z"⟩
abbrev cX1_joinSteps : ByteArray := prog_3_method_3_code
def yX1_joinSteps : MethodName := ⟨RX1, "joinSteps", "(LNameRows$Machine;ILNameRows$Machine;LNameRows$Machine;)Z"⟩
abbrev cX1_numberOf : ByteArray := prog_3_method_4_code
def yX1_numberOf : MethodName := ⟨RX1, "numberOf", "(I)I"⟩
abbrev cX1_isGood : ByteArray := prog_3_method_5_code
def yX1_isGood : MethodName := ⟨RX1, "isGood", "(ZZI)Z"⟩
def RX2 : String := "NameRows$Row"
def TX2 : u_T := fun k => match k with
  | 0 => ("NameRows$Row", "letters", "[I", true)
  | 1 => ("NameRows$Row", "called", "[I", true)
  | _ => ("NameRows$Row", "length", "I", false)
def tyX2 : Nat → FieldType := fun k => match k with
  | 0 => .array .int
  | 1 => .array .int
  | _ => .int
abbrev wsX20 : List Cond := u_ws RX2 TX2 3
theorem nmX2 : ∀ a, a < 3 → ∀ b, b < 3 → a ≠ b → (TX2 a).2.1 ≠ (TX2 b).2.1 := by decide +kernel
theorem tyX2_ok : ∀ k, k < 3 → parseFieldDescriptor (TX2 k).2.2.1 = some (tyX2 k) := by decide +kernel
abbrev cX2_init : ByteArray := prog_4_method_1_code
def yX2_init : MethodName := ⟨RX2, "<init>", "(I)V"⟩
abbrev cX2_hasPlace : ByteArray := prog_4_method_2_code
def yX2_hasPlace : MethodName := ⟨RX2, "hasPlace", "(I)Z"⟩
abbrev cX2_hasPrefix : ByteArray := prog_4_method_3_code
def yX2_hasPrefix : MethodName := ⟨RX2, "hasPrefix", "(I)Z"⟩
abbrev cX2_append : ByteArray := prog_4_method_4_code
def yX2_append : MethodName := ⟨RX2, "append", "(II)I"⟩
abbrev cX2_firstWithNameOf : ByteArray := prog_4_method_5_code
def yX2_firstWithNameOf : MethodName := ⟨RX2, "firstWithNameOf", "(I)I"⟩
abbrev cX2_becomeAs : ByteArray := prog_4_method_6_code
def yX2_becomeAs : MethodName := ⟨RX2, "becomeAs", "(LNameRows$Row;)V"⟩
def RX3 : String := "NameRows$Run"
def TX3 : u_T := fun k => match k with
  | 0 => ("NameRows$Run", "state", "I", false)
  | 1 => ("NameRows$Run", "held", "[I", true)
  | 2 => ("NameRows$Run", "keptAt", "[I", true)
  | 3 => ("NameRows$Run", "lastCase", "I", false)
  | _ => ("NameRows$Run", "gone", "I", false)
def tyX3 : Nat → FieldType := fun k => match k with
  | 0 => .int
  | 1 => .array .int
  | 2 => .array .int
  | 3 => .int
  | _ => .int
abbrev wsX30 : List Cond := u_ws RX3 TX3 5
theorem nmX3 : ∀ a, a < 5 → ∀ b, b < 5 → a ≠ b → (TX3 a).2.1 ≠ (TX3 b).2.1 := by decide +kernel
theorem tyX3_ok : ∀ k, k < 5 → parseFieldDescriptor (TX3 k).2.2.1 = some (tyX3 k) := by decide +kernel
abbrev cX3_init : ByteArray := prog_5_method_1_code
def yX3_init : MethodName := ⟨RX3, "<init>", "()V"⟩
abbrev cX3_begin : ByteArray := prog_5_method_2_code
def yX3_begin : MethodName := ⟨RX3, "begin", "()V"⟩
abbrev cX3_go : ByteArray := prog_5_method_3_code
def yX3_go : MethodName := ⟨RX3, "go", "(LNameRows$Machine;II)V"⟩
abbrev cX3_keepIn : ByteArray := prog_5_method_4_code
def yX3_keepIn : MethodName := ⟨RX3, "keepIn", "(II)V"⟩
abbrev cX3_caseOf : ByteArray := prog_5_method_5_code
def yX3_caseOf : MethodName := ⟨RX3, "caseOf", "(I)I"⟩
abbrev cX3_isDoomed : ByteArray := prog_5_method_6_code
def yX3_isDoomed : MethodName := ⟨RX3, "isDoomed", "(LNameRows$Machine;)Z"⟩
abbrev cX3_pattern : ByteArray := prog_5_method_7_code
def yX3_pattern : MethodName := ⟨RX3, "pattern", "()I"⟩
def RX4 : String := "NameRows$Sheet"
def TX4 : u_T := fun k => match k with
  | 0 => ("NameRows$Sheet", "cells", "[I", true)
  | 1 => ("NameRows$Sheet", "lane", "I", false)
  | _ => ("NameRows$Sheet", "size", "I", false)
def tyX4 : Nat → FieldType := fun k => match k with
  | 0 => .array .int
  | 1 => .int
  | _ => .int
abbrev wsX40 : List Cond := u_ws RX4 TX4 3
theorem nmX4 : ∀ a, a < 3 → ∀ b, b < 3 → a ≠ b → (TX4 a).2.1 ≠ (TX4 b).2.1 := by decide +kernel
theorem tyX4_ok : ∀ k, k < 3 → parseFieldDescriptor (TX4 k).2.2.1 = some (tyX4 k) := by decide +kernel
abbrev cX4_init : ByteArray := prog_6_method_1_code
def yX4_init : MethodName := ⟨RX4, "<init>", "()V"⟩
abbrev cX4_begin : ByteArray := prog_6_method_2_code
def yX4_begin : MethodName := ⟨RX4, "begin", "(II)V"⟩
abbrev cX4_isNothing : ByteArray := prog_6_method_3_code
def yX4_isNothing : MethodName := ⟨RX4, "isNothing", "()Z"⟩
abbrev cX4_hasCell : ByteArray := prog_6_method_4_code
def yX4_hasCell : MethodName := ⟨RX4, "hasCell", "(I)Z"⟩
abbrev cX4_setCell : ByteArray := prog_6_method_5_code
def yX4_setCell : MethodName := ⟨RX4, "setCell", "(II)V"⟩
def RX5 : String := "NameRows$Walk"
def TX5 : u_T := fun k => match k with
  | 0 => ("NameRows$Walk", "numberOf", "[I", true)
  | 1 => ("NameRows$Walk", "codes", "[I", true)
  | 2 => ("NameRows$Walk", "cameFrom", "[I", true)
  | 3 => ("NameRows$Walk", "cameBy", "[I", true)
  | 4 => ("NameRows$Walk", "met", "I", false)
  | 5 => ("NameRows$Walk", "state1", "I", false)
  | 6 => ("NameRows$Walk", "state2", "I", false)
  | 7 => ("NameRows$Walk", "heldCode", "I", false)
  | 8 => ("NameRows$Walk", "labels", "[I", true)
  | 9 => ("NameRows$Walk", "wayLabels", "[I", true)
  | 10 => ("NameRows$Walk", "cases1", "[I", true)
  | 11 => ("NameRows$Walk", "cases2", "[I", true)
  | 12 => ("NameRows$Walk", "newLabels", "[I", true)
  | 13 => ("NameRows$Walk", "digits", "[I", true)
  | 14 => ("NameRows$Walk", "lives", "[Z", true)
  | 15 => ("NameRows$Walk", "next", "[I", true)
  | 16 => ("NameRows$Walk", "run1", "LNameRows$Run;", true)
  | _ => ("NameRows$Walk", "run2", "LNameRows$Run;", true)
def tyX5 : Nat → FieldType := fun k => match k with
  | 0 => .array .int
  | 1 => .array .int
  | 2 => .array .int
  | 3 => .array .int
  | 4 => .int
  | 5 => .int
  | 6 => .int
  | 7 => .int
  | 8 => .array .int
  | 9 => .array .int
  | 10 => .array .int
  | 11 => .array .int
  | 12 => .array .int
  | 13 => .array .int
  | 14 => .array .boolean
  | 15 => .array .int
  | 16 => .object "NameRows$Run"
  | _ => .object "NameRows$Run"
abbrev wsX50 : List Cond := u_ws RX5 TX5 18
theorem nmX5 : ∀ a, a < 18 → ∀ b, b < 18 → a ≠ b → (TX5 a).2.1 ≠ (TX5 b).2.1 := by decide +kernel
theorem tyX5_ok : ∀ k, k < 18 → parseFieldDescriptor (TX5 k).2.2.1 = some (tyX5 k) := by decide +kernel
abbrev cX5_init : ByteArray := prog_7_method_1_code
def yX5_init : MethodName := ⟨RX5, "<init>", "()V"⟩
abbrev cX5_patternOf : ByteArray := prog_7_method_2_code
def yX5_patternOf : MethodName := ⟨RX5, "patternOf", "(II)I"⟩
abbrev cX5_explore : ByteArray := prog_7_method_3_code
def yX5_explore : MethodName := ⟨RX5, "explore", "(LNameRows$Machine;LNameRows$Machine;I)I"⟩
abbrev cX5_forget : ByteArray := prog_7_method_4_code
def yX5_forget : MethodName := ⟨RX5, "forget", "()V"⟩
abbrev cX5_meet : ByteArray := prog_7_method_5_code
def yX5_meet : MethodName := ⟨RX5, "meet", "(III)V"⟩
abbrev cX5_isWanted : ByteArray := prog_7_method_6_code
def yX5_isWanted : MethodName := ⟨RX5, "isWanted", "(ZZI)Z"⟩
abbrev cX5_lookAt : ByteArray := prog_7_method_7_code
def yX5_lookAt : MethodName := ⟨RX5, "lookAt", "(I)V"⟩
abbrev cX5_codeBehind : ByteArray := prog_7_method_8_code
def yX5_codeBehind : MethodName := ⟨RX5, "codeBehind", "(LNameRows$Machine;LNameRows$Machine;I)I"⟩
abbrev cX5_labelOf : ByteArray := prog_7_method_9_code
def yX5_labelOf : MethodName := ⟨RX5, "labelOf", "(I)I"⟩
abbrev cX5_caseOf : ByteArray := prog_7_method_10_code
def yX5_caseOf : MethodName := ⟨RX5, "caseOf", "(II)I"⟩
abbrev cX5_heldBehind : ByteArray := prog_7_method_11_code
def yX5_heldBehind : MethodName := ⟨RX5, "heldBehind", "(III)I"⟩
abbrev cX5_keep : ByteArray := prog_7_method_12_code
def yX5_keep : MethodName := ⟨RX5, "keep", "(III)V"⟩
abbrev cX5_digitOfEarlier : ByteArray := prog_7_method_13_code
def yX5_digitOfEarlier : MethodName := ⟨RX5, "digitOfEarlier", "(I)I"⟩
abbrev cX5_tellWays : ByteArray := prog_7_method_14_code
def yX5_tellWays : MethodName := ⟨RX5, "tellWays", "(ILNameRows$Row;)V"⟩
abbrev cX5_giveNames : ByteArray := prog_7_method_15_code
def yX5_giveNames : MethodName := ⟨RX5, "giveNames", "(LNameRows$Machine;LNameRows$Machine;LNameRows$Row;)V"⟩
abbrev cX5_survey : ByteArray := prog_7_method_16_code
def yX5_survey : MethodName := ⟨RX5, "survey", "(LNameRows$Machine;LNameRows$Machine;)V"⟩
abbrev cX5_tellNext : ByteArray := prog_7_method_17_code
def yX5_tellNext : MethodName := ⟨RX5, "tellNext", "(ILNameRows$Machine;LNameRows$Machine;)V"⟩
abbrev cX5_spreadLife : ByteArray := prog_7_method_18_code
def yX5_spreadLife : MethodName := ⟨RX5, "spreadLife", "()Z"⟩
abbrev cX5_leadsToLife : ByteArray := prog_7_method_19_code
def yX5_leadsToLife : MethodName := ⟨RX5, "leadsToLife", "(I)Z"⟩
def RX6 : String := "NameRows$Watch"
def TX6 : u_T := fun k => match k with
  | 0 => ("NameRows$Watch", "run", "LNameRows$Run;", true)
  | 1 => ("NameRows$Watch", "machine", "LNameRows$Machine;", false)
  | 2 => ("NameRows$Watch", "timesGood", "I", false)
  | _ => ("NameRows$Watch", "doneAt", "I", false)
def tyX6 : Nat → FieldType := fun k => match k with
  | 0 => .object "NameRows$Run"
  | 1 => .object "NameRows$Machine"
  | 2 => .int
  | _ => .int
abbrev wsX60 : List Cond := u_ws RX6 TX6 4
theorem nmX6 : ∀ a, a < 4 → ∀ b, b < 4 → a ≠ b → (TX6 a).2.1 ≠ (TX6 b).2.1 := by decide +kernel
theorem tyX6_ok : ∀ k, k < 4 → parseFieldDescriptor (TX6 k).2.2.1 = some (tyX6 k) := by decide +kernel
abbrev cX6_init : ByteArray := prog_8_method_1_code
def yX6_init : MethodName := ⟨RX6, "<init>", "()V"⟩
abbrev cX6_begin : ByteArray := prog_8_method_2_code
def yX6_begin : MethodName := ⟨RX6, "begin", "(LNameRows$Machine;)V"⟩
abbrev cX6_isDone : ByteArray := prog_8_method_3_code
def yX6_isDone : MethodName := ⟨RX6, "isDone", "()Z"⟩
abbrev cX6_take : ByteArray := prog_8_method_4_code
def yX6_take : MethodName := ⟨RX6, "take", "(II)I"⟩
def RX7 : String := "NameRows"
def TX7 : u_T := fun k => match k with
  | 0 => ("NameRows", "row", "LNameRows$Row;", true)
  | 1 => ("NameRows", "machines", "[LNameRows$Machine;", true)
  | 2 => ("NameRows", "machineCount", "I", false)
  | 3 => ("NameRows", "watches", "[LNameRows$Watch;", true)
  | 4 => ("NameRows", "watchCount", "I", false)
  | 5 => ("NameRows", "sheets", "[LNameRows$Sheet;", true)
  | 6 => ("NameRows", "silent", "LNameRows$Machine;", true)
  | 7 => ("NameRows", "pairing", "LNameRows$Pairing;", true)
  | 8 => ("NameRows", "run", "LNameRows$Run;", true)
  | 9 => ("NameRows", "walk", "LNameRows$Walk;", true)
  | 10 => ("NameRows", "least", "LNameRows$Row;", true)
  | 11 => ("NameRows", "leastKnown", "Z", false)
  | 12 => ("NameRows", "leastOne", "I", false)
  | 13 => ("NameRows", "leastOther", "I", false)
  | 14 => ("NameRows", "leastAnswer", "I", false)
  | _ => ("NameRows", "unlikeMachines", "I", false)
def tyX7 : Nat → FieldType := fun k => match k with
  | 0 => .object "NameRows$Row"
  | 1 => .array (.object "NameRows$Machine")
  | 2 => .int
  | 3 => .array (.object "NameRows$Watch")
  | 4 => .int
  | 5 => .array (.object "NameRows$Sheet")
  | 6 => .object "NameRows$Machine"
  | 7 => .object "NameRows$Pairing"
  | 8 => .object "NameRows$Run"
  | 9 => .object "NameRows$Walk"
  | 10 => .object "NameRows$Row"
  | 11 => .boolean
  | 12 => .int
  | 13 => .int
  | 14 => .int
  | _ => .int
abbrev wsX70 : List Cond := u_ws RX7 TX7 16
theorem nmX7 : ∀ a, a < 16 → ∀ b, b < 16 → a ≠ b → (TX7 a).2.1 ≠ (TX7 b).2.1 := by decide +kernel
theorem tyX7_ok : ∀ k, k < 16 → parseFieldDescriptor (TX7 k).2.2.1 = some (tyX7 k) := by decide +kernel
abbrev cX7_init : ByteArray := prog_1_method_1_code
def yX7_init : MethodName := ⟨RX7, "<init>", "()V"⟩
abbrev cX7_place : ByteArray := prog_1_method_2_code
def yX7_place : MethodName := ⟨RX7, "place", "(II)I"⟩
abbrev cX7_cut : ByteArray := prog_1_method_3_code
def yX7_cut : MethodName := ⟨RX7, "cut", "(I)I"⟩
abbrev cX7_first : ByteArray := prog_1_method_4_code
def yX7_first : MethodName := ⟨RX7, "first", "(I)I"⟩
abbrev cX7_names : ByteArray := prog_1_method_5_code
def yX7_names : MethodName := ⟨RX7, "names", "()I"⟩
abbrev cX7_machine : ByteArray := prog_1_method_6_code
def yX7_machine : MethodName := ⟨RX7, "machine", "(II)I"⟩
abbrev cX7_step : ByteArray := prog_1_method_7_code
def yX7_step : MethodName := ⟨RX7, "step", "(IIIIII)I"⟩
abbrev cX7_good : ByteArray := prog_1_method_8_code
def yX7_good : MethodName := ⟨RX7, "good", "(IIZ)I"⟩
abbrev cX7_told : ByteArray := prog_1_method_9_code
def yX7_told : MethodName := ⟨RX7, "told", "(II)I"⟩
abbrev cX7_stepOf : ByteArray := prog_1_method_10_code
def yX7_stepOf : MethodName := ⟨RX7, "stepOf", "(IIIII)I"⟩
abbrev cX7_drop : ByteArray := prog_1_method_11_code
def yX7_drop : MethodName := ⟨RX7, "drop", "()I"⟩
abbrev cX7_turned : ByteArray := prog_1_method_12_code
def yX7_turned : MethodName := ⟨RX7, "turned", "(I)I"⟩
abbrev cX7_both : ByteArray := prog_1_method_13_code
def yX7_both : MethodName := ⟨RX7, "both", "(III)I"⟩
abbrev cX7_machineAt : ByteArray := prog_1_method_14_code
def yX7_machineAt : MethodName := ⟨RX7, "machineAt", "(I)LNameRows$Machine;"⟩
abbrev cX7_spareMachine : ByteArray := prog_1_method_15_code
def yX7_spareMachine : MethodName := ⟨RX7, "spareMachine", "()LNameRows$Machine;"⟩
abbrev cX7_addSpareMachine : ByteArray := prog_1_method_16_code
def yX7_addSpareMachine : MethodName := ⟨RX7, "addSpareMachine", "()I"⟩
abbrev cX7_machinesChanged : ByteArray := prog_1_method_17_code
def yX7_machinesChanged : MethodName := ⟨RX7, "machinesChanged", "()V"⟩
abbrev cX7_takes : ByteArray := prog_1_method_18_code
def yX7_takes : MethodName := ⟨RX7, "takes", "(II)I"⟩
abbrev cX7_ran : ByteArray := prog_1_method_19_code
def yX7_ran : MethodName := ⟨RX7, "ran", "(III)I"⟩
abbrev cX7_doomed : ByteArray := prog_1_method_20_code
def yX7_doomed : MethodName := ⟨RX7, "doomed", "(I)I"⟩
abbrev cX7_runOver : ByteArray := prog_1_method_21_code
def yX7_runOver : MethodName := ⟨RX7, "runOver", "(LNameRows$Machine;I)V"⟩
abbrev cX7_learnOrbits : ByteArray := prog_1_method_22_code
def yX7_learnOrbits : MethodName := ⟨RX7, "learnOrbits", "(LNameRows$Machine;)V"⟩
abbrev cX7_orbits : ByteArray := prog_1_method_23_code
def yX7_orbits : MethodName := ⟨RX7, "orbits", "(II)I"⟩
abbrev cX7_shortest : ByteArray := prog_1_method_24_code
def yX7_shortest : MethodName := ⟨RX7, "shortest", "(I)I"⟩
abbrev cX7_shortestAt : ByteArray := prog_1_method_25_code
def yX7_shortestAt : MethodName := ⟨RX7, "shortestAt", "(III)I"⟩
abbrev cX7_parts : ByteArray := prog_1_method_26_code
def yX7_parts : MethodName := ⟨RX7, "parts", "(II)I"⟩
abbrev cX7_partsAt : ByteArray := prog_1_method_27_code
def yX7_partsAt : MethodName := ⟨RX7, "partsAt", "(IIII)I"⟩
abbrev cX7_within : ByteArray := prog_1_method_28_code
def yX7_within : MethodName := ⟨RX7, "within", "(II)I"⟩
abbrev cX7_show : ByteArray := prog_1_method_29_code
def yX7_show : MethodName := ⟨RX7, "show", "(II)I"⟩
abbrev cX7_findLeast : ByteArray := prog_1_method_30_code
def yX7_findLeast : MethodName := ⟨RX7, "findLeast", "(II)I"⟩
abbrev cX7_leastAt : ByteArray := prog_1_method_31_code
def yX7_leastAt : MethodName := ⟨RX7, "leastAt", "(IIII)I"⟩
abbrev cX7_watch : ByteArray := prog_1_method_32_code
def yX7_watch : MethodName := ⟨RX7, "watch", "(I)I"⟩
abbrev cX7_see : ByteArray := prog_1_method_33_code
def yX7_see : MethodName := ⟨RX7, "see", "(III)I"⟩
abbrev cX7_seen : ByteArray := prog_1_method_34_code
def yX7_seen : MethodName := ⟨RX7, "seen", "(II)I"⟩
abbrev cX7_watchAt : ByteArray := prog_1_method_35_code
def yX7_watchAt : MethodName := ⟨RX7, "watchAt", "(I)LNameRows$Watch;"⟩
abbrev cX7_sheet : ByteArray := prog_1_method_36_code
def yX7_sheet : MethodName := ⟨RX7, "sheet", "(III)I"⟩
abbrev cX7_lay : ByteArray := prog_1_method_37_code
def yX7_lay : MethodName := ⟨RX7, "lay", "(III)I"⟩
abbrev cX7_scan : ByteArray := prog_1_method_38_code
def yX7_scan : MethodName := ⟨RX7, "scan", "(IIII)I"⟩
abbrev cX7_scanPlace : ByteArray := prog_1_method_39_code
def yX7_scanPlace : MethodName := ⟨RX7, "scanPlace", "(LNameRows$Sheet;I)I"⟩
abbrev cX7_sheetAt : ByteArray := prog_1_method_40_code
def yX7_sheetAt : MethodName := ⟨RX7, "sheetAt", "(I)LNameRows$Sheet;"⟩
abbrev cX7_count : ByteArray := prog_1_method_41_code
def yX7_count : MethodName := ⟨RX7, "count", "(I)I"⟩
abbrev cX7_watchesDone : ByteArray := prog_1_method_42_code
def yX7_watchesDone : MethodName := ⟨RX7, "watchesDone", "()I"⟩
abbrev cX7_countUnlikeMachines : ByteArray := prog_1_method_43_code
def yX7_countUnlikeMachines : MethodName := ⟨RX7, "countUnlikeMachines", "()I"⟩
abbrev cX7_isAsEarlierOne : ByteArray := prog_1_method_44_code
def yX7_isAsEarlierOne : MethodName := ⟨RX7, "isAsEarlierOne", "(I)Z"⟩
def RX8 : String := "NameRowsModel"
def TX8 : u_T := fun k => match k with
  | 0 => ("NameRowsModel", "places", "I", false)
  | 1 => ("NameRowsModel", "letters", "[I", true)
  | 2 => ("NameRowsModel", "names", "[I", true)
  | 3 => ("NameRowsModel", "machines", "I", false)
  | 4 => ("NameRowsModel", "many", "[I", true)
  | 5 => ("NameRowsModel", "regs", "[I", true)
  | 6 => ("NameRowsModel", "isGood", "[Z", true)
  | 7 => ("NameRowsModel", "nexts", "[I", true)
  | 8 => ("NameRowsModel", "keeps", "[I", true)
  | 9 => ("NameRowsModel", "pairs", "[I", true)
  | 10 => ("NameRowsModel", "bothNext", "[I", true)
  | 11 => ("NameRowsModel", "bothKeep", "[I", true)
  | 12 => ("NameRowsModel", "state", "I", false)
  | 13 => ("NameRowsModel", "has", "[Z", true)
  | 14 => ("NameRowsModel", "held", "[I", true)
  | 15 => ("NameRowsModel", "keptAt", "[I", true)
  | 16 => ("NameRowsModel", "lastCase", "I", false)
  | 17 => ("NameRowsModel", "seen", "[Z", true)
  | 18 => ("NameRowsModel", "alive", "[Z", true)
  | 19 => ("NameRowsModel", "queue", "[I", true)
  | 20 => ("NameRowsModel", "cameFrom", "[I", true)
  | 21 => ("NameRowsModel", "cameBy", "[I", true)
  | 22 => ("NameRowsModel", "found", "I", false)
  | 23 => ("NameRowsModel", "stateA", "I", false)
  | 24 => ("NameRowsModel", "stateB", "I", false)
  | 25 => ("NameRowsModel", "labels", "[I", true)
  | 26 => ("NameRowsModel", "fresh", "[I", true)
  | 27 => ("NameRowsModel", "line", "[I", true)
  | 28 => ("NameRowsModel", "rowLetter", "I", false)
  | 29 => ("NameRowsModel", "rowName", "I", false)
  | 30 => ("NameRowsModel", "realNames", "[I", true)
  | 31 => ("NameRowsModel", "watches", "I", false)
  | 32 => ("NameRowsModel", "watchOf", "[I", true)
  | 33 => ("NameRowsModel", "wState", "[I", true)
  | 34 => ("NameRowsModel", "wHas", "[Z", true)
  | 35 => ("NameRowsModel", "wHeld", "[I", true)
  | 36 => ("NameRowsModel", "wCame", "[I", true)
  | 37 => ("NameRowsModel", "wGood", "[I", true)
  | 38 => ("NameRowsModel", "wDone", "[I", true)
  | 39 => ("NameRowsModel", "lanes", "[I", true)
  | 40 => ("NameRowsModel", "sizes", "[I", true)
  | _ => ("NameRowsModel", "cells", "[I", true)
def tyX8 : Nat → FieldType := fun k => match k with
  | 0 => .int
  | 1 => .array .int
  | 2 => .array .int
  | 3 => .int
  | 4 => .array .int
  | 5 => .array .int
  | 6 => .array .boolean
  | 7 => .array .int
  | 8 => .array .int
  | 9 => .array .int
  | 10 => .array .int
  | 11 => .array .int
  | 12 => .int
  | 13 => .array .boolean
  | 14 => .array .int
  | 15 => .array .int
  | 16 => .int
  | 17 => .array .boolean
  | 18 => .array .boolean
  | 19 => .array .int
  | 20 => .array .int
  | 21 => .array .int
  | 22 => .int
  | 23 => .int
  | 24 => .int
  | 25 => .array .int
  | 26 => .array .int
  | 27 => .array .int
  | 28 => .int
  | 29 => .int
  | 30 => .array .int
  | 31 => .int
  | 32 => .array .int
  | 33 => .array .int
  | 34 => .array .boolean
  | 35 => .array .int
  | 36 => .array .int
  | 37 => .array .int
  | 38 => .array .int
  | 39 => .array .int
  | 40 => .array .int
  | _ => .array .int
abbrev wsX80 : List Cond := u_ws RX8 TX8 42
theorem nmX8 : ∀ a, a < 42 → ∀ b, b < 42 → a ≠ b → (TX8 a).2.1 ≠ (TX8 b).2.1 := by decide +kernel
theorem tyX8_ok : ∀ k, k < 42 → parseFieldDescriptor (TX8 k).2.2.1 = some (tyX8 k) := by decide +kernel
abbrev cX8_init : ByteArray := prog_10_method_1_code
def yX8_init : MethodName := ⟨RX8, "<init>", "()V"⟩
abbrev cX8_in : ByteArray := prog_10_method_3_code
def yX8_in : MethodName := ⟨RX8, "in", "(JJJ)Z"⟩
abbrev cX8_place : ByteArray := prog_10_method_4_code
def yX8_place : MethodName := ⟨RX8, "place", "(II)I"⟩
abbrev cX8_cut : ByteArray := prog_10_method_5_code
def yX8_cut : MethodName := ⟨RX8, "cut", "(I)I"⟩
abbrev cX8_firstOf : ByteArray := prog_10_method_6_code
def yX8_firstOf : MethodName := ⟨RX8, "firstOf", "(I)I"⟩
abbrev cX8_first : ByteArray := prog_10_method_7_code
def yX8_first : MethodName := ⟨RX8, "first", "(I)I"⟩
abbrev cX8_names : ByteArray := prog_10_method_8_code
def yX8_names : MethodName := ⟨RX8, "names", "()I"⟩
abbrev cX8_isMachine : ByteArray := prog_10_method_9_code
def yX8_isMachine : MethodName := ⟨RX8, "isMachine", "(I)Z"⟩
abbrev cX8_isState : ByteArray := prog_10_method_10_code
def yX8_isState : MethodName := ⟨RX8, "isState", "(II)Z"⟩
abbrev cX8_stepAt : ByteArray := prog_10_method_11_code
def yX8_stepAt : MethodName := ⟨RX8, "stepAt", "(IIII)I"⟩
abbrev cX8_isCase : ByteArray := prog_10_method_12_code
def yX8_isCase : MethodName := ⟨RX8, "isCase", "(II)Z"⟩
abbrev cX8_isStep : ByteArray := prog_10_method_13_code
def yX8_isStep : MethodName := ⟨RX8, "isStep", "(IIII)Z"⟩
abbrev cX8_begins : ByteArray := prog_10_method_14_code
def yX8_begins : MethodName := ⟨RX8, "begins", "(III)V"⟩
abbrev cX8_machine : ByteArray := prog_10_method_15_code
def yX8_machine : MethodName := ⟨RX8, "machine", "(II)I"⟩
abbrev cX8_isWatched : ByteArray := prog_10_method_16_code
def yX8_isWatched : MethodName := ⟨RX8, "isWatched", "(I)Z"⟩
abbrev cX8_step : ByteArray := prog_10_method_17_code
def yX8_step : MethodName := ⟨RX8, "step", "(IIIIII)I"⟩
abbrev cX8_good : ByteArray := prog_10_method_18_code
def yX8_good : MethodName := ⟨RX8, "good", "(IIZ)I"⟩
abbrev cX8_told : ByteArray := prog_10_method_19_code
def yX8_told : MethodName := ⟨RX8, "told", "(II)I"⟩
abbrev cX8_stepOf : ByteArray := prog_10_method_20_code
def yX8_stepOf : MethodName := ⟨RX8, "stepOf", "(IIIII)I"⟩
abbrev cX8_drop : ByteArray := prog_10_method_21_code
def yX8_drop : MethodName := ⟨RX8, "drop", "()I"⟩
abbrev cX8_turned : ByteArray := prog_10_method_22_code
def yX8_turned : MethodName := ⟨RX8, "turned", "(I)I"⟩
abbrev cX8_pairAt : ByteArray := prog_10_method_23_code
def yX8_pairAt : MethodName := ⟨RX8, "pairAt", "(II)I"⟩
abbrev cX8_both : ByteArray := prog_10_method_24_code
def yX8_both : MethodName := ⟨RX8, "both", "(III)I"⟩
abbrev cX8_starts : ByteArray := prog_10_method_25_code
def yX8_starts : MethodName := ⟨RX8, "starts", "()V"⟩
abbrev cX8_goes : ByteArray := prog_10_method_26_code
def yX8_goes : MethodName := ⟨RX8, "goes", "(IIII)V"⟩
abbrev cX8_runs : ByteArray := prog_10_method_27_code
def yX8_runs : MethodName := ⟨RX8, "runs", "(II)V"⟩
abbrev cX8_takes : ByteArray := prog_10_method_28_code
def yX8_takes : MethodName := ⟨RX8, "takes", "(II)I"⟩
abbrev cX8_ran : ByteArray := prog_10_method_29_code
def yX8_ran : MethodName := ⟨RX8, "ran", "(III)I"⟩
abbrev cX8_apart : ByteArray := prog_10_method_30_code
def yX8_apart : MethodName := ⟨RX8, "apart", "(I)V"⟩
abbrev cX8_put : ByteArray := prog_10_method_31_code
def yX8_put : MethodName := ⟨RX8, "put", "()I"⟩
abbrev cX8_most : ByteArray := prog_10_method_32_code
def yX8_most : MethodName := ⟨RX8, "most", "()I"⟩
abbrev cX8_goesOn : ByteArray := prog_10_method_33_code
def yX8_goesOn : MethodName := ⟨RX8, "goesOn", "(IIIII)I"⟩
abbrev cX8_behind : ByteArray := prog_10_method_34_code
def yX8_behind : MethodName := ⟨RX8, "behind", "(IIII)I"⟩
abbrev cX8_labelsIn : ByteArray := prog_10_method_35_code
def yX8_labelsIn : MethodName := ⟨RX8, "labelsIn", "(I)I"⟩
abbrev cX8_explores : ByteArray := prog_10_method_36_code
def yX8_explores : MethodName := ⟨RX8, "explores", "(II)V"⟩
abbrev cX8_isGoodA : ByteArray := prog_10_method_37_code
def yX8_isGoodA : MethodName := ⟨RX8, "isGoodA", "(II)Z"⟩
abbrev cX8_isGoodB : ByteArray := prog_10_method_38_code
def yX8_isGoodB : MethodName := ⟨RX8, "isGoodB", "(II)Z"⟩
abbrev cX8_wanted : ByteArray := prog_10_method_39_code
def yX8_wanted : MethodName := ⟨RX8, "wanted", "(II)I"⟩
abbrev cX8_lines : ByteArray := prog_10_method_40_code
def yX8_lines : MethodName := ⟨RX8, "lines", "(I)I"⟩
abbrev cX8_tells : ByteArray := prog_10_method_41_code
def yX8_tells : MethodName := ⟨RX8, "tells", "(III)V"⟩
abbrev cX8_keepsReal : ByteArray := prog_10_method_42_code
def yX8_keepsReal : MethodName := ⟨RX8, "keepsReal", "(IIII)V"⟩
abbrev cX8_lengthOf : ByteArray := prog_10_method_43_code
def yX8_lengthOf : MethodName := ⟨RX8, "lengthOf", "(II)I"⟩
abbrev cX8_atOf : ByteArray := prog_10_method_44_code
def yX8_atOf : MethodName := ⟨RX8, "atOf", "(IIII)I"⟩
abbrev cX8_findAlive : ByteArray := prog_10_method_45_code
def yX8_findAlive : MethodName := ⟨RX8, "findAlive", "(I)V"⟩
abbrev cX8_leadsOn : ByteArray := prog_10_method_46_code
def yX8_leadsOn : MethodName := ⟨RX8, "leadsOn", "(II)Z"⟩
abbrev cX8_orbitOf : ByteArray := prog_10_method_47_code
def yX8_orbitOf : MethodName := ⟨RX8, "orbitOf", "(IZIZI)I"⟩
abbrev cX8_doomed : ByteArray := prog_10_method_48_code
def yX8_doomed : MethodName := ⟨RX8, "doomed", "(I)I"⟩
abbrev cX8_orbits : ByteArray := prog_10_method_49_code
def yX8_orbits : MethodName := ⟨RX8, "orbits", "(II)I"⟩
abbrev cX8_shortest : ByteArray := prog_10_method_50_code
def yX8_shortest : MethodName := ⟨RX8, "shortest", "(I)I"⟩
abbrev cX8_shortestAt : ByteArray := prog_10_method_51_code
def yX8_shortestAt : MethodName := ⟨RX8, "shortestAt", "(III)I"⟩
abbrev cX8_parts : ByteArray := prog_10_method_52_code
def yX8_parts : MethodName := ⟨RX8, "parts", "(II)I"⟩
abbrev cX8_partsAt : ByteArray := prog_10_method_53_code
def yX8_partsAt : MethodName := ⟨RX8, "partsAt", "(IIII)I"⟩
abbrev cX8_within : ByteArray := prog_10_method_54_code
def yX8_within : MethodName := ⟨RX8, "within", "(II)I"⟩
abbrev cX8_show : ByteArray := prog_10_method_55_code
def yX8_show : MethodName := ⟨RX8, "show", "(II)I"⟩
abbrev cX8_isDead : ByteArray := prog_10_method_56_code
def yX8_isDead : MethodName := ⟨RX8, "isDead", "(I)Z"⟩
abbrev cX8_watch : ByteArray := prog_10_method_57_code
def yX8_watch : MethodName := ⟨RX8, "watch", "(I)I"⟩
abbrev cX8_see : ByteArray := prog_10_method_58_code
def yX8_see : MethodName := ⟨RX8, "see", "(III)I"⟩
abbrev cX8_seen : ByteArray := prog_10_method_59_code
def yX8_seen : MethodName := ⟨RX8, "seen", "(II)I"⟩
abbrev cX8_isSheet : ByteArray := prog_10_method_60_code
def yX8_isSheet : MethodName := ⟨RX8, "isSheet", "(II)Z"⟩
abbrev cX8_sheet : ByteArray := prog_10_method_61_code
def yX8_sheet : MethodName := ⟨RX8, "sheet", "(III)I"⟩
abbrev cX8_lay : ByteArray := prog_10_method_62_code
def yX8_lay : MethodName := ⟨RX8, "lay", "(III)I"⟩
abbrev cX8_scan : ByteArray := prog_10_method_63_code
def yX8_scan : MethodName := ⟨RX8, "scan", "(IIII)I"⟩
abbrev cX8_count : ByteArray := prog_10_method_64_code
def yX8_count : MethodName := ⟨RX8, "count", "(I)I"⟩
def RJ9 : String := "java/lang/Math"
def TJ9 : u_T := fun k => match k with
  | _ => ("", "", "", false)
def tyJ9 : Nat → FieldType := fun k => match k with
  | _ => .int
abbrev wsJ90 : List Cond := u_ws RJ9 TJ9 0
theorem nmJ9 : ∀ a, a < 0 → ∀ b, b < 0 → a ≠ b → (TJ9 a).2.1 ≠ (TJ9 b).2.1 := by decide +kernel
theorem tyJ9_ok : ∀ k, k < 0 → parseFieldDescriptor (TJ9 k).2.2.1 = some (tyJ9 k) := by decide +kernel
abbrev cJ9_max_7cf53 : ByteArray := prog_11_method_65_code
def yJ9_max_7cf53 : MethodName := ⟨RJ9, "max", "(II)I"⟩
abbrev cJ9_min_7cf53 : ByteArray := prog_11_method_69_code
def yJ9_min_7cf53 : MethodName := ⟨RJ9, "min", "(II)I"⟩
def RJ10 : String := "java/lang/System"
def TJ10 : u_T := fun k => match k with
  | _ => ("", "", "", false)
def tyJ10 : Nat → FieldType := fun k => match k with
  | _ => .int
abbrev wsJ100 : List Cond := u_ws RJ10 TJ10 0
theorem nmJ10 : ∀ a, a < 0 → ∀ b, b < 0 → a ≠ b → (TJ10 a).2.1 ≠ (TJ10 b).2.1 := by decide +kernel
theorem tyJ10_ok : ∀ k, k < 0 → parseFieldDescriptor (TJ10 k).2.2.1 = some (tyJ10 k) := by decide +kernel
def RL : String := "NameRowsLaw"
abbrev cL_law : ByteArray := code
def yL_law : MethodName := ⟨RL, "law", "([I)Z"⟩
