section
-- ===== PART A: goes FIRST, ahead of the names: the tables' words, and 'selects' of the private methods out of them =====
/-- a private method of a class that the tables say can be made, by its rows of tables_1 -/
def lw_okq (q : MethodName × Nat) : Prop := (q.1.cls ≠ "java/lang/invoke/MethodHandle" ∧ q.1.cls ≠ "java/lang/invoke/VarHandle") ∧ Cond.instantiable q.1.cls q.2 ∈ tables_1 ∧ Cond.privateMethod q.1 ∈ tables_1 ∧ Cond.instanceMethod q.1 ∈ tables_1
theorem lw_p0 : lw_okq (⟨"NameRows", "spareMachine", "()LNameRows$Machine;"⟩, 16) := ⟨⟨by decide +kernel, by decide +kernel⟩, List.mem_of_getElem? (i := 13) (by decide +kernel), List.mem_of_getElem? (i := 333) (by decide +kernel), List.mem_of_getElem? (i := 334) (by decide +kernel)⟩
theorem lw_p1 : lw_okq (⟨"NameRows", "addSpareMachine", "()I"⟩, 16) := ⟨⟨by decide +kernel, by decide +kernel⟩, List.mem_of_getElem? (i := 13) (by decide +kernel), List.mem_of_getElem? (i := 338) (by decide +kernel), List.mem_of_getElem? (i := 339) (by decide +kernel)⟩
theorem lw_p2 : lw_okq (⟨"NameRows", "machinesChanged", "()V"⟩, 16) := ⟨⟨by decide +kernel, by decide +kernel⟩, List.mem_of_getElem? (i := 13) (by decide +kernel), List.mem_of_getElem? (i := 342) (by decide +kernel), List.mem_of_getElem? (i := 343) (by decide +kernel)⟩
theorem lw_p3 : lw_okq (⟨"NameRows", "machineAt", "(I)LNameRows$Machine;"⟩, 16) := ⟨⟨by decide +kernel, by decide +kernel⟩, List.mem_of_getElem? (i := 13) (by decide +kernel), List.mem_of_getElem? (i := 350) (by decide +kernel), List.mem_of_getElem? (i := 351) (by decide +kernel)⟩
theorem lw_p4 : lw_okq (⟨"NameRows$Pairing", "numberOf", "(I)I"⟩, 2) := ⟨⟨by decide +kernel, by decide +kernel⟩, List.mem_of_getElem? (i := 103) (by decide +kernel), List.mem_of_getElem? (i := 420) (by decide +kernel), List.mem_of_getElem? (i := 421) (by decide +kernel)⟩
theorem lw_p5 : lw_okq (⟨"NameRows$Pairing", "joinSteps", "(LNameRows$Machine;ILNameRows$Machine;LNameRows$Machine;)Z"⟩, 2) := ⟨⟨by decide +kernel, by decide +kernel⟩, List.mem_of_getElem? (i := 103) (by decide +kernel), List.mem_of_getElem? (i := 424) (by decide +kernel), List.mem_of_getElem? (i := 425) (by decide +kernel)⟩
theorem lw_p6 : lw_okq (⟨"NameRows", "runOver", "(LNameRows$Machine;I)V"⟩, 16) := ⟨⟨by decide +kernel, by decide +kernel⟩, List.mem_of_getElem? (i := 13) (by decide +kernel), List.mem_of_getElem? (i := 439) (by decide +kernel), List.mem_of_getElem? (i := 440) (by decide +kernel)⟩
theorem lw_p7 : lw_okq (⟨"NameRows$Run", "caseOf", "(I)I"⟩, 5) := ⟨⟨by decide +kernel, by decide +kernel⟩, List.mem_of_getElem? (i := 116) (by decide +kernel), List.mem_of_getElem? (i := 451) (by decide +kernel), List.mem_of_getElem? (i := 452) (by decide +kernel)⟩
theorem lw_p8 : lw_okq (⟨"NameRows$Run", "keepIn", "(II)V"⟩, 5) := ⟨⟨by decide +kernel, by decide +kernel⟩, List.mem_of_getElem? (i := 116) (by decide +kernel), List.mem_of_getElem? (i := 456) (by decide +kernel), List.mem_of_getElem? (i := 457) (by decide +kernel)⟩
theorem lw_p9 : lw_okq (⟨"NameRows", "learnOrbits", "(LNameRows$Machine;)V"⟩, 16) := ⟨⟨by decide +kernel, by decide +kernel⟩, List.mem_of_getElem? (i := 13) (by decide +kernel), List.mem_of_getElem? (i := 468) (by decide +kernel), List.mem_of_getElem? (i := 469) (by decide +kernel)⟩
theorem lw_p10 : lw_okq (⟨"NameRows$Walk", "forget", "()V"⟩, 18) := ⟨⟨by decide +kernel, by decide +kernel⟩, List.mem_of_getElem? (i := 145) (by decide +kernel), List.mem_of_getElem? (i := 480) (by decide +kernel), List.mem_of_getElem? (i := 481) (by decide +kernel)⟩
theorem lw_p11 : lw_okq (⟨"NameRows$Walk", "meet", "(III)V"⟩, 18) := ⟨⟨by decide +kernel, by decide +kernel⟩, List.mem_of_getElem? (i := 145) (by decide +kernel), List.mem_of_getElem? (i := 484) (by decide +kernel), List.mem_of_getElem? (i := 485) (by decide +kernel)⟩
theorem lw_p12 : lw_okq (⟨"NameRows$Walk", "lookAt", "(I)V"⟩, 18) := ⟨⟨by decide +kernel, by decide +kernel⟩, List.mem_of_getElem? (i := 145) (by decide +kernel), List.mem_of_getElem? (i := 488) (by decide +kernel), List.mem_of_getElem? (i := 489) (by decide +kernel)⟩
theorem lw_p13 : lw_okq (⟨"NameRows$Walk", "labelOf", "(I)I"⟩, 18) := ⟨⟨by decide +kernel, by decide +kernel⟩, List.mem_of_getElem? (i := 145) (by decide +kernel), List.mem_of_getElem? (i := 492) (by decide +kernel), List.mem_of_getElem? (i := 493) (by decide +kernel)⟩
theorem lw_p14 : lw_okq (⟨"NameRows$Walk", "caseOf", "(II)I"⟩, 18) := ⟨⟨by decide +kernel, by decide +kernel⟩, List.mem_of_getElem? (i := 145) (by decide +kernel), List.mem_of_getElem? (i := 496) (by decide +kernel), List.mem_of_getElem? (i := 497) (by decide +kernel)⟩
theorem lw_p15 : lw_okq (⟨"NameRows$Walk", "codeBehind", "(LNameRows$Machine;LNameRows$Machine;I)I"⟩, 18) := ⟨⟨by decide +kernel, by decide +kernel⟩, List.mem_of_getElem? (i := 145) (by decide +kernel), List.mem_of_getElem? (i := 504) (by decide +kernel), List.mem_of_getElem? (i := 505) (by decide +kernel)⟩
def lw_privs_1 : List (MethodName × Nat) := [(⟨"NameRows", "spareMachine", "()LNameRows$Machine;"⟩, 16), (⟨"NameRows", "addSpareMachine", "()I"⟩, 16), (⟨"NameRows", "machinesChanged", "()V"⟩, 16), (⟨"NameRows", "machineAt", "(I)LNameRows$Machine;"⟩, 16), (⟨"NameRows$Pairing", "numberOf", "(I)I"⟩, 2), (⟨"NameRows$Pairing", "joinSteps", "(LNameRows$Machine;ILNameRows$Machine;LNameRows$Machine;)Z"⟩, 2), (⟨"NameRows", "runOver", "(LNameRows$Machine;I)V"⟩, 16), (⟨"NameRows$Run", "caseOf", "(I)I"⟩, 5), (⟨"NameRows$Run", "keepIn", "(II)V"⟩, 5), (⟨"NameRows", "learnOrbits", "(LNameRows$Machine;)V"⟩, 16), (⟨"NameRows$Walk", "forget", "()V"⟩, 18), (⟨"NameRows$Walk", "meet", "(III)V"⟩, 18), (⟨"NameRows$Walk", "lookAt", "(I)V"⟩, 18), (⟨"NameRows$Walk", "labelOf", "(I)I"⟩, 18), (⟨"NameRows$Walk", "caseOf", "(II)I"⟩, 18), (⟨"NameRows$Walk", "codeBehind", "(LNameRows$Machine;LNameRows$Machine;I)I"⟩, 18)]
theorem lw_r1 : ∀ q ∈ lw_privs_1, lw_okq q := List.forall_mem_cons.mpr ⟨lw_p0, List.forall_mem_cons.mpr ⟨lw_p1, List.forall_mem_cons.mpr ⟨lw_p2, List.forall_mem_cons.mpr ⟨lw_p3, List.forall_mem_cons.mpr ⟨lw_p4, List.forall_mem_cons.mpr ⟨lw_p5, List.forall_mem_cons.mpr ⟨lw_p6, List.forall_mem_cons.mpr ⟨lw_p7, List.forall_mem_cons.mpr ⟨lw_p8, List.forall_mem_cons.mpr ⟨lw_p9, List.forall_mem_cons.mpr ⟨lw_p10, List.forall_mem_cons.mpr ⟨lw_p11, List.forall_mem_cons.mpr ⟨lw_p12, List.forall_mem_cons.mpr ⟨lw_p13, List.forall_mem_cons.mpr ⟨lw_p14, List.forall_mem_cons.mpr ⟨lw_p15, fun _ h => absurd h List.not_mem_nil⟩⟩⟩⟩⟩⟩⟩⟩⟩⟩⟩⟩⟩⟩⟩⟩
theorem lw_p16 : lw_okq (⟨"NameRows$Walk", "heldBehind", "(III)I"⟩, 18) := ⟨⟨by decide +kernel, by decide +kernel⟩, List.mem_of_getElem? (i := 145) (by decide +kernel), List.mem_of_getElem? (i := 509) (by decide +kernel), List.mem_of_getElem? (i := 510) (by decide +kernel)⟩
theorem lw_p17 : lw_okq (⟨"NameRows$Walk", "keep", "(III)V"⟩, 18) := ⟨⟨by decide +kernel, by decide +kernel⟩, List.mem_of_getElem? (i := 145) (by decide +kernel), List.mem_of_getElem? (i := 514) (by decide +kernel), List.mem_of_getElem? (i := 515) (by decide +kernel)⟩
theorem lw_p18 : lw_okq (⟨"NameRows$Walk", "digitOfEarlier", "(I)I"⟩, 18) := ⟨⟨by decide +kernel, by decide +kernel⟩, List.mem_of_getElem? (i := 145) (by decide +kernel), List.mem_of_getElem? (i := 518) (by decide +kernel), List.mem_of_getElem? (i := 519) (by decide +kernel)⟩
theorem lw_p19 : lw_okq (⟨"NameRows$Walk", "tellNext", "(ILNameRows$Machine;LNameRows$Machine;)V"⟩, 18) := ⟨⟨by decide +kernel, by decide +kernel⟩, List.mem_of_getElem? (i := 145) (by decide +kernel), List.mem_of_getElem? (i := 522) (by decide +kernel), List.mem_of_getElem? (i := 523) (by decide +kernel)⟩
theorem lw_p20 : lw_okq (⟨"NameRows$Walk", "spreadLife", "()Z"⟩, 18) := ⟨⟨by decide +kernel, by decide +kernel⟩, List.mem_of_getElem? (i := 145) (by decide +kernel), List.mem_of_getElem? (i := 526) (by decide +kernel), List.mem_of_getElem? (i := 527) (by decide +kernel)⟩
theorem lw_p21 : lw_okq (⟨"NameRows$Walk", "leadsToLife", "(I)Z"⟩, 18) := ⟨⟨by decide +kernel, by decide +kernel⟩, List.mem_of_getElem? (i := 145) (by decide +kernel), List.mem_of_getElem? (i := 533) (by decide +kernel), List.mem_of_getElem? (i := 534) (by decide +kernel)⟩
theorem lw_p22 : lw_okq (⟨"NameRows$Run", "pattern", "()I"⟩, 5) := ⟨⟨by decide +kernel, by decide +kernel⟩, List.mem_of_getElem? (i := 116) (by decide +kernel), List.mem_of_getElem? (i := 552) (by decide +kernel), List.mem_of_getElem? (i := 553) (by decide +kernel)⟩
theorem lw_p23 : lw_okq (⟨"NameRows$Machine", "isMet", "(I)Z"⟩, 8) := ⟨⟨by decide +kernel, by decide +kernel⟩, List.mem_of_getElem? (i := 52) (by decide +kernel), List.mem_of_getElem? (i := 573) (by decide +kernel), List.mem_of_getElem? (i := 574) (by decide +kernel)⟩
theorem lw_p24 : lw_okq (⟨"NameRows", "findLeast", "(II)I"⟩, 16) := ⟨⟨by decide +kernel, by decide +kernel⟩, List.mem_of_getElem? (i := 13) (by decide +kernel), List.mem_of_getElem? (i := 582) (by decide +kernel), List.mem_of_getElem? (i := 583) (by decide +kernel)⟩
theorem lw_p25 : lw_okq (⟨"NameRows", "leastAt", "(IIII)I"⟩, 16) := ⟨⟨by decide +kernel, by decide +kernel⟩, List.mem_of_getElem? (i := 13) (by decide +kernel), List.mem_of_getElem? (i := 601) (by decide +kernel), List.mem_of_getElem? (i := 602) (by decide +kernel)⟩
theorem lw_p26 : lw_okq (⟨"NameRows", "watchAt", "(I)LNameRows$Watch;"⟩, 16) := ⟨⟨by decide +kernel, by decide +kernel⟩, List.mem_of_getElem? (i := 13) (by decide +kernel), List.mem_of_getElem? (i := 641) (by decide +kernel), List.mem_of_getElem? (i := 642) (by decide +kernel)⟩
theorem lw_p27 : lw_okq (⟨"NameRows", "sheetAt", "(I)LNameRows$Sheet;"⟩, 16) := ⟨⟨by decide +kernel, by decide +kernel⟩, List.mem_of_getElem? (i := 13) (by decide +kernel), List.mem_of_getElem? (i := 663) (by decide +kernel), List.mem_of_getElem? (i := 664) (by decide +kernel)⟩
theorem lw_p28 : lw_okq (⟨"NameRows", "scanPlace", "(LNameRows$Sheet;I)I"⟩, 16) := ⟨⟨by decide +kernel, by decide +kernel⟩, List.mem_of_getElem? (i := 13) (by decide +kernel), List.mem_of_getElem? (i := 692) (by decide +kernel), List.mem_of_getElem? (i := 693) (by decide +kernel)⟩
theorem lw_p29 : lw_okq (⟨"NameRows", "watchesDone", "()I"⟩, 16) := ⟨⟨by decide +kernel, by decide +kernel⟩, List.mem_of_getElem? (i := 13) (by decide +kernel), List.mem_of_getElem? (i := 700) (by decide +kernel), List.mem_of_getElem? (i := 701) (by decide +kernel)⟩
theorem lw_p30 : lw_okq (⟨"NameRows", "countUnlikeMachines", "()I"⟩, 16) := ⟨⟨by decide +kernel, by decide +kernel⟩, List.mem_of_getElem? (i := 13) (by decide +kernel), List.mem_of_getElem? (i := 705) (by decide +kernel), List.mem_of_getElem? (i := 706) (by decide +kernel)⟩
theorem lw_p31 : lw_okq (⟨"NameRows", "isAsEarlierOne", "(I)Z"⟩, 16) := ⟨⟨by decide +kernel, by decide +kernel⟩, List.mem_of_getElem? (i := 13) (by decide +kernel), List.mem_of_getElem? (i := 709) (by decide +kernel), List.mem_of_getElem? (i := 710) (by decide +kernel)⟩
def lw_privs_2 : List (MethodName × Nat) := [(⟨"NameRows$Walk", "heldBehind", "(III)I"⟩, 18), (⟨"NameRows$Walk", "keep", "(III)V"⟩, 18), (⟨"NameRows$Walk", "digitOfEarlier", "(I)I"⟩, 18), (⟨"NameRows$Walk", "tellNext", "(ILNameRows$Machine;LNameRows$Machine;)V"⟩, 18), (⟨"NameRows$Walk", "spreadLife", "()Z"⟩, 18), (⟨"NameRows$Walk", "leadsToLife", "(I)Z"⟩, 18), (⟨"NameRows$Run", "pattern", "()I"⟩, 5), (⟨"NameRows$Machine", "isMet", "(I)Z"⟩, 8), (⟨"NameRows", "findLeast", "(II)I"⟩, 16), (⟨"NameRows", "leastAt", "(IIII)I"⟩, 16), (⟨"NameRows", "watchAt", "(I)LNameRows$Watch;"⟩, 16), (⟨"NameRows", "sheetAt", "(I)LNameRows$Sheet;"⟩, 16), (⟨"NameRows", "scanPlace", "(LNameRows$Sheet;I)I"⟩, 16), (⟨"NameRows", "watchesDone", "()I"⟩, 16), (⟨"NameRows", "countUnlikeMachines", "()I"⟩, 16), (⟨"NameRows", "isAsEarlierOne", "(I)Z"⟩, 16)]
theorem lw_r2 : ∀ q ∈ lw_privs_2, lw_okq q := List.forall_mem_cons.mpr ⟨lw_p16, List.forall_mem_cons.mpr ⟨lw_p17, List.forall_mem_cons.mpr ⟨lw_p18, List.forall_mem_cons.mpr ⟨lw_p19, List.forall_mem_cons.mpr ⟨lw_p20, List.forall_mem_cons.mpr ⟨lw_p21, List.forall_mem_cons.mpr ⟨lw_p22, List.forall_mem_cons.mpr ⟨lw_p23, List.forall_mem_cons.mpr ⟨lw_p24, List.forall_mem_cons.mpr ⟨lw_p25, List.forall_mem_cons.mpr ⟨lw_p26, List.forall_mem_cons.mpr ⟨lw_p27, List.forall_mem_cons.mpr ⟨lw_p28, List.forall_mem_cons.mpr ⟨lw_p29, List.forall_mem_cons.mpr ⟨lw_p30, List.forall_mem_cons.mpr ⟨lw_p31, fun _ h => absurd h List.not_mem_nil⟩⟩⟩⟩⟩⟩⟩⟩⟩⟩⟩⟩⟩⟩⟩⟩
theorem lw_p32 : lw_okq (⟨"NameRowsModel", "firstOf", "(I)I"⟩, 42) := ⟨⟨by decide +kernel, by decide +kernel⟩, List.mem_of_getElem? (i := 713) (by decide +kernel), List.mem_of_getElem? (i := 862) (by decide +kernel), List.mem_of_getElem? (i := 863) (by decide +kernel)⟩
theorem lw_p33 : lw_okq (⟨"NameRowsModel", "begins", "(III)V"⟩, 42) := ⟨⟨by decide +kernel, by decide +kernel⟩, List.mem_of_getElem? (i := 713) (by decide +kernel), List.mem_of_getElem? (i := 875) (by decide +kernel), List.mem_of_getElem? (i := 876) (by decide +kernel)⟩
theorem lw_p34 : lw_okq (⟨"NameRowsModel", "isStep", "(IIII)Z"⟩, 42) := ⟨⟨by decide +kernel, by decide +kernel⟩, List.mem_of_getElem? (i := 713) (by decide +kernel), List.mem_of_getElem? (i := 883) (by decide +kernel), List.mem_of_getElem? (i := 884) (by decide +kernel)⟩
theorem lw_p35 : lw_okq (⟨"NameRowsModel", "isState", "(II)Z"⟩, 42) := ⟨⟨by decide +kernel, by decide +kernel⟩, List.mem_of_getElem? (i := 713) (by decide +kernel), List.mem_of_getElem? (i := 887) (by decide +kernel), List.mem_of_getElem? (i := 888) (by decide +kernel)⟩
theorem lw_p36 : lw_okq (⟨"NameRowsModel", "isMachine", "(I)Z"⟩, 42) := ⟨⟨by decide +kernel, by decide +kernel⟩, List.mem_of_getElem? (i := 713) (by decide +kernel), List.mem_of_getElem? (i := 891) (by decide +kernel), List.mem_of_getElem? (i := 892) (by decide +kernel)⟩
theorem lw_p37 : lw_okq (⟨"NameRowsModel", "isCase", "(II)Z"⟩, 42) := ⟨⟨by decide +kernel, by decide +kernel⟩, List.mem_of_getElem? (i := 713) (by decide +kernel), List.mem_of_getElem? (i := 895) (by decide +kernel), List.mem_of_getElem? (i := 896) (by decide +kernel)⟩
theorem lw_p38 : lw_okq (⟨"NameRowsModel", "isWatched", "(I)Z"⟩, 42) := ⟨⟨by decide +kernel, by decide +kernel⟩, List.mem_of_getElem? (i := 713) (by decide +kernel), List.mem_of_getElem? (i := 899) (by decide +kernel), List.mem_of_getElem? (i := 900) (by decide +kernel)⟩
theorem lw_p39 : lw_okq (⟨"NameRowsModel", "pairAt", "(II)I"⟩, 42) := ⟨⟨by decide +kernel, by decide +kernel⟩, List.mem_of_getElem? (i := 713) (by decide +kernel), List.mem_of_getElem? (i := 930) (by decide +kernel), List.mem_of_getElem? (i := 931) (by decide +kernel)⟩
theorem lw_p40 : lw_okq (⟨"NameRowsModel", "runs", "(II)V"⟩, 42) := ⟨⟨by decide +kernel, by decide +kernel⟩, List.mem_of_getElem? (i := 713) (by decide +kernel), List.mem_of_getElem? (i := 938) (by decide +kernel), List.mem_of_getElem? (i := 939) (by decide +kernel)⟩
theorem lw_p41 : lw_okq (⟨"NameRowsModel", "starts", "()V"⟩, 42) := ⟨⟨by decide +kernel, by decide +kernel⟩, List.mem_of_getElem? (i := 713) (by decide +kernel), List.mem_of_getElem? (i := 942) (by decide +kernel), List.mem_of_getElem? (i := 943) (by decide +kernel)⟩
theorem lw_p42 : lw_okq (⟨"NameRowsModel", "goes", "(IIII)V"⟩, 42) := ⟨⟨by decide +kernel, by decide +kernel⟩, List.mem_of_getElem? (i := 713) (by decide +kernel), List.mem_of_getElem? (i := 946) (by decide +kernel), List.mem_of_getElem? (i := 947) (by decide +kernel)⟩
theorem lw_p43 : lw_okq (⟨"NameRowsModel", "findAlive", "(I)V"⟩, 42) := ⟨⟨by decide +kernel, by decide +kernel⟩, List.mem_of_getElem? (i := 713) (by decide +kernel), List.mem_of_getElem? (i := 959) (by decide +kernel), List.mem_of_getElem? (i := 960) (by decide +kernel)⟩
theorem lw_p44 : lw_okq (⟨"NameRowsModel", "explores", "(II)V"⟩, 42) := ⟨⟨by decide +kernel, by decide +kernel⟩, List.mem_of_getElem? (i := 713) (by decide +kernel), List.mem_of_getElem? (i := 963) (by decide +kernel), List.mem_of_getElem? (i := 964) (by decide +kernel)⟩
theorem lw_p45 : lw_okq (⟨"NameRowsModel", "labelsIn", "(I)I"⟩, 42) := ⟨⟨by decide +kernel, by decide +kernel⟩, List.mem_of_getElem? (i := 713) (by decide +kernel), List.mem_of_getElem? (i := 967) (by decide +kernel), List.mem_of_getElem? (i := 968) (by decide +kernel)⟩
theorem lw_p46 : lw_okq (⟨"NameRowsModel", "apart", "(I)V"⟩, 42) := ⟨⟨by decide +kernel, by decide +kernel⟩, List.mem_of_getElem? (i := 713) (by decide +kernel), List.mem_of_getElem? (i := 971) (by decide +kernel), List.mem_of_getElem? (i := 972) (by decide +kernel)⟩
theorem lw_p47 : lw_okq (⟨"NameRowsModel", "most", "()I"⟩, 42) := ⟨⟨by decide +kernel, by decide +kernel⟩, List.mem_of_getElem? (i := 713) (by decide +kernel), List.mem_of_getElem? (i := 975) (by decide +kernel), List.mem_of_getElem? (i := 976) (by decide +kernel)⟩
def lw_privs_3 : List (MethodName × Nat) := [(⟨"NameRowsModel", "firstOf", "(I)I"⟩, 42), (⟨"NameRowsModel", "begins", "(III)V"⟩, 42), (⟨"NameRowsModel", "isStep", "(IIII)Z"⟩, 42), (⟨"NameRowsModel", "isState", "(II)Z"⟩, 42), (⟨"NameRowsModel", "isMachine", "(I)Z"⟩, 42), (⟨"NameRowsModel", "isCase", "(II)Z"⟩, 42), (⟨"NameRowsModel", "isWatched", "(I)Z"⟩, 42), (⟨"NameRowsModel", "pairAt", "(II)I"⟩, 42), (⟨"NameRowsModel", "runs", "(II)V"⟩, 42), (⟨"NameRowsModel", "starts", "()V"⟩, 42), (⟨"NameRowsModel", "goes", "(IIII)V"⟩, 42), (⟨"NameRowsModel", "findAlive", "(I)V"⟩, 42), (⟨"NameRowsModel", "explores", "(II)V"⟩, 42), (⟨"NameRowsModel", "labelsIn", "(I)I"⟩, 42), (⟨"NameRowsModel", "apart", "(I)V"⟩, 42), (⟨"NameRowsModel", "most", "()I"⟩, 42)]
theorem lw_r3 : ∀ q ∈ lw_privs_3, lw_okq q := List.forall_mem_cons.mpr ⟨lw_p32, List.forall_mem_cons.mpr ⟨lw_p33, List.forall_mem_cons.mpr ⟨lw_p34, List.forall_mem_cons.mpr ⟨lw_p35, List.forall_mem_cons.mpr ⟨lw_p36, List.forall_mem_cons.mpr ⟨lw_p37, List.forall_mem_cons.mpr ⟨lw_p38, List.forall_mem_cons.mpr ⟨lw_p39, List.forall_mem_cons.mpr ⟨lw_p40, List.forall_mem_cons.mpr ⟨lw_p41, List.forall_mem_cons.mpr ⟨lw_p42, List.forall_mem_cons.mpr ⟨lw_p43, List.forall_mem_cons.mpr ⟨lw_p44, List.forall_mem_cons.mpr ⟨lw_p45, List.forall_mem_cons.mpr ⟨lw_p46, List.forall_mem_cons.mpr ⟨lw_p47, fun _ h => absurd h List.not_mem_nil⟩⟩⟩⟩⟩⟩⟩⟩⟩⟩⟩⟩⟩⟩⟩⟩
theorem lw_p48 : lw_okq (⟨"NameRowsModel", "behind", "(IIII)I"⟩, 42) := ⟨⟨by decide +kernel, by decide +kernel⟩, List.mem_of_getElem? (i := 713) (by decide +kernel), List.mem_of_getElem? (i := 979) (by decide +kernel), List.mem_of_getElem? (i := 980) (by decide +kernel)⟩
theorem lw_p49 : lw_okq (⟨"NameRowsModel", "goesOn", "(IIIII)I"⟩, 42) := ⟨⟨by decide +kernel, by decide +kernel⟩, List.mem_of_getElem? (i := 713) (by decide +kernel), List.mem_of_getElem? (i := 983) (by decide +kernel), List.mem_of_getElem? (i := 984) (by decide +kernel)⟩
theorem lw_p50 : lw_okq (⟨"NameRowsModel", "put", "()I"⟩, 42) := ⟨⟨by decide +kernel, by decide +kernel⟩, List.mem_of_getElem? (i := 713) (by decide +kernel), List.mem_of_getElem? (i := 987) (by decide +kernel), List.mem_of_getElem? (i := 988) (by decide +kernel)⟩
theorem lw_p51 : lw_okq (⟨"NameRowsModel", "isGoodA", "(II)Z"⟩, 42) := ⟨⟨by decide +kernel, by decide +kernel⟩, List.mem_of_getElem? (i := 713) (by decide +kernel), List.mem_of_getElem? (i := 991) (by decide +kernel), List.mem_of_getElem? (i := 992) (by decide +kernel)⟩
theorem lw_p52 : lw_okq (⟨"NameRowsModel", "leadsOn", "(II)Z"⟩, 42) := ⟨⟨by decide +kernel, by decide +kernel⟩, List.mem_of_getElem? (i := 713) (by decide +kernel), List.mem_of_getElem? (i := 995) (by decide +kernel), List.mem_of_getElem? (i := 996) (by decide +kernel)⟩
theorem lw_p53 : lw_okq (⟨"NameRowsModel", "orbitOf", "(IZIZI)I"⟩, 42) := ⟨⟨by decide +kernel, by decide +kernel⟩, List.mem_of_getElem? (i := 713) (by decide +kernel), List.mem_of_getElem? (i := 999) (by decide +kernel), List.mem_of_getElem? (i := 1000) (by decide +kernel)⟩
theorem lw_p54 : lw_okq (⟨"NameRowsModel", "lengthOf", "(II)I"⟩, 42) := ⟨⟨by decide +kernel, by decide +kernel⟩, List.mem_of_getElem? (i := 713) (by decide +kernel), List.mem_of_getElem? (i := 1011) (by decide +kernel), List.mem_of_getElem? (i := 1012) (by decide +kernel)⟩
theorem lw_p55 : lw_okq (⟨"NameRowsModel", "wanted", "(II)I"⟩, 42) := ⟨⟨by decide +kernel, by decide +kernel⟩, List.mem_of_getElem? (i := 713) (by decide +kernel), List.mem_of_getElem? (i := 1015) (by decide +kernel), List.mem_of_getElem? (i := 1016) (by decide +kernel)⟩
theorem lw_p56 : lw_okq (⟨"NameRowsModel", "isGoodB", "(II)Z"⟩, 42) := ⟨⟨by decide +kernel, by decide +kernel⟩, List.mem_of_getElem? (i := 713) (by decide +kernel), List.mem_of_getElem? (i := 1019) (by decide +kernel), List.mem_of_getElem? (i := 1020) (by decide +kernel)⟩
theorem lw_p57 : lw_okq (⟨"NameRowsModel", "lines", "(I)I"⟩, 42) := ⟨⟨by decide +kernel, by decide +kernel⟩, List.mem_of_getElem? (i := 713) (by decide +kernel), List.mem_of_getElem? (i := 1023) (by decide +kernel), List.mem_of_getElem? (i := 1024) (by decide +kernel)⟩
theorem lw_p58 : lw_okq (⟨"NameRowsModel", "atOf", "(IIII)I"⟩, 42) := ⟨⟨by decide +kernel, by decide +kernel⟩, List.mem_of_getElem? (i := 713) (by decide +kernel), List.mem_of_getElem? (i := 1031) (by decide +kernel), List.mem_of_getElem? (i := 1032) (by decide +kernel)⟩
theorem lw_p59 : lw_okq (⟨"NameRowsModel", "tells", "(III)V"⟩, 42) := ⟨⟨by decide +kernel, by decide +kernel⟩, List.mem_of_getElem? (i := 713) (by decide +kernel), List.mem_of_getElem? (i := 1035) (by decide +kernel), List.mem_of_getElem? (i := 1036) (by decide +kernel)⟩
theorem lw_p60 : lw_okq (⟨"NameRowsModel", "keepsReal", "(IIII)V"⟩, 42) := ⟨⟨by decide +kernel, by decide +kernel⟩, List.mem_of_getElem? (i := 713) (by decide +kernel), List.mem_of_getElem? (i := 1039) (by decide +kernel), List.mem_of_getElem? (i := 1040) (by decide +kernel)⟩
theorem lw_p61 : lw_okq (⟨"NameRowsModel", "isDead", "(I)Z"⟩, 42) := ⟨⟨by decide +kernel, by decide +kernel⟩, List.mem_of_getElem? (i := 713) (by decide +kernel), List.mem_of_getElem? (i := 1063) (by decide +kernel), List.mem_of_getElem? (i := 1064) (by decide +kernel)⟩
def lw_privs_4 : List (MethodName × Nat) := [(⟨"NameRowsModel", "behind", "(IIII)I"⟩, 42), (⟨"NameRowsModel", "goesOn", "(IIIII)I"⟩, 42), (⟨"NameRowsModel", "put", "()I"⟩, 42), (⟨"NameRowsModel", "isGoodA", "(II)Z"⟩, 42), (⟨"NameRowsModel", "leadsOn", "(II)Z"⟩, 42), (⟨"NameRowsModel", "orbitOf", "(IZIZI)I"⟩, 42), (⟨"NameRowsModel", "lengthOf", "(II)I"⟩, 42), (⟨"NameRowsModel", "wanted", "(II)I"⟩, 42), (⟨"NameRowsModel", "isGoodB", "(II)Z"⟩, 42), (⟨"NameRowsModel", "lines", "(I)I"⟩, 42), (⟨"NameRowsModel", "atOf", "(IIII)I"⟩, 42), (⟨"NameRowsModel", "tells", "(III)V"⟩, 42), (⟨"NameRowsModel", "keepsReal", "(IIII)V"⟩, 42), (⟨"NameRowsModel", "isDead", "(I)Z"⟩, 42)]
theorem lw_r4 : ∀ q ∈ lw_privs_4, lw_okq q := List.forall_mem_cons.mpr ⟨lw_p48, List.forall_mem_cons.mpr ⟨lw_p49, List.forall_mem_cons.mpr ⟨lw_p50, List.forall_mem_cons.mpr ⟨lw_p51, List.forall_mem_cons.mpr ⟨lw_p52, List.forall_mem_cons.mpr ⟨lw_p53, List.forall_mem_cons.mpr ⟨lw_p54, List.forall_mem_cons.mpr ⟨lw_p55, List.forall_mem_cons.mpr ⟨lw_p56, List.forall_mem_cons.mpr ⟨lw_p57, List.forall_mem_cons.mpr ⟨lw_p58, List.forall_mem_cons.mpr ⟨lw_p59, List.forall_mem_cons.mpr ⟨lw_p60, List.forall_mem_cons.mpr ⟨lw_p61, fun _ h => absurd h List.not_mem_nil⟩⟩⟩⟩⟩⟩⟩⟩⟩⟩⟩⟩⟩⟩
def lw_privs : List (MethodName × Nat) := lw_privs_1 ++ (lw_privs_2 ++ (lw_privs_3 ++ (lw_privs_4)))
def lw_tbl : List Cond := k2_sels lw_privs ++ tables_1
theorem lw_privs_ok : ∀ q ∈ lw_privs, lw_okq q := by
  show ∀ q ∈ lw_privs_1 ++ (lw_privs_2 ++ (lw_privs_3 ++ (lw_privs_4))), lw_okq q
  exact List.forall_mem_append.mpr ⟨lw_r1, List.forall_mem_append.mpr ⟨lw_r2, List.forall_mem_append.mpr ⟨lw_r3, lw_r4⟩⟩⟩
/-! ===== BEGIN printed: names, fields, word lists, decode rows ===== -/
def RX0 : String := "NameRows$Machine"
def TX0 : u_T := fun k => match k with
  | 0 => ("NameRows$Machine", "next", "[I", true)
  | 1 => ("NameRows$Machine", "keep", "[I", true)
  | 2 => ("NameRows$Machine", "goodOnes", "[Z", true)
  | 3 => ("NameRows$Machine", "states", "I", false)
  | 4 => ("NameRows$Machine", "registers", "I", false)
  | 5 => ("NameRows$Machine", "watched", "Z", false)
  | 6 => ("NameRows$Machine", "fate", "[I", true)
  | _ => ("NameRows$Machine", "orbitsKnown", "Z", false)
def tyX0 : Nat → FieldType := fun k => match k with
  | 0 => .array .int
  | 1 => .array .int
  | 2 => .array .boolean
  | 3 => .int
  | 4 => .int
  | 5 => .boolean
  | 6 => .array .int
  | _ => .boolean
abbrev wsX00 : List Cond := u_ws RX0 TX0 8
theorem nmX0 : ∀ a, a < 8 → ∀ b, b < 8 → a ≠ b → (TX0 a).2.1 ≠ (TX0 b).2.1 := by decide +kernel
theorem tyX0_ok : ∀ k, k < 8 → parseFieldDescriptor (TX0 k).2.2.1 = some (tyX0 k) := by decide +kernel
abbrev cX0_init : ByteArray := prog_2_method_1_code
def yX0_init : MethodName := ⟨RX0, "<init>", "()V"⟩
abbrev cX0_begin : ByteArray := prog_2_method_2_code
def yX0_begin : MethodName := ⟨RX0, "begin", "(II)V"⟩
abbrev cX0_turnFrom : ByteArray := prog_2_method_3_code
def yX0_turnFrom : MethodName := ⟨RX0, "turnFrom", "(LNameRows$Machine;)V"⟩
abbrev cX0_hasState : ByteArray := prog_2_method_4_code
def yX0_hasState : MethodName := ⟨RX0, "hasState", "(I)Z"⟩
abbrev cX0_stepAt : ByteArray := prog_2_method_5_code
def yX0_stepAt : MethodName := ⟨RX0, "stepAt", "(III)I"⟩
abbrev cX0_canKeep : ByteArray := prog_2_method_6_code
def yX0_canKeep : MethodName := ⟨RX0, "canKeep", "(I)Z"⟩
abbrev cX0_setStep : ByteArray := prog_2_method_7_code
def yX0_setStep : MethodName := ⟨RX0, "setStep", "(III)V"⟩
abbrev cX0_isGood : ByteArray := prog_2_method_8_code
def yX0_isGood : MethodName := ⟨RX0, "isGood", "(I)Z"⟩
abbrev cX0_setGood : ByteArray := prog_2_method_9_code
def yX0_setGood : MethodName := ⟨RX0, "setGood", "(IZ)V"⟩
abbrev cX0_goodStates : ByteArray := prog_2_method_10_code
def yX0_goodStates : MethodName := ⟨RX0, "goodStates", "()I"⟩
abbrev cX0_forgetOrbits : ByteArray := prog_2_method_11_code
def yX0_forgetOrbits : MethodName := ⟨RX0, "forgetOrbits", "()V"⟩
abbrev cX0_setFate : ByteArray := prog_2_method_12_code
def yX0_setFate : MethodName := ⟨RX0, "setFate", "(III)V"⟩
abbrev cX0_fateOf : ByteArray := prog_2_method_13_code
def yX0_fateOf : MethodName := ⟨RX0, "fateOf", "(II)I"⟩
abbrev cX0_orbitsOf : ByteArray := prog_2_method_14_code
def yX0_orbitsOf : MethodName := ⟨RX0, "orbitsOf", "(I)I"⟩
abbrev cX0_statesMet : ByteArray := prog_2_method_15_code
def yX0_statesMet : MethodName := ⟨RX0, "statesMet", "()I"⟩
abbrev cX0_isMet : ByteArray := prog_2_method_16_code
def yX0_isMet : MethodName := ⟨RX0, "isMet", "(I)Z"⟩
def RX1 : String := "NameRows$Pairing"
def TX1 : u_T := fun k => match k with
  | 0 => ("NameRows$Pairing", "pairs", "[I", true)
  | _ => ("NameRows$Pairing", "met", "I", false)
def tyX1 : Nat → FieldType := fun k => match k with
  | 0 => .array .int
  | _ => .int
abbrev wsX10 : List Cond := u_ws RX1 TX1 2
theorem nmX1 : ∀ a, a < 2 → ∀ b, b < 2 → a ≠ b → (TX1 a).2.1 ≠ (TX1 b).2.1 := by decide +kernel
theorem tyX1_ok : ∀ k, k < 2 → parseFieldDescriptor (TX1 k).2.2.1 = some (tyX1 k) := by decide +kernel
abbrev cX1_init : ByteArray := prog_3_method_1_code
def yX1_init : MethodName := ⟨RX1, "<init>", "()V"⟩
abbrev cX1_join : ByteArray := prog_3_method_2_code
def yX1_join : MethodName := ⟨RX1, "join", "(LNameRows$Machine;LNameRows$Machine;LNameRows$Machine;I)Z"⟩
abbrev cX1_joinSteps : ByteArray := prog_3_method_3_code
def yX1_joinSteps : MethodName := ⟨RX1, "joinSteps", "(LNameRows$Machine;ILNameRows$Machine;LNameRows$Machine;)Z"⟩
abbrev cX1_numberOf : ByteArray := prog_3_method_4_code
def yX1_numberOf : MethodName := ⟨RX1, "numberOf", "(I)I"⟩
abbrev cX1_isGood : ByteArray := prog_3_method_5_code
def yX1_isGood : MethodName := ⟨RX1, "isGood", "(ZZI)Z"⟩
def RX2 : String := "NameRows$Row"
def TX2 : u_T := fun k => match k with
  | 0 => ("NameRows$Row", "letters", "[I", true)
  | 1 => ("NameRows$Row", "called", "[I", true)
  | _ => ("NameRows$Row", "length", "I", false)
def tyX2 : Nat → FieldType := fun k => match k with
  | 0 => .array .int
  | 1 => .array .int
  | _ => .int
abbrev wsX20 : List Cond := u_ws RX2 TX2 3
theorem nmX2 : ∀ a, a < 3 → ∀ b, b < 3 → a ≠ b → (TX2 a).2.1 ≠ (TX2 b).2.1 := by decide +kernel
theorem tyX2_ok : ∀ k, k < 3 → parseFieldDescriptor (TX2 k).2.2.1 = some (tyX2 k) := by decide +kernel
abbrev cX2_init : ByteArray := prog_4_method_1_code
def yX2_init : MethodName := ⟨RX2, "<init>", "(I)V"⟩
abbrev cX2_hasPlace : ByteArray := prog_4_method_2_code
def yX2_hasPlace : MethodName := ⟨RX2, "hasPlace", "(I)Z"⟩
abbrev cX2_hasPrefix : ByteArray := prog_4_method_3_code
def yX2_hasPrefix : MethodName := ⟨RX2, "hasPrefix", "(I)Z"⟩
abbrev cX2_append : ByteArray := prog_4_method_4_code
def yX2_append : MethodName := ⟨RX2, "append", "(II)I"⟩
abbrev cX2_firstWithNameOf : ByteArray := prog_4_method_5_code
def yX2_firstWithNameOf : MethodName := ⟨RX2, "firstWithNameOf", "(I)I"⟩
abbrev cX2_becomeAs : ByteArray := prog_4_method_6_code
def yX2_becomeAs : MethodName := ⟨RX2, "becomeAs", "(LNameRows$Row;)V"⟩
def RX3 : String := "NameRows$Run"
def TX3 : u_T := fun k => match k with
  | 0 => ("NameRows$Run", "state", "I", false)
  | 1 => ("NameRows$Run", "held", "[I", true)
  | 2 => ("NameRows$Run", "keptAt", "[I", true)
  | 3 => ("NameRows$Run", "lastCase", "I", false)
  | _ => ("NameRows$Run", "gone", "I", false)
def tyX3 : Nat → FieldType := fun k => match k with
  | 0 => .int
  | 1 => .array .int
  | 2 => .array .int
  | 3 => .int
  | _ => .int
abbrev wsX30 : List Cond := u_ws RX3 TX3 5
theorem nmX3 : ∀ a, a < 5 → ∀ b, b < 5 → a ≠ b → (TX3 a).2.1 ≠ (TX3 b).2.1 := by decide +kernel
theorem tyX3_ok : ∀ k, k < 5 → parseFieldDescriptor (TX3 k).2.2.1 = some (tyX3 k) := by decide +kernel
abbrev cX3_init : ByteArray := prog_5_method_1_code
def yX3_init : MethodName := ⟨RX3, "<init>", "()V"⟩
abbrev cX3_begin : ByteArray := prog_5_method_2_code
def yX3_begin : MethodName := ⟨RX3, "begin", "()V"⟩
abbrev cX3_go : ByteArray := prog_5_method_3_code
def yX3_go : MethodName := ⟨RX3, "go", "(LNameRows$Machine;II)V"⟩
abbrev cX3_keepIn : ByteArray := prog_5_method_4_code
def yX3_keepIn : MethodName := ⟨RX3, "keepIn", "(II)V"⟩
abbrev cX3_caseOf : ByteArray := prog_5_method_5_code
def yX3_caseOf : MethodName := ⟨RX3, "caseOf", "(I)I"⟩
abbrev cX3_isDoomed : ByteArray := prog_5_method_6_code
def yX3_isDoomed : MethodName := ⟨RX3, "isDoomed", "(LNameRows$Machine;)Z"⟩
abbrev cX3_pattern : ByteArray := prog_5_method_7_code
def yX3_pattern : MethodName := ⟨RX3, "pattern", "()I"⟩
def RX4 : String := "NameRows$Sheet"
def TX4 : u_T := fun k => match k with
  | 0 => ("NameRows$Sheet", "cells", "[I", true)
  | 1 => ("NameRows$Sheet", "lane", "I", false)
  | _ => ("NameRows$Sheet", "size", "I", false)
def tyX4 : Nat → FieldType := fun k => match k with
  | 0 => .array .int
  | 1 => .int
  | _ => .int
abbrev wsX40 : List Cond := u_ws RX4 TX4 3
theorem nmX4 : ∀ a, a < 3 → ∀ b, b < 3 → a ≠ b → (TX4 a).2.1 ≠ (TX4 b).2.1 := by decide +kernel
theorem tyX4_ok : ∀ k, k < 3 → parseFieldDescriptor (TX4 k).2.2.1 = some (tyX4 k) := by decide +kernel
abbrev cX4_init : ByteArray := prog_6_method_1_code
def yX4_init : MethodName := ⟨RX4, "<init>", "()V"⟩
abbrev cX4_begin : ByteArray := prog_6_method_2_code
def yX4_begin : MethodName := ⟨RX4, "begin", "(II)V"⟩
abbrev cX4_isNothing : ByteArray := prog_6_method_3_code
def yX4_isNothing : MethodName := ⟨RX4, "isNothing", "()Z"⟩
abbrev cX4_hasCell : ByteArray := prog_6_method_4_code
def yX4_hasCell : MethodName := ⟨RX4, "hasCell", "(I)Z"⟩
abbrev cX4_setCell : ByteArray := prog_6_method_5_code
def yX4_setCell : MethodName := ⟨RX4, "setCell", "(II)V"⟩
def RX5 : String := "NameRows$Walk"
def TX5 : u_T := fun k => match k with
  | 0 => ("NameRows$Walk", "numberOf", "[I", true)
  | 1 => ("NameRows$Walk", "codes", "[I", true)
  | 2 => ("NameRows$Walk", "cameFrom", "[I", true)
  | 3 => ("NameRows$Walk", "cameBy", "[I", true)
  | 4 => ("NameRows$Walk", "met", "I", false)
  | 5 => ("NameRows$Walk", "state1", "I", false)
  | 6 => ("NameRows$Walk", "state2", "I", false)
  | 7 => ("NameRows$Walk", "heldCode", "I", false)
  | 8 => ("NameRows$Walk", "labels", "[I", true)
  | 9 => ("NameRows$Walk", "wayLabels", "[I", true)
  | 10 => ("NameRows$Walk", "cases1", "[I", true)
  | 11 => ("NameRows$Walk", "cases2", "[I", true)
  | 12 => ("NameRows$Walk", "newLabels", "[I", true)
  | 13 => ("NameRows$Walk", "digits", "[I", true)
  | 14 => ("NameRows$Walk", "lives", "[Z", true)
  | 15 => ("NameRows$Walk", "next", "[I", true)
  | 16 => ("NameRows$Walk", "run1", "LNameRows$Run;", true)
  | _ => ("NameRows$Walk", "run2", "LNameRows$Run;", true)
def tyX5 : Nat → FieldType := fun k => match k with
  | 0 => .array .int
  | 1 => .array .int
  | 2 => .array .int
  | 3 => .array .int
  | 4 => .int
  | 5 => .int
  | 6 => .int
  | 7 => .int
  | 8 => .array .int
  | 9 => .array .int
  | 10 => .array .int
  | 11 => .array .int
  | 12 => .array .int
  | 13 => .array .int
  | 14 => .array .boolean
  | 15 => .array .int
  | 16 => .object "NameRows$Run"
  | _ => .object "NameRows$Run"
abbrev wsX50 : List Cond := u_ws RX5 TX5 18
theorem nmX5 : ∀ a, a < 18 → ∀ b, b < 18 → a ≠ b → (TX5 a).2.1 ≠ (TX5 b).2.1 := by decide +kernel
theorem tyX5_ok : ∀ k, k < 18 → parseFieldDescriptor (TX5 k).2.2.1 = some (tyX5 k) := by decide +kernel
abbrev cX5_init : ByteArray := prog_7_method_1_code
def yX5_init : MethodName := ⟨RX5, "<init>", "()V"⟩
abbrev cX5_patternOf : ByteArray := prog_7_method_2_code
def yX5_patternOf : MethodName := ⟨RX5, "patternOf", "(II)I"⟩
abbrev cX5_explore : ByteArray := prog_7_method_3_code
def yX5_explore : MethodName := ⟨RX5, "explore", "(LNameRows$Machine;LNameRows$Machine;I)I"⟩
abbrev cX5_forget : ByteArray := prog_7_method_4_code
def yX5_forget : MethodName := ⟨RX5, "forget", "()V"⟩
abbrev cX5_meet : ByteArray := prog_7_method_5_code
def yX5_meet : MethodName := ⟨RX5, "meet", "(III)V"⟩
abbrev cX5_isWanted : ByteArray := prog_7_method_6_code
def yX5_isWanted : MethodName := ⟨RX5, "isWanted", "(ZZI)Z"⟩
abbrev cX5_lookAt : ByteArray := prog_7_method_7_code
def yX5_lookAt : MethodName := ⟨RX5, "lookAt", "(I)V"⟩
abbrev cX5_codeBehind : ByteArray := prog_7_method_8_code
def yX5_codeBehind : MethodName := ⟨RX5, "codeBehind", "(LNameRows$Machine;LNameRows$Machine;I)I"⟩
abbrev cX5_labelOf : ByteArray := prog_7_method_9_code
def yX5_labelOf : MethodName := ⟨RX5, "labelOf", "(I)I"⟩
abbrev cX5_caseOf : ByteArray := prog_7_method_10_code
def yX5_caseOf : MethodName := ⟨RX5, "caseOf", "(II)I"⟩
abbrev cX5_heldBehind : ByteArray := prog_7_method_11_code
def yX5_heldBehind : MethodName := ⟨RX5, "heldBehind", "(III)I"⟩
abbrev cX5_keep : ByteArray := prog_7_method_12_code
def yX5_keep : MethodName := ⟨RX5, "keep", "(III)V"⟩
abbrev cX5_digitOfEarlier : ByteArray := prog_7_method_13_code
def yX5_digitOfEarlier : MethodName := ⟨RX5, "digitOfEarlier", "(I)I"⟩
abbrev cX5_tellWays : ByteArray := prog_7_method_14_code
def yX5_tellWays : MethodName := ⟨RX5, "tellWays", "(ILNameRows$Row;)V"⟩
abbrev cX5_giveNames : ByteArray := prog_7_method_15_code
def yX5_giveNames : MethodName := ⟨RX5, "giveNames", "(LNameRows$Machine;LNameRows$Machine;LNameRows$Row;)V"⟩
abbrev cX5_survey : ByteArray := prog_7_method_16_code
def yX5_survey : MethodName := ⟨RX5, "survey", "(LNameRows$Machine;LNameRows$Machine;)V"⟩
abbrev cX5_tellNext : ByteArray := prog_7_method_17_code
def yX5_tellNext : MethodName := ⟨RX5, "tellNext", "(ILNameRows$Machine;LNameRows$Machine;)V"⟩
abbrev cX5_spreadLife : ByteArray := prog_7_method_18_code
def yX5_spreadLife : MethodName := ⟨RX5, "spreadLife", "()Z"⟩
abbrev cX5_leadsToLife : ByteArray := prog_7_method_19_code
def yX5_leadsToLife : MethodName := ⟨RX5, "leadsToLife", "(I)Z"⟩
def RX6 : String := "NameRows$Watch"
def TX6 : u_T := fun k => match k with
  | 0 => ("NameRows$Watch", "run", "LNameRows$Run;", true)
  | 1 => ("NameRows$Watch", "machine", "LNameRows$Machine;", false)
  | 2 => ("NameRows$Watch", "timesGood", "I", false)
  | _ => ("NameRows$Watch", "doneAt", "I", false)
def tyX6 : Nat → FieldType := fun k => match k with
  | 0 => .object "NameRows$Run"
  | 1 => .object "NameRows$Machine"
  | 2 => .int
  | _ => .int
abbrev wsX60 : List Cond := u_ws RX6 TX6 4
theorem nmX6 : ∀ a, a < 4 → ∀ b, b < 4 → a ≠ b → (TX6 a).2.1 ≠ (TX6 b).2.1 := by decide +kernel
theorem tyX6_ok : ∀ k, k < 4 → parseFieldDescriptor (TX6 k).2.2.1 = some (tyX6 k) := by decide +kernel
abbrev cX6_init : ByteArray := prog_8_method_1_code
def yX6_init : MethodName := ⟨RX6, "<init>", "()V"⟩
abbrev cX6_begin : ByteArray := prog_8_method_2_code
def yX6_begin : MethodName := ⟨RX6, "begin", "(LNameRows$Machine;)V"⟩
abbrev cX6_isDone : ByteArray := prog_8_method_3_code
def yX6_isDone : MethodName := ⟨RX6, "isDone", "()Z"⟩
abbrev cX6_take : ByteArray := prog_8_method_4_code
def yX6_take : MethodName := ⟨RX6, "take", "(II)I"⟩
def RX7 : String := "NameRows"
def TX7 : u_T := fun k => match k with
  | 0 => ("NameRows", "row", "LNameRows$Row;", true)
  | 1 => ("NameRows", "machines", "[LNameRows$Machine;", true)
  | 2 => ("NameRows", "machineCount", "I", false)
  | 3 => ("NameRows", "watches", "[LNameRows$Watch;", true)
  | 4 => ("NameRows", "watchCount", "I", false)
  | 5 => ("NameRows", "sheets", "[LNameRows$Sheet;", true)
  | 6 => ("NameRows", "silent", "LNameRows$Machine;", true)
  | 7 => ("NameRows", "pairing", "LNameRows$Pairing;", true)
  | 8 => ("NameRows", "run", "LNameRows$Run;", true)
  | 9 => ("NameRows", "walk", "LNameRows$Walk;", true)
  | 10 => ("NameRows", "least", "LNameRows$Row;", true)
  | 11 => ("NameRows", "leastKnown", "Z", false)
  | 12 => ("NameRows", "leastOne", "I", false)
  | 13 => ("NameRows", "leastOther", "I", false)
  | 14 => ("NameRows", "leastAnswer", "I", false)
  | _ => ("NameRows", "unlikeMachines", "I", false)
def tyX7 : Nat → FieldType := fun k => match k with
  | 0 => .object "NameRows$Row"
  | 1 => .array (.object "NameRows$Machine")
  | 2 => .int
  | 3 => .array (.object "NameRows$Watch")
  | 4 => .int
  | 5 => .array (.object "NameRows$Sheet")
  | 6 => .object "NameRows$Machine"
  | 7 => .object "NameRows$Pairing"
  | 8 => .object "NameRows$Run"
  | 9 => .object "NameRows$Walk"
  | 10 => .object "NameRows$Row"
  | 11 => .boolean
  | 12 => .int
  | 13 => .int
  | 14 => .int
  | _ => .int
abbrev wsX70 : List Cond := u_ws RX7 TX7 16
theorem nmX7 : ∀ a, a < 16 → ∀ b, b < 16 → a ≠ b → (TX7 a).2.1 ≠ (TX7 b).2.1 := by decide +kernel
theorem tyX7_ok : ∀ k, k < 16 → parseFieldDescriptor (TX7 k).2.2.1 = some (tyX7 k) := by decide +kernel
abbrev cX7_init : ByteArray := prog_1_method_1_code
def yX7_init : MethodName := ⟨RX7, "<init>", "()V"⟩
abbrev cX7_place : ByteArray := prog_1_method_2_code
def yX7_place : MethodName := ⟨RX7, "place", "(II)I"⟩
abbrev cX7_cut : ByteArray := prog_1_method_3_code
def yX7_cut : MethodName := ⟨RX7, "cut", "(I)I"⟩
abbrev cX7_first : ByteArray := prog_1_method_4_code
def yX7_first : MethodName := ⟨RX7, "first", "(I)I"⟩
abbrev cX7_names : ByteArray := prog_1_method_5_code
def yX7_names : MethodName := ⟨RX7, "names", "()I"⟩
abbrev cX7_machine : ByteArray := prog_1_method_6_code
def yX7_machine : MethodName := ⟨RX7, "machine", "(II)I"⟩
abbrev cX7_step : ByteArray := prog_1_method_7_code
def yX7_step : MethodName := ⟨RX7, "step", "(IIIIII)I"⟩
abbrev cX7_good : ByteArray := prog_1_method_8_code
def yX7_good : MethodName := ⟨RX7, "good", "(IIZ)I"⟩
abbrev cX7_told : ByteArray := prog_1_method_9_code
def yX7_told : MethodName := ⟨RX7, "told", "(II)I"⟩
abbrev cX7_stepOf : ByteArray := prog_1_method_10_code
def yX7_stepOf : MethodName := ⟨RX7, "stepOf", "(IIIII)I"⟩
abbrev cX7_drop : ByteArray := prog_1_method_11_code
def yX7_drop : MethodName := ⟨RX7, "drop", "()I"⟩
abbrev cX7_turned : ByteArray := prog_1_method_12_code
def yX7_turned : MethodName := ⟨RX7, "turned", "(I)I"⟩
abbrev cX7_both : ByteArray := prog_1_method_13_code
def yX7_both : MethodName := ⟨RX7, "both", "(III)I"⟩
abbrev cX7_machineAt : ByteArray := prog_1_method_14_code
def yX7_machineAt : MethodName := ⟨RX7, "machineAt", "(I)LNameRows$Machine;"⟩
abbrev cX7_spareMachine : ByteArray := prog_1_method_15_code
def yX7_spareMachine : MethodName := ⟨RX7, "spareMachine", "()LNameRows$Machine;"⟩
abbrev cX7_addSpareMachine : ByteArray := prog_1_method_16_code
def yX7_addSpareMachine : MethodName := ⟨RX7, "addSpareMachine", "()I"⟩
abbrev cX7_machinesChanged : ByteArray := prog_1_method_17_code
def yX7_machinesChanged : MethodName := ⟨RX7, "machinesChanged", "()V"⟩
abbrev cX7_takes : ByteArray := prog_1_method_18_code
def yX7_takes : MethodName := ⟨RX7, "takes", "(II)I"⟩
abbrev cX7_ran : ByteArray := prog_1_method_19_code
def yX7_ran : MethodName := ⟨RX7, "ran", "(III)I"⟩
abbrev cX7_doomed : ByteArray := prog_1_method_20_code
def yX7_doomed : MethodName := ⟨RX7, "doomed", "(I)I"⟩
abbrev cX7_runOver : ByteArray := prog_1_method_21_code
def yX7_runOver : MethodName := ⟨RX7, "runOver", "(LNameRows$Machine;I)V"⟩
abbrev cX7_learnOrbits : ByteArray := prog_1_method_22_code
def yX7_learnOrbits : MethodName := ⟨RX7, "learnOrbits", "(LNameRows$Machine;)V"⟩
abbrev cX7_orbits : ByteArray := prog_1_method_23_code
def yX7_orbits : MethodName := ⟨RX7, "orbits", "(II)I"⟩
abbrev cX7_shortest : ByteArray := prog_1_method_24_code
def yX7_shortest : MethodName := ⟨RX7, "shortest", "(I)I"⟩
abbrev cX7_shortestAt : ByteArray := prog_1_method_25_code
def yX7_shortestAt : MethodName := ⟨RX7, "shortestAt", "(III)I"⟩
abbrev cX7_parts : ByteArray := prog_1_method_26_code
def yX7_parts : MethodName := ⟨RX7, "parts", "(II)I"⟩
abbrev cX7_partsAt : ByteArray := prog_1_method_27_code
def yX7_partsAt : MethodName := ⟨RX7, "partsAt", "(IIII)I"⟩
abbrev cX7_within : ByteArray := prog_1_method_28_code
def yX7_within : MethodName := ⟨RX7, "within", "(II)I"⟩
abbrev cX7_show : ByteArray := prog_1_method_29_code
def yX7_show : MethodName := ⟨RX7, "show", "(II)I"⟩
abbrev cX7_findLeast : ByteArray := prog_1_method_30_code
def yX7_findLeast : MethodName := ⟨RX7, "findLeast", "(II)I"⟩
abbrev cX7_leastAt : ByteArray := prog_1_method_31_code
def yX7_leastAt : MethodName := ⟨RX7, "leastAt", "(IIII)I"⟩
abbrev cX7_watch : ByteArray := prog_1_method_32_code
def yX7_watch : MethodName := ⟨RX7, "watch", "(I)I"⟩
abbrev cX7_see : ByteArray := prog_1_method_33_code
def yX7_see : MethodName := ⟨RX7, "see", "(III)I"⟩
abbrev cX7_seen : ByteArray := prog_1_method_34_code
def yX7_seen : MethodName := ⟨RX7, "seen", "(II)I"⟩
abbrev cX7_watchAt : ByteArray := prog_1_method_35_code
def yX7_watchAt : MethodName := ⟨RX7, "watchAt", "(I)LNameRows$Watch;"⟩
abbrev cX7_sheet : ByteArray := prog_1_method_36_code
def yX7_sheet : MethodName := ⟨RX7, "sheet", "(III)I"⟩
abbrev cX7_lay : ByteArray := prog_1_method_37_code
def yX7_lay : MethodName := ⟨RX7, "lay", "(III)I"⟩
abbrev cX7_scan : ByteArray := prog_1_method_38_code
def yX7_scan : MethodName := ⟨RX7, "scan", "(IIII)I"⟩
abbrev cX7_scanPlace : ByteArray := prog_1_method_39_code
def yX7_scanPlace : MethodName := ⟨RX7, "scanPlace", "(LNameRows$Sheet;I)I"⟩
abbrev cX7_sheetAt : ByteArray := prog_1_method_40_code
def yX7_sheetAt : MethodName := ⟨RX7, "sheetAt", "(I)LNameRows$Sheet;"⟩
abbrev cX7_count : ByteArray := prog_1_method_41_code
def yX7_count : MethodName := ⟨RX7, "count", "(I)I"⟩
abbrev cX7_watchesDone : ByteArray := prog_1_method_42_code
def yX7_watchesDone : MethodName := ⟨RX7, "watchesDone", "()I"⟩
abbrev cX7_countUnlikeMachines : ByteArray := prog_1_method_43_code
def yX7_countUnlikeMachines : MethodName := ⟨RX7, "countUnlikeMachines", "()I"⟩
abbrev cX7_isAsEarlierOne : ByteArray := prog_1_method_44_code
def yX7_isAsEarlierOne : MethodName := ⟨RX7, "isAsEarlierOne", "(I)Z"⟩
def RX8 : String := "NameRowsModel"
def TX8 : u_T := fun k => match k with
  | 0 => ("NameRowsModel", "places", "I", false)
  | 1 => ("NameRowsModel", "letters", "[I", true)
  | 2 => ("NameRowsModel", "names", "[I", true)
  | 3 => ("NameRowsModel", "machines", "I", false)
  | 4 => ("NameRowsModel", "many", "[I", true)
  | 5 => ("NameRowsModel", "regs", "[I", true)
  | 6 => ("NameRowsModel", "isGood", "[Z", true)
  | 7 => ("NameRowsModel", "nexts", "[I", true)
  | 8 => ("NameRowsModel", "keeps", "[I", true)
  | 9 => ("NameRowsModel", "pairs", "[I", true)
  | 10 => ("NameRowsModel", "bothNext", "[I", true)
  | 11 => ("NameRowsModel", "bothKeep", "[I", true)
  | 12 => ("NameRowsModel", "state", "I", false)
  | 13 => ("NameRowsModel", "has", "[Z", true)
  | 14 => ("NameRowsModel", "held", "[I", true)
  | 15 => ("NameRowsModel", "keptAt", "[I", true)
  | 16 => ("NameRowsModel", "lastCase", "I", false)
  | 17 => ("NameRowsModel", "seen", "[Z", true)
  | 18 => ("NameRowsModel", "alive", "[Z", true)
  | 19 => ("NameRowsModel", "queue", "[I", true)
  | 20 => ("NameRowsModel", "cameFrom", "[I", true)
  | 21 => ("NameRowsModel", "cameBy", "[I", true)
  | 22 => ("NameRowsModel", "found", "I", false)
  | 23 => ("NameRowsModel", "stateA", "I", false)
  | 24 => ("NameRowsModel", "stateB", "I", false)
  | 25 => ("NameRowsModel", "labels", "[I", true)
  | 26 => ("NameRowsModel", "fresh", "[I", true)
  | 27 => ("NameRowsModel", "line", "[I", true)
  | 28 => ("NameRowsModel", "rowLetter", "I", false)
  | 29 => ("NameRowsModel", "rowName", "I", false)
  | 30 => ("NameRowsModel", "realNames", "[I", true)
  | 31 => ("NameRowsModel", "watches", "I", false)
  | 32 => ("NameRowsModel", "watchOf", "[I", true)
  | 33 => ("NameRowsModel", "wState", "[I", true)
  | 34 => ("NameRowsModel", "wHas", "[Z", true)
  | 35 => ("NameRowsModel", "wHeld", "[I", true)
  | 36 => ("NameRowsModel", "wCame", "[I", true)
  | 37 => ("NameRowsModel", "wGood", "[I", true)
  | 38 => ("NameRowsModel", "wDone", "[I", true)
  | 39 => ("NameRowsModel", "lanes", "[I", true)
  | 40 => ("NameRowsModel", "sizes", "[I", true)
  | _ => ("NameRowsModel", "cells", "[I", true)
def tyX8 : Nat → FieldType := fun k => match k with
  | 0 => .int
  | 1 => .array .int
  | 2 => .array .int
  | 3 => .int
  | 4 => .array .int
  | 5 => .array .int
  | 6 => .array .boolean
  | 7 => .array .int
  | 8 => .array .int
  | 9 => .array .int
  | 10 => .array .int
  | 11 => .array .int
  | 12 => .int
  | 13 => .array .boolean
  | 14 => .array .int
  | 15 => .array .int
  | 16 => .int
  | 17 => .array .boolean
  | 18 => .array .boolean
  | 19 => .array .int
  | 20 => .array .int
  | 21 => .array .int
  | 22 => .int
  | 23 => .int
  | 24 => .int
  | 25 => .array .int
  | 26 => .array .int
  | 27 => .array .int
  | 28 => .int
  | 29 => .int
  | 30 => .array .int
  | 31 => .int
  | 32 => .array .int
  | 33 => .array .int
  | 34 => .array .boolean
  | 35 => .array .int
  | 36 => .array .int
  | 37 => .array .int
  | 38 => .array .int
  | 39 => .array .int
  | 40 => .array .int
  | _ => .array .int
abbrev wsX80 : List Cond := u_ws RX8 TX8 42
theorem nmX8 : ∀ a, a < 42 → ∀ b, b < 42 → a ≠ b → (TX8 a).2.1 ≠ (TX8 b).2.1 := by decide +kernel
theorem tyX8_ok : ∀ k, k < 42 → parseFieldDescriptor (TX8 k).2.2.1 = some (tyX8 k) := by decide +kernel
abbrev cX8_init : ByteArray := prog_10_method_1_code
def yX8_init : MethodName := ⟨RX8, "<init>", "()V"⟩
abbrev cX8_in : ByteArray := prog_10_method_3_code
def yX8_in : MethodName := ⟨RX8, "in", "(JJJ)Z"⟩
abbrev cX8_place : ByteArray := prog_10_method_4_code
def yX8_place : MethodName := ⟨RX8, "place", "(II)I"⟩
abbrev cX8_cut : ByteArray := prog_10_method_5_code
def yX8_cut : MethodName := ⟨RX8, "cut", "(I)I"⟩
abbrev cX8_firstOf : ByteArray := prog_10_method_6_code
def yX8_firstOf : MethodName := ⟨RX8, "firstOf", "(I)I"⟩
abbrev cX8_first : ByteArray := prog_10_method_7_code
def yX8_first : MethodName := ⟨RX8, "first", "(I)I"⟩
abbrev cX8_names : ByteArray := prog_10_method_8_code
def yX8_names : MethodName := ⟨RX8, "names", "()I"⟩
abbrev cX8_isMachine : ByteArray := prog_10_method_9_code
def yX8_isMachine : MethodName := ⟨RX8, "isMachine", "(I)Z"⟩
abbrev cX8_isState : ByteArray := prog_10_method_10_code
def yX8_isState : MethodName := ⟨RX8, "isState", "(II)Z"⟩
abbrev cX8_stepAt : ByteArray := prog_10_method_11_code
def yX8_stepAt : MethodName := ⟨RX8, "stepAt", "(IIII)I"⟩
abbrev cX8_isCase : ByteArray := prog_10_method_12_code
def yX8_isCase : MethodName := ⟨RX8, "isCase", "(II)Z"⟩
abbrev cX8_isStep : ByteArray := prog_10_method_13_code
def yX8_isStep : MethodName := ⟨RX8, "isStep", "(IIII)Z"⟩
abbrev cX8_begins : ByteArray := prog_10_method_14_code
def yX8_begins : MethodName := ⟨RX8, "begins", "(III)V"⟩
abbrev cX8_machine : ByteArray := prog_10_method_15_code
def yX8_machine : MethodName := ⟨RX8, "machine", "(II)I"⟩
abbrev cX8_isWatched : ByteArray := prog_10_method_16_code
def yX8_isWatched : MethodName := ⟨RX8, "isWatched", "(I)Z"⟩
abbrev cX8_step : ByteArray := prog_10_method_17_code
def yX8_step : MethodName := ⟨RX8, "step", "(IIIIII)I"⟩
abbrev cX8_good : ByteArray := prog_10_method_18_code
def yX8_good : MethodName := ⟨RX8, "good", "(IIZ)I"⟩
abbrev cX8_told : ByteArray := prog_10_method_19_code
def yX8_told : MethodName := ⟨RX8, "told", "(II)I"⟩
abbrev cX8_stepOf : ByteArray := prog_10_method_20_code
def yX8_stepOf : MethodName := ⟨RX8, "stepOf", "(IIIII)I"⟩
abbrev cX8_drop : ByteArray := prog_10_method_21_code
def yX8_drop : MethodName := ⟨RX8, "drop", "()I"⟩
abbrev cX8_turned : ByteArray := prog_10_method_22_code
def yX8_turned : MethodName := ⟨RX8, "turned", "(I)I"⟩
abbrev cX8_pairAt : ByteArray := prog_10_method_23_code
def yX8_pairAt : MethodName := ⟨RX8, "pairAt", "(II)I"⟩
abbrev cX8_both : ByteArray := prog_10_method_24_code
def yX8_both : MethodName := ⟨RX8, "both", "(III)I"⟩
abbrev cX8_starts : ByteArray := prog_10_method_25_code
def yX8_starts : MethodName := ⟨RX8, "starts", "()V"⟩
abbrev cX8_goes : ByteArray := prog_10_method_26_code
def yX8_goes : MethodName := ⟨RX8, "goes", "(IIII)V"⟩
abbrev cX8_runs : ByteArray := prog_10_method_27_code
def yX8_runs : MethodName := ⟨RX8, "runs", "(II)V"⟩
abbrev cX8_takes : ByteArray := prog_10_method_28_code
def yX8_takes : MethodName := ⟨RX8, "takes", "(II)I"⟩
abbrev cX8_ran : ByteArray := prog_10_method_29_code
def yX8_ran : MethodName := ⟨RX8, "ran", "(III)I"⟩
abbrev cX8_apart : ByteArray := prog_10_method_30_code
def yX8_apart : MethodName := ⟨RX8, "apart", "(I)V"⟩
abbrev cX8_put : ByteArray := prog_10_method_31_code
def yX8_put : MethodName := ⟨RX8, "put", "()I"⟩
abbrev cX8_most : ByteArray := prog_10_method_32_code
def yX8_most : MethodName := ⟨RX8, "most", "()I"⟩
abbrev cX8_goesOn : ByteArray := prog_10_method_33_code
def yX8_goesOn : MethodName := ⟨RX8, "goesOn", "(IIIII)I"⟩
abbrev cX8_behind : ByteArray := prog_10_method_34_code
def yX8_behind : MethodName := ⟨RX8, "behind", "(IIII)I"⟩
abbrev cX8_labelsIn : ByteArray := prog_10_method_35_code
def yX8_labelsIn : MethodName := ⟨RX8, "labelsIn", "(I)I"⟩
abbrev cX8_explores : ByteArray := prog_10_method_36_code
def yX8_explores : MethodName := ⟨RX8, "explores", "(II)V"⟩
abbrev cX8_isGoodA : ByteArray := prog_10_method_37_code
def yX8_isGoodA : MethodName := ⟨RX8, "isGoodA", "(II)Z"⟩
abbrev cX8_isGoodB : ByteArray := prog_10_method_38_code
def yX8_isGoodB : MethodName := ⟨RX8, "isGoodB", "(II)Z"⟩
abbrev cX8_wanted : ByteArray := prog_10_method_39_code
def yX8_wanted : MethodName := ⟨RX8, "wanted", "(II)I"⟩
abbrev cX8_lines : ByteArray := prog_10_method_40_code
def yX8_lines : MethodName := ⟨RX8, "lines", "(I)I"⟩
abbrev cX8_tells : ByteArray := prog_10_method_41_code
def yX8_tells : MethodName := ⟨RX8, "tells", "(III)V"⟩
abbrev cX8_keepsReal : ByteArray := prog_10_method_42_code
def yX8_keepsReal : MethodName := ⟨RX8, "keepsReal", "(IIII)V"⟩
abbrev cX8_lengthOf : ByteArray := prog_10_method_43_code
def yX8_lengthOf : MethodName := ⟨RX8, "lengthOf", "(II)I"⟩
abbrev cX8_atOf : ByteArray := prog_10_method_44_code
def yX8_atOf : MethodName := ⟨RX8, "atOf", "(IIII)I"⟩
abbrev cX8_findAlive : ByteArray := prog_10_method_45_code
def yX8_findAlive : MethodName := ⟨RX8, "findAlive", "(I)V"⟩
abbrev cX8_leadsOn : ByteArray := prog_10_method_46_code
def yX8_leadsOn : MethodName := ⟨RX8, "leadsOn", "(II)Z"⟩
abbrev cX8_orbitOf : ByteArray := prog_10_method_47_code
def yX8_orbitOf : MethodName := ⟨RX8, "orbitOf", "(IZIZI)I"⟩
abbrev cX8_doomed : ByteArray := prog_10_method_48_code
def yX8_doomed : MethodName := ⟨RX8, "doomed", "(I)I"⟩
abbrev cX8_orbits : ByteArray := prog_10_method_49_code
def yX8_orbits : MethodName := ⟨RX8, "orbits", "(II)I"⟩
abbrev cX8_shortest : ByteArray := prog_10_method_50_code
def yX8_shortest : MethodName := ⟨RX8, "shortest", "(I)I"⟩
abbrev cX8_shortestAt : ByteArray := prog_10_method_51_code
def yX8_shortestAt : MethodName := ⟨RX8, "shortestAt", "(III)I"⟩
abbrev cX8_parts : ByteArray := prog_10_method_52_code
def yX8_parts : MethodName := ⟨RX8, "parts", "(II)I"⟩
abbrev cX8_partsAt : ByteArray := prog_10_method_53_code
def yX8_partsAt : MethodName := ⟨RX8, "partsAt", "(IIII)I"⟩
abbrev cX8_within : ByteArray := prog_10_method_54_code
def yX8_within : MethodName := ⟨RX8, "within", "(II)I"⟩
abbrev cX8_show : ByteArray := prog_10_method_55_code
def yX8_show : MethodName := ⟨RX8, "show", "(II)I"⟩
abbrev cX8_isDead : ByteArray := prog_10_method_56_code
def yX8_isDead : MethodName := ⟨RX8, "isDead", "(I)Z"⟩
abbrev cX8_watch : ByteArray := prog_10_method_57_code
def yX8_watch : MethodName := ⟨RX8, "watch", "(I)I"⟩
abbrev cX8_see : ByteArray := prog_10_method_58_code
def yX8_see : MethodName := ⟨RX8, "see", "(III)I"⟩
abbrev cX8_seen : ByteArray := prog_10_method_59_code
def yX8_seen : MethodName := ⟨RX8, "seen", "(II)I"⟩
abbrev cX8_isSheet : ByteArray := prog_10_method_60_code
def yX8_isSheet : MethodName := ⟨RX8, "isSheet", "(II)Z"⟩
abbrev cX8_sheet : ByteArray := prog_10_method_61_code
def yX8_sheet : MethodName := ⟨RX8, "sheet", "(III)I"⟩
abbrev cX8_lay : ByteArray := prog_10_method_62_code
def yX8_lay : MethodName := ⟨RX8, "lay", "(III)I"⟩
abbrev cX8_scan : ByteArray := prog_10_method_63_code
def yX8_scan : MethodName := ⟨RX8, "scan", "(IIII)I"⟩
abbrev cX8_count : ByteArray := prog_10_method_64_code
def yX8_count : MethodName := ⟨RX8, "count", "(I)I"⟩
def RJ9 : String := "java/lang/Math"
def TJ9 : u_T := fun k => match k with
  | _ => ("", "", "", false)
def tyJ9 : Nat → FieldType := fun k => match k with
  | _ => .int
abbrev wsJ90 : List Cond := u_ws RJ9 TJ9 0
theorem nmJ9 : ∀ a, a < 0 → ∀ b, b < 0 → a ≠ b → (TJ9 a).2.1 ≠ (TJ9 b).2.1 := by decide +kernel
theorem tyJ9_ok : ∀ k, k < 0 → parseFieldDescriptor (TJ9 k).2.2.1 = some (tyJ9 k) := by decide +kernel
abbrev cJ9_max_7cf53 : ByteArray := prog_11_method_65_code
def yJ9_max_7cf53 : MethodName := ⟨RJ9, "max", "(II)I"⟩
abbrev cJ9_min_7cf53 : ByteArray := prog_11_method_69_code
def yJ9_min_7cf53 : MethodName := ⟨RJ9, "min", "(II)I"⟩
def RJ10 : String := "java/lang/System"
def TJ10 : u_T := fun k => match k with
  | _ => ("", "", "", false)
def tyJ10 : Nat → FieldType := fun k => match k with
  | _ => .int
abbrev wsJ100 : List Cond := u_ws RJ10 TJ10 0
theorem nmJ10 : ∀ a, a < 0 → ∀ b, b < 0 → a ≠ b → (TJ10 a).2.1 ≠ (TJ10 b).2.1 := by decide +kernel
theorem tyJ10_ok : ∀ k, k < 0 → parseFieldDescriptor (TJ10 k).2.2.1 = some (tyJ10 k) := by decide +kernel
def RL : String := "NameRowsLaw"
abbrev cL_law : ByteArray := code
def yL_law : MethodName := ⟨RL, "law", "([I)Z"⟩
end
section
/-! ===== the program as tables: class numbers, methods, code by pc with resolved operands, links ===== -/
def cnL : List String := [RX0, RX1, RX2, RX3, RX4, RX5, RX6, RX7, RX8, RL, RJ9, RJ10]
def cnm (k : Nat) : String := cnL.getD k ""
abbrev cls9 : List vw_C := [(RX0, TX0, 8), (RX1, TX1, 2), (RX2, TX2, 3), (RX3, TX3, 5), (RX4, TX4, 3), (RX5, TX5, 18), (RX6, TX6, 4), (RX7, TX7, 16), (RX8, TX8, 42)]
abbrev IE : Type := Instr × (Nat × (Nat × Nat))
abbrev MT : Type := (MethodName × (ByteArray × (Nat × Option FieldType))) × (Nat × (List (Option IE) × List (Nat × List Nat)))
def tb_0 : List (Option IE) := [some (.aload_n 0, (0, (0, 0))), some (.invokespecial 3, (1000, (0, 0))), none, none, some (.aload_n 0, (0, (0, 0))), some (.bipush 54, (0, (0, 0))), none, some (.newarray .int, (0, (0, 0))), none, some (.putfield 9, (0, (0, 1))), none, none, some (.aload_n 0, (0, (0, 0))), some (.bipush 54, (0, (0, 0))), none, some (.newarray .int, (0, (0, 0))), none, some (.putfield 15, (0, (1, 1))), none, none, some (.aload_n 0, (0, (0, 0))), some (.bipush 6, (0, (0, 0))), none, some (.newarray .boolean, (0, (0, 0))), none, some (.putfield 18, (0, (2, 1))), none, none, some (.aload_n 0, (0, (0, 0))), some (.iconst 1, (0, (0, 0))), some (.putfield 22, (0, (3, 0))), none, none, some (.aload_n 0, (0, (0, 0))), some (.iconst 0, (0, (0, 0))), some (.putfield 26, (0, (4, 0))), none, none, some (.aload_n 0, (0, (0, 0))), some (.iconst 0, (0, (0, 0))), some (.putfield 29, (0, (5, 2))), none, none, some (.aload_n 0, (0, (0, 0))), some (.bipush 36, (0, (0, 0))), none, some (.newarray .int, (0, (0, 0))), none, some (.putfield 33, (0, (6, 1))), none, none, some (.aload_n 0, (0, (0, 0))), some (.iconst 0, (0, (0, 0))), some (.putfield 36, (0, (7, 2))), none, none, some (.aload_n 0, (0, (0, 0))), some (.iconst 1, (0, (0, 0))), some (.iconst 0, (0, (0, 0))), some (.invokevirtual 39, (1, (2, 0))), none, none, some (.return_, (0, (0, 0)))]
def mt_0 : MT := ((yX0_init, (cX0_init, (1, none))), (0, (tb_0, [])))
def tb_1 : List (Option IE) := [some (.aload_n 0, (0, (0, 0))), some (.iload_n 1, (0, (0, 0))), some (.putfield 22, (0, (3, 0))), none, none, some (.aload_n 0, (0, (0, 0))), some (.iload_n 2, (0, (0, 0))), some (.putfield 26, (0, (4, 0))), none, none, some (.aload_n 0, (0, (0, 0))), some (.iconst 0, (0, (0, 0))), some (.putfield 29, (0, (5, 2))), none, none, some (.aload_n 0, (0, (0, 0))), some (.iconst 0, (0, (0, 0))), some (.putfield 36, (0, (7, 2))), none, none, some (.iconst 0, (0, (0, 0))), some (.istore_n 3, (0, (0, 0))), some (.iload_n 3, (0, (0, 0))), some (.aload_n 0, (0, (0, 0))), some (.getfield 9, (0, (0, 1))), none, none, some (.arraylength, (0, (0, 0))), some (.if_icmp .ge 27, (0, (0, 0))), none, none, some (.aload_n 0, (0, (0, 0))), some (.getfield 9, (0, (0, 1))), none, none, some (.iload_n 3, (0, (0, 0))), some (.iload_n 3, (0, (0, 0))), some (.bipush 9, (0, (0, 0))), none, some (.idiv, (0, (0, 0))), some (.iastore, (0, (0, 0))), some (.aload_n 0, (0, (0, 0))), some (.getfield 15, (0, (1, 1))), none, none, some (.iload_n 3, (0, (0, 0))), some (.bipush (-4), (0, (0, 0))), none, some (.iastore, (0, (0, 0))), some (.iinc 3 1, (0, (0, 0))), none, none, some (.goto (-30), (0, (0, 0))), none, none, some (.iconst 0, (0, (0, 0))), some (.istore_n 3, (0, (0, 0))), some (.iload_n 3, (0, (0, 0))), some (.bipush 6, (0, (0, 0))), none, some (.if_icmp .ge 16, (0, (0, 0))), none, none, some (.aload_n 0, (0, (0, 0))), some (.getfield 18, (0, (2, 1))), none, none, some (.iload_n 3, (0, (0, 0))), some (.iconst 0, (0, (0, 0))), some (.bastore, (0, (0, 0))), some (.iinc 3 1, (0, (0, 0))), none, none, some (.goto (-16), (0, (0, 0))), none, none, some (.return_, (0, (0, 0)))]
def mt_1 : MT := ((yX0_begin, (cX0_begin, (4, none))), (0, (tb_1, [(22, [0, 3]), (57, [0, 3])])))
def tb_2 : List (Option IE) := [some (.aload_n 0, (0, (0, 0))), some (.aload_n 1, (0, (0, 0))), some (.getfield 22, (0, (3, 0))), none, none, some (.aload_n 1, (0, (0, 0))), some (.getfield 26, (0, (4, 0))), none, none, some (.invokevirtual 39, (1, (2, 0))), none, none, some (.aload_n 1, (0, (0, 0))), some (.getfield 9, (0, (0, 1))), none, none, some (.iconst 0, (0, (0, 0))), some (.aload_n 0, (0, (0, 0))), some (.getfield 9, (0, (0, 1))), none, none, some (.iconst 0, (0, (0, 0))), some (.aload_n 0, (0, (0, 0))), some (.getfield 9, (0, (0, 1))), none, none, some (.arraylength, (0, (0, 0))), some (.invokestatic 43, (1000, (0, 0))), none, none, some (.aload_n 1, (0, (0, 0))), some (.getfield 15, (0, (1, 1))), none, none, some (.iconst 0, (0, (0, 0))), some (.aload_n 0, (0, (0, 0))), some (.getfield 15, (0, (1, 1))), none, none, some (.iconst 0, (0, (0, 0))), some (.aload_n 0, (0, (0, 0))), some (.getfield 15, (0, (1, 1))), none, none, some (.arraylength, (0, (0, 0))), some (.invokestatic 43, (1000, (0, 0))), none, none, some (.iconst 0, (0, (0, 0))), some (.istore_n 2, (0, (0, 0))), some (.iload_n 2, (0, (0, 0))), some (.aload_n 0, (0, (0, 0))), some (.getfield 22, (0, (3, 0))), none, none, some (.if_icmp .ge 29, (0, (0, 0))), none, none, some (.aload_n 0, (0, (0, 0))), some (.getfield 18, (0, (2, 1))), none, none, some (.iload_n 2, (0, (0, 0))), some (.aload_n 1, (0, (0, 0))), some (.getfield 18, (0, (2, 1))), none, none, some (.iload_n 2, (0, (0, 0))), some (.baload, (0, (0, 0))), some (.ifCond .ne 7, (0, (0, 0))), none, none, some (.iconst 1, (0, (0, 0))), some (.goto 4, (0, (0, 0))), none, none, some (.iconst 0, (0, (0, 0))), some (.bastore, (0, (0, 0))), some (.iinc 2 1, (0, (0, 0))), none, none, some (.goto (-31), (0, (0, 0))), none, none, some (.return_, (0, (0, 0)))]
def mt_2 : MT := ((yX0_turnFrom, (cX0_turnFrom, (3, none))), (0, (tb_2, [(50, [0, 1, 2]), (77, [0, 1, 2])])))
def tb_3 : List (Option IE) := [some (.iload_n 1, (0, (0, 0))), some (.ifCond .lt 15, (0, (0, 0))), none, none, some (.iload_n 1, (0, (0, 0))), some (.aload_n 0, (0, (0, 0))), some (.getfield 22, (0, (3, 0))), none, none, some (.if_icmp .ge 7, (0, (0, 0))), none, none, some (.iconst 1, (0, (0, 0))), some (.goto 4, (0, (0, 0))), none, none, some (.iconst 0, (0, (0, 0))), some (.ireturn, (0, (0, 0)))]
def mt_3 : MT := ((yX0_hasState, (cX0_hasState, (2, (some .boolean)))), (0, (tb_3, [(16, []), (17, [])])))
def tb_4 : List (Option IE) := [some (.iload_n 3, (0, (0, 0))), some (.iconst 2, (0, (0, 0))), some (.if_icmp .eq 15, (0, (0, 0))), none, none, some (.iload_n 3, (0, (0, 0))), some (.ifCond .lt 15, (0, (0, 0))), none, none, some (.iload_n 3, (0, (0, 0))), some (.aload_n 0, (0, (0, 0))), some (.getfield 26, (0, (4, 0))), none, none, some (.if_icmp .ge 7, (0, (0, 0))), none, none, some (.iconst 1, (0, (0, 0))), some (.goto 4, (0, (0, 0))), none, none, some (.iconst 0, (0, (0, 0))), some (.istore 4, (0, (0, 0))), none, some (.iload 4, (0, (0, 0))), none, some (.ifCond .eq 28, (0, (0, 0))), none, none, some (.iload_n 1, (0, (0, 0))), some (.ifCond .lt 24, (0, (0, 0))), none, none, some (.iload_n 1, (0, (0, 0))), some (.aload_n 0, (0, (0, 0))), some (.getfield 22, (0, (3, 0))), none, none, some (.if_icmp .ge 16, (0, (0, 0))), none, none, some (.iload_n 2, (0, (0, 0))), some (.ifCond .lt 12, (0, (0, 0))), none, none, some (.iload_n 2, (0, (0, 0))), some (.iconst 3, (0, (0, 0))), some (.if_icmp .ge 7, (0, (0, 0))), none, none, some (.iconst 1, (0, (0, 0))), some (.goto 4, (0, (0, 0))), none, none, some (.iconst 0, (0, (0, 0))), some (.istore 5, (0, (0, 0))), none, some (.iload 5, (0, (0, 0))), none, some (.ifCond .eq 15, (0, (0, 0))), none, none, some (.iload_n 1, (0, (0, 0))), some (.iconst 3, (0, (0, 0))), some (.imul, (0, (0, 0))), some (.iload_n 2, (0, (0, 0))), some (.iadd, (0, (0, 0))), some (.iconst 3, (0, (0, 0))), some (.imul, (0, (0, 0))), some (.iload_n 3, (0, (0, 0))), some (.iadd, (0, (0, 0))), some (.goto 5, (0, (0, 0))), none, none, some (.bipush (-4), (0, (0, 0))), none, some (.ireturn, (0, (0, 0)))]
def mt_4 : MT := ((yX0_stepAt, (cX0_stepAt, (6, (some .int)))), (0, (tb_4, [(17, [0, 1, 2, 3]), (21, [0, 1, 2, 3]), (22, [0, 1, 2, 3]), (54, [1, 2, 3]), (55, [1, 2, 3]), (76, [])])))
def tb_5 : List (Option IE) := [some (.iload_n 1, (0, (0, 0))), some (.bipush (-4), (0, (0, 0))), none, some (.if_icmp .eq 15, (0, (0, 0))), none, none, some (.iload_n 1, (0, (0, 0))), some (.ifCond .lt 15, (0, (0, 0))), none, none, some (.iload_n 1, (0, (0, 0))), some (.aload_n 0, (0, (0, 0))), some (.getfield 26, (0, (4, 0))), none, none, some (.if_icmp .ge 7, (0, (0, 0))), none, none, some (.iconst 1, (0, (0, 0))), some (.goto 4, (0, (0, 0))), none, none, some (.iconst 0, (0, (0, 0))), some (.ireturn, (0, (0, 0)))]
def mt_5 : MT := ((yX0_canKeep, (cX0_canKeep, (2, (some .boolean)))), (0, (tb_5, [(18, []), (22, []), (23, [])])))
def tb_6 : List (Option IE) := [some (.iload_n 1, (0, (0, 0))), some (.ifCond .lt 31, (0, (0, 0))), none, none, some (.iload_n 1, (0, (0, 0))), some (.aload_n 0, (0, (0, 0))), some (.getfield 9, (0, (0, 1))), none, none, some (.arraylength, (0, (0, 0))), some (.if_icmp .ge 22, (0, (0, 0))), none, none, some (.aload_n 0, (0, (0, 0))), some (.getfield 9, (0, (0, 1))), none, none, some (.iload_n 1, (0, (0, 0))), some (.iload_n 2, (0, (0, 0))), some (.iastore, (0, (0, 0))), some (.aload_n 0, (0, (0, 0))), some (.getfield 15, (0, (1, 1))), none, none, some (.iload_n 1, (0, (0, 0))), some (.iload_n 3, (0, (0, 0))), some (.iastore, (0, (0, 0))), some (.aload_n 0, (0, (0, 0))), some (.iconst 0, (0, (0, 0))), some (.putfield 36, (0, (7, 2))), none, none, some (.return_, (0, (0, 0)))]
def mt_6 : MT := ((yX0_setStep, (cX0_setStep, (4, none))), (0, (tb_6, [(32, [])])))
def tb_7 : List (Option IE) := [some (.aload_n 0, (0, (0, 0))), some (.iload_n 1, (0, (0, 0))), some (.invokevirtual 49, (3, (1, 3))), none, none, some (.ifCond .eq 16, (0, (0, 0))), none, none, some (.aload_n 0, (0, (0, 0))), some (.getfield 18, (0, (2, 1))), none, none, some (.iload_n 1, (0, (0, 0))), some (.baload, (0, (0, 0))), some (.ifCond .eq 7, (0, (0, 0))), none, none, some (.iconst 1, (0, (0, 0))), some (.goto 4, (0, (0, 0))), none, none, some (.iconst 0, (0, (0, 0))), some (.ireturn, (0, (0, 0)))]
def mt_7 : MT := ((yX0_isGood, (cX0_isGood, (2, (some .boolean)))), (0, (tb_7, [(21, []), (22, [])])))
def tb_8 : List (Option IE) := [some (.aload_n 0, (0, (0, 0))), some (.iload_n 1, (0, (0, 0))), some (.invokevirtual 49, (3, (1, 3))), none, none, some (.ifCond .eq 15, (0, (0, 0))), none, none, some (.aload_n 0, (0, (0, 0))), some (.getfield 18, (0, (2, 1))), none, none, some (.iload_n 1, (0, (0, 0))), some (.iload_n 2, (0, (0, 0))), some (.bastore, (0, (0, 0))), some (.aload_n 0, (0, (0, 0))), some (.iconst 0, (0, (0, 0))), some (.putfield 36, (0, (7, 2))), none, none, some (.return_, (0, (0, 0)))]
def mt_8 : MT := ((yX0_setGood, (cX0_setGood, (3, none))), (0, (tb_8, [(20, [])])))
def tb_9 : List (Option IE) := [some (.iconst 0, (0, (0, 0))), some (.istore_n 1, (0, (0, 0))), some (.iconst 0, (0, (0, 0))), some (.istore_n 2, (0, (0, 0))), some (.iload_n 2, (0, (0, 0))), some (.aload_n 0, (0, (0, 0))), some (.getfield 22, (0, (3, 0))), none, none, some (.if_icmp .ge 21, (0, (0, 0))), none, none, some (.aload_n 0, (0, (0, 0))), some (.getfield 18, (0, (2, 1))), none, none, some (.iload_n 2, (0, (0, 0))), some (.baload, (0, (0, 0))), some (.ifCond .eq 6, (0, (0, 0))), none, none, some (.iinc 1 1, (0, (0, 0))), none, none, some (.iinc 2 1, (0, (0, 0))), none, none, some (.goto (-23), (0, (0, 0))), none, none, some (.iload_n 1, (0, (0, 0))), some (.ireturn, (0, (0, 0)))]
def mt_9 : MT := ((yX0_goodStates, (cX0_goodStates, (3, (some .int)))), (0, (tb_9, [(4, [0, 1, 2]), (24, [0, 1, 2])])))
def tb_10 : List (Option IE) := [some (.iconst 0, (0, (0, 0))), some (.istore_n 1, (0, (0, 0))), some (.iload_n 1, (0, (0, 0))), some (.aload_n 0, (0, (0, 0))), some (.getfield 33, (0, (6, 1))), none, none, some (.arraylength, (0, (0, 0))), some (.if_icmp .ge 16, (0, (0, 0))), none, none, some (.aload_n 0, (0, (0, 0))), some (.getfield 33, (0, (6, 1))), none, none, some (.iload_n 1, (0, (0, 0))), some (.iconst 0, (0, (0, 0))), some (.iastore, (0, (0, 0))), some (.iinc 1 1, (0, (0, 0))), none, none, some (.goto (-19), (0, (0, 0))), none, none, some (.return_, (0, (0, 0)))]
def mt_10 : MT := ((yX0_forgetOrbits, (cX0_forgetOrbits, (2, none))), (0, (tb_10, [(2, [0, 1])])))
def tb_11 : List (Option IE) := [some (.aload_n 0, (0, (0, 0))), some (.iload_n 1, (0, (0, 0))), some (.invokevirtual 49, (3, (1, 3))), none, none, some (.ifCond .eq 25, (0, (0, 0))), none, none, some (.iload_n 2, (0, (0, 0))), some (.ifCond .lt 21, (0, (0, 0))), none, none, some (.iload_n 2, (0, (0, 0))), some (.bipush 6, (0, (0, 0))), none, some (.if_icmp .ge 15, (0, (0, 0))), none, none, some (.aload_n 0, (0, (0, 0))), some (.getfield 33, (0, (6, 1))), none, none, some (.iload_n 1, (0, (0, 0))), some (.bipush 6, (0, (0, 0))), none, some (.imul, (0, (0, 0))), some (.iload_n 2, (0, (0, 0))), some (.iadd, (0, (0, 0))), some (.iload_n 3, (0, (0, 0))), some (.iastore, (0, (0, 0))), some (.return_, (0, (0, 0)))]
def mt_11 : MT := ((yX0_setFate, (cX0_setFate, (4, none))), (0, (tb_11, [(30, [])])))
def tb_12 : List (Option IE) := [some (.aload_n 0, (0, (0, 0))), some (.iload_n 1, (0, (0, 0))), some (.invokevirtual 49, (3, (1, 3))), none, none, some (.ifCond .eq 27, (0, (0, 0))), none, none, some (.iload_n 2, (0, (0, 0))), some (.ifCond .lt 23, (0, (0, 0))), none, none, some (.iload_n 2, (0, (0, 0))), some (.bipush 6, (0, (0, 0))), none, some (.if_icmp .ge 17, (0, (0, 0))), none, none, some (.aload_n 0, (0, (0, 0))), some (.getfield 33, (0, (6, 1))), none, none, some (.iload_n 1, (0, (0, 0))), some (.bipush 6, (0, (0, 0))), none, some (.imul, (0, (0, 0))), some (.iload_n 2, (0, (0, 0))), some (.iadd, (0, (0, 0))), some (.iaload, (0, (0, 0))), some (.goto 4, (0, (0, 0))), none, none, some (.iconst 0, (0, (0, 0))), some (.ireturn, (0, (0, 0)))]
def mt_12 : MT := ((yX0_fateOf, (cX0_fateOf, (3, (some .int)))), (0, (tb_12, [(32, []), (33, [])])))
def tb_13 : List (Option IE) := [some (.iconst 0, (0, (0, 0))), some (.istore_n 2, (0, (0, 0))), some (.iconst 0, (0, (0, 0))), some (.istore_n 3, (0, (0, 0))), some (.iload_n 3, (0, (0, 0))), some (.aload_n 0, (0, (0, 0))), some (.getfield 33, (0, (6, 1))), none, none, some (.arraylength, (0, (0, 0))), some (.if_icmp .ge 22, (0, (0, 0))), none, none, some (.aload_n 0, (0, (0, 0))), some (.getfield 33, (0, (6, 1))), none, none, some (.iload_n 3, (0, (0, 0))), some (.iaload, (0, (0, 0))), some (.iload_n 1, (0, (0, 0))), some (.if_icmp .ne 6, (0, (0, 0))), none, none, some (.iinc 2 1, (0, (0, 0))), none, none, some (.iinc 3 1, (0, (0, 0))), none, none, some (.goto (-25), (0, (0, 0))), none, none, some (.iload_n 2, (0, (0, 0))), some (.ireturn, (0, (0, 0)))]
def mt_13 : MT := ((yX0_orbitsOf, (cX0_orbitsOf, (4, (some .int)))), (0, (tb_13, [(4, [0, 1, 2, 3]), (26, [0, 1, 2, 3])])))
def tb_14 : List (Option IE) := [some (.iconst 0, (0, (0, 0))), some (.istore_n 1, (0, (0, 0))), some (.iconst 0, (0, (0, 0))), some (.istore_n 2, (0, (0, 0))), some (.iload_n 2, (0, (0, 0))), some (.aload_n 0, (0, (0, 0))), some (.getfield 22, (0, (3, 0))), none, none, some (.if_icmp .ge 20, (0, (0, 0))), none, none, some (.aload_n 0, (0, (0, 0))), some (.iload_n 2, (0, (0, 0))), some (.invokevirtual 53, (15, (1, 3))), none, none, some (.ifCond .eq 6, (0, (0, 0))), none, none, some (.iinc 1 1, (0, (0, 0))), none, none, some (.iinc 2 1, (0, (0, 0))), none, none, some (.goto (-22), (0, (0, 0))), none, none, some (.iload_n 1, (0, (0, 0))), some (.ireturn, (0, (0, 0)))]
def mt_14 : MT := ((yX0_statesMet, (cX0_statesMet, (3, (some .int)))), (0, (tb_14, [(4, [0, 1, 2]), (23, [0, 1, 2])])))
def tb_15 : List (Option IE) := [some (.iconst 0, (0, (0, 0))), some (.istore_n 2, (0, (0, 0))), some (.iload_n 2, (0, (0, 0))), some (.bipush 6, (0, (0, 0))), none, some (.if_icmp .ge 20, (0, (0, 0))), none, none, some (.aload_n 0, (0, (0, 0))), some (.iload_n 1, (0, (0, 0))), some (.iload_n 2, (0, (0, 0))), some (.invokevirtual 56, (12, (2, 1))), none, none, some (.ifCond .eq 5, (0, (0, 0))), none, none, some (.iconst 1, (0, (0, 0))), some (.ireturn, (0, (0, 0))), some (.iinc 2 1, (0, (0, 0))), none, none, some (.goto (-20), (0, (0, 0))), none, none, some (.iconst 0, (0, (0, 0))), some (.ireturn, (0, (0, 0)))]
def mt_15 : MT := ((yX0_isMet, (cX0_isMet, (3, (some .boolean)))), (0, (tb_15, [(2, [0, 1, 2])])))
def tb_16 : List (Option IE) := [some (.aload_n 0, (0, (0, 0))), some (.invokespecial 3, (1000, (0, 0))), none, none, some (.aload_n 0, (0, (0, 0))), some (.bipush 6, (0, (0, 0))), none, some (.newarray .int, (0, (0, 0))), none, some (.putfield 9, (1, (0, 1))), none, none, some (.aload_n 0, (0, (0, 0))), some (.iconst 0, (0, (0, 0))), some (.putfield 15, (1, (1, 0))), none, none, some (.return_, (0, (0, 0)))]
def mt_16 : MT := ((yX1_init, (cX1_init, (1, none))), (1, (tb_16, [])))
def tb_17 : List (Option IE) := [some (.aload_n 1, (0, (0, 0))), some (.bipush 6, (0, (0, 0))), none, some (.aload_n 2, (0, (0, 0))), some (.getfield 19, (0, (4, 0))), none, none, some (.aload_n 3, (0, (0, 0))), some (.getfield 19, (0, (4, 0))), none, none, some (.invokestatic 24, (1001, (2, 1))), none, none, some (.invokevirtual 30, (1, (2, 0))), none, none, some (.aload_n 0, (0, (0, 0))), some (.iconst 0, (0, (0, 0))), some (.putfield 15, (1, (1, 0))), none, none, some (.aload_n 0, (0, (0, 0))), some (.iconst 0, (0, (0, 0))), some (.invokevirtual 34, (19, (1, 1))), none, none, some (.pop, (0, (0, 0))), some (.iconst 0, (0, (0, 0))), some (.istore 5, (0, (0, 0))), none, some (.iload 5, (0, (0, 0))), none, some (.aload_n 0, (0, (0, 0))), some (.getfield 15, (1, (1, 0))), none, none, some (.if_icmp .ge 69, (0, (0, 0))), none, none, some (.iload 5, (0, (0, 0))), none, some (.bipush 6, (0, (0, 0))), none, some (.if_icmp .ge 62, (0, (0, 0))), none, none, some (.aload_n 0, (0, (0, 0))), some (.aload_n 1, (0, (0, 0))), some (.iload 5, (0, (0, 0))), none, some (.aload_n 2, (0, (0, 0))), some (.aload_n 3, (0, (0, 0))), some (.invokevirtual 38, (18, (4, 3))), none, none, some (.ifCond .ne 5, (0, (0, 0))), none, none, some (.iconst 0, (0, (0, 0))), some (.ireturn, (0, (0, 0))), some (.aload_n 1, (0, (0, 0))), some (.iload 5, (0, (0, 0))), none, some (.aload_n 2, (0, (0, 0))), some (.aload_n 0, (0, (0, 0))), some (.getfield 9, (1, (0, 1))), none, none, some (.iload 5, (0, (0, 0))), none, some (.iaload, (0, (0, 0))), some (.bipush 6, (0, (0, 0))), none, some (.idiv, (0, (0, 0))), some (.invokevirtual 42, (7, (1, 3))), none, none, some (.aload_n 3, (0, (0, 0))), some (.aload_n 0, (0, (0, 0))), some (.getfield 9, (1, (0, 1))), none, none, some (.iload 5, (0, (0, 0))), none, some (.iaload, (0, (0, 0))), some (.bipush 6, (0, (0, 0))), none, some (.irem, (0, (0, 0))), some (.invokevirtual 42, (7, (1, 3))), none, none, some (.iload 4, (0, (0, 0))), none, some (.invokestatic 46, (20, (3, 3))), none, none, some (.invokevirtual 49, (8, (2, 0))), none, none, some (.iinc 5 1, (0, (0, 0))), none, none, some (.goto (-72), (0, (0, 0))), none, none, some (.aload_n 1, (0, (0, 0))), some (.aload_n 0, (0, (0, 0))), some (.getfield 15, (1, (1, 0))), none, none, some (.putfield 53, (0, (3, 0))), none, none, some (.iconst 1, (0, (0, 0))), some (.ireturn, (0, (0, 0)))]
def mt_17 : MT := ((yX1_join, (cX1_join, (6, (some .boolean)))), (1, (tb_17, [(31, [0, 1, 2, 3, 4, 5]), (106, [0, 1])])))
def tb_18 : List (Option IE) := [some (.aload_n 0, (0, (0, 0))), some (.getfield 9, (1, (0, 1))), none, none, some (.iload_n 2, (0, (0, 0))), some (.iaload, (0, (0, 0))), some (.bipush 6, (0, (0, 0))), none, some (.idiv, (0, (0, 0))), some (.istore 5, (0, (0, 0))), none, some (.aload_n 0, (0, (0, 0))), some (.getfield 9, (1, (0, 1))), none, none, some (.iload_n 2, (0, (0, 0))), some (.iaload, (0, (0, 0))), some (.bipush 6, (0, (0, 0))), none, some (.irem, (0, (0, 0))), some (.istore 6, (0, (0, 0))), none, some (.iconst 0, (0, (0, 0))), some (.istore 7, (0, (0, 0))), none, some (.iload 7, (0, (0, 0))), none, some (.iconst 3, (0, (0, 0))), some (.if_icmp .ge 167, (0, (0, 0))), none, none, some (.iconst 0, (0, (0, 0))), some (.istore 8, (0, (0, 0))), none, some (.iload 8, (0, (0, 0))), none, some (.iconst 3, (0, (0, 0))), some (.if_icmp .ge 152, (0, (0, 0))), none, none, some (.aload_n 1, (0, (0, 0))), some (.iload_n 2, (0, (0, 0))), some (.iload 7, (0, (0, 0))), none, some (.iload 8, (0, (0, 0))), none, some (.invokevirtual 56, (4, (3, 1))), none, none, some (.istore 9, (0, (0, 0))), none, some (.aload_n 3, (0, (0, 0))), some (.iload 5, (0, (0, 0))), none, some (.iload 7, (0, (0, 0))), none, some (.aload_n 3, (0, (0, 0))), some (.getfield 19, (0, (4, 0))), none, none, some (.ifCond .le 8, (0, (0, 0))), none, none, some (.iload 8, (0, (0, 0))), none, some (.goto 4, (0, (0, 0))), none, none, some (.iconst 2, (0, (0, 0))), some (.invokevirtual 56, (4, (3, 1))), none, none, some (.istore 10, (0, (0, 0))), none, some (.aload 4, (0, (0, 0))), none, some (.iload 6, (0, (0, 0))), none, some (.iload 7, (0, (0, 0))), none, some (.aload 4, (0, (0, 0))), none, some (.getfield 19, (0, (4, 0))), none, none, some (.ifCond .le 8, (0, (0, 0))), none, none, some (.iload 8, (0, (0, 0))), none, some (.goto 4, (0, (0, 0))), none, none, some (.iconst 2, (0, (0, 0))), some (.invokevirtual 56, (4, (3, 1))), none, none, some (.istore 11, (0, (0, 0))), none, some (.iload 9, (0, (0, 0))), none, some (.ifCond .lt 82, (0, (0, 0))), none, none, some (.iload 10, (0, (0, 0))), none, some (.ifCond .lt 77, (0, (0, 0))), none, none, some (.iload 11, (0, (0, 0))), none, some (.ifCond .ge 6, (0, (0, 0))), none, none, some (.goto 69, (0, (0, 0))), none, none, some (.aload_n 0, (0, (0, 0))), some (.aload_n 3, (0, (0, 0))), some (.getfield 60, (0, (0, 1))), none, none, some (.iload 10, (0, (0, 0))), none, some (.iaload, (0, (0, 0))), some (.bipush 6, (0, (0, 0))), none, some (.imul, (0, (0, 0))), some (.aload 4, (0, (0, 0))), none, some (.getfield 60, (0, (0, 1))), none, none, some (.iload 11, (0, (0, 0))), none, some (.iaload, (0, (0, 0))), some (.iadd, (0, (0, 0))), some (.invokevirtual 34, (19, (1, 1))), none, none, some (.istore 12, (0, (0, 0))), none, some (.iload 12, (0, (0, 0))), none, some (.ifCond .ge 5, (0, (0, 0))), none, none, some (.iconst 0, (0, (0, 0))), some (.ireturn, (0, (0, 0))), some (.aload_n 1, (0, (0, 0))), some (.iload 9, (0, (0, 0))), none, some (.iload 12, (0, (0, 0))), none, some (.aload 4, (0, (0, 0))), none, some (.getfield 19, (0, (4, 0))), none, none, some (.ifCond .le 14, (0, (0, 0))), none, none, some (.aload 4, (0, (0, 0))), none, some (.getfield 63, (0, (1, 1))), none, none, some (.iload 11, (0, (0, 0))), none, some (.iaload, (0, (0, 0))), some (.goto 10, (0, (0, 0))), none, none, some (.aload_n 3, (0, (0, 0))), some (.getfield 63, (0, (1, 1))), none, none, some (.iload 10, (0, (0, 0))), none, some (.iaload, (0, (0, 0))), some (.invokevirtual 66, (6, (3, 0))), none, none, some (.iinc 8 1, (0, (0, 0))), none, none, some (.goto (-152), (0, (0, 0))), none, none, some (.iinc 7 1, (0, (0, 0))), none, none, some (.goto (-167), (0, (0, 0))), none, none, some (.iconst 1, (0, (0, 0))), some (.ireturn, (0, (0, 0)))]
def mt_18 : MT := ((yX1_joinSteps, (cX1_joinSteps, (13, (some .boolean)))), (1, (tb_18, [(25, [0, 1, 2, 3, 4, 5, 6, 7]), (34, [0, 1, 2, 3, 4, 5, 6, 7, 8]), (69, [0, 1, 2, 3, 4, 5, 6, 7, 8, 9]), (94, [0, 1, 2, 3, 4, 5, 6, 7, 8, 9, 10]), (180, [0, 1, 2, 3, 4, 5, 6, 7, 8]), (183, [0, 1, 2, 3, 4, 5, 6, 7, 8])])))
def tb_19 : List (Option IE) := [some (.iconst 0, (0, (0, 0))), some (.istore_n 2, (0, (0, 0))), some (.iload_n 2, (0, (0, 0))), some (.aload_n 0, (0, (0, 0))), some (.getfield 15, (1, (1, 0))), none, none, some (.if_icmp .ge 21, (0, (0, 0))), none, none, some (.aload_n 0, (0, (0, 0))), some (.getfield 9, (1, (0, 1))), none, none, some (.iload_n 2, (0, (0, 0))), some (.iaload, (0, (0, 0))), some (.iload_n 1, (0, (0, 0))), some (.if_icmp .ne 5, (0, (0, 0))), none, none, some (.iload_n 2, (0, (0, 0))), some (.ireturn, (0, (0, 0))), some (.iinc 2 1, (0, (0, 0))), none, none, some (.goto (-23), (0, (0, 0))), none, none, some (.aload_n 0, (0, (0, 0))), some (.getfield 15, (1, (1, 0))), none, none, some (.bipush 6, (0, (0, 0))), none, some (.if_icmp .lt 6, (0, (0, 0))), none, none, some (.bipush (-4), (0, (0, 0))), none, some (.ireturn, (0, (0, 0))), some (.aload_n 0, (0, (0, 0))), some (.getfield 9, (1, (0, 1))), none, none, some (.aload_n 0, (0, (0, 0))), some (.getfield 15, (1, (1, 0))), none, none, some (.iload_n 1, (0, (0, 0))), some (.iastore, (0, (0, 0))), some (.aload_n 0, (0, (0, 0))), some (.dup, (0, (0, 0))), some (.getfield 15, (1, (1, 0))), none, none, some (.iconst 1, (0, (0, 0))), some (.iadd, (0, (0, 0))), some (.putfield 15, (1, (1, 0))), none, none, some (.aload_n 0, (0, (0, 0))), some (.getfield 15, (1, (1, 0))), none, none, some (.iconst 1, (0, (0, 0))), some (.isub, (0, (0, 0))), some (.ireturn, (0, (0, 0)))]
def mt_19 : MT := ((yX1_numberOf, (cX1_numberOf, (3, (some .int)))), (1, (tb_19, [(2, [0, 1, 2])])))
def tb_20 : List (Option IE) := [some (.iload_n 2, (0, (0, 0))), some (.ifCond .ne 17, (0, (0, 0))), none, none, some (.iload_n 0, (0, (0, 0))), some (.ifCond .eq 11, (0, (0, 0))), none, none, some (.iload_n 1, (0, (0, 0))), some (.ifCond .eq 7, (0, (0, 0))), none, none, some (.iconst 1, (0, (0, 0))), some (.goto 4, (0, (0, 0))), none, none, some (.iconst 0, (0, (0, 0))), some (.ireturn, (0, (0, 0))), some (.iload_n 2, (0, (0, 0))), some (.iconst 1, (0, (0, 0))), some (.if_icmp .ne 19, (0, (0, 0))), none, none, some (.iload_n 0, (0, (0, 0))), some (.ifCond .ne 7, (0, (0, 0))), none, none, some (.iload_n 1, (0, (0, 0))), some (.ifCond .eq 7, (0, (0, 0))), none, none, some (.iconst 1, (0, (0, 0))), some (.goto 17, (0, (0, 0))), none, none, some (.iconst 0, (0, (0, 0))), some (.goto 13, (0, (0, 0))), none, none, some (.iload_n 0, (0, (0, 0))), some (.iload_n 1, (0, (0, 0))), some (.if_icmp .eq 7, (0, (0, 0))), none, none, some (.iconst 1, (0, (0, 0))), some (.goto 4, (0, (0, 0))), none, none, some (.iconst 0, (0, (0, 0))), some (.ireturn, (0, (0, 0)))]
def mt_20 : MT := ((yX1_isGood, (cX1_isGood, (3, (some .boolean)))), (1, (tb_20, [(16, []), (17, []), (31, []), (49, [])])))
def tb_21 : List (Option IE) := [some (.aload_n 0, (0, (0, 0))), some (.invokespecial 3, (1000, (0, 0))), none, none, some (.aload_n 0, (0, (0, 0))), some (.iconst 0, (0, (0, 0))), some (.putfield 9, (2, (2, 0))), none, none, some (.iload_n 1, (0, (0, 0))), some (.iconst 0, (0, (0, 0))), some (.invokestatic 15, (1001, (2, 1))), none, none, some (.istore_n 2, (0, (0, 0))), some (.aload_n 0, (0, (0, 0))), some (.iload_n 2, (0, (0, 0))), some (.newarray .int, (0, (0, 0))), none, some (.putfield 21, (2, (0, 1))), none, none, some (.aload_n 0, (0, (0, 0))), some (.iload_n 2, (0, (0, 0))), some (.newarray .int, (0, (0, 0))), none, some (.putfield 25, (2, (1, 1))), none, none, some (.return_, (0, (0, 0)))]
def mt_21 : MT := ((yX2_init, (cX2_init, (3, none))), (2, (tb_21, [])))
def tb_22 : List (Option IE) := [some (.iload_n 1, (0, (0, 0))), some (.ifCond .lt 15, (0, (0, 0))), none, none, some (.iload_n 1, (0, (0, 0))), some (.aload_n 0, (0, (0, 0))), some (.getfield 9, (2, (2, 0))), none, none, some (.if_icmp .ge 7, (0, (0, 0))), none, none, some (.iconst 1, (0, (0, 0))), some (.goto 4, (0, (0, 0))), none, none, some (.iconst 0, (0, (0, 0))), some (.ireturn, (0, (0, 0)))]
def mt_22 : MT := ((yX2_hasPlace, (cX2_hasPlace, (2, (some .boolean)))), (2, (tb_22, [(16, []), (17, [])])))
def tb_23 : List (Option IE) := [some (.iload_n 1, (0, (0, 0))), some (.ifCond .lt 15, (0, (0, 0))), none, none, some (.iload_n 1, (0, (0, 0))), some (.aload_n 0, (0, (0, 0))), some (.getfield 9, (2, (2, 0))), none, none, some (.if_icmp .gt 7, (0, (0, 0))), none, none, some (.iconst 1, (0, (0, 0))), some (.goto 4, (0, (0, 0))), none, none, some (.iconst 0, (0, (0, 0))), some (.ireturn, (0, (0, 0)))]
def mt_23 : MT := ((yX2_hasPrefix, (cX2_hasPrefix, (2, (some .boolean)))), (2, (tb_23, [(16, []), (17, [])])))
def tb_24 : List (Option IE) := [some (.iload_n 1, (0, (0, 0))), some (.ifCond .lt 8, (0, (0, 0))), none, none, some (.iload_n 1, (0, (0, 0))), some (.iconst 3, (0, (0, 0))), some (.if_icmp .lt 5, (0, (0, 0))), none, none, some (.iconst (-1), (0, (0, 0))), some (.ireturn, (0, (0, 0))), some (.aload_n 0, (0, (0, 0))), some (.getfield 9, (2, (2, 0))), none, none, some (.aload_n 0, (0, (0, 0))), some (.getfield 21, (2, (0, 1))), none, none, some (.arraylength, (0, (0, 0))), some (.if_icmp .lt 6, (0, (0, 0))), none, none, some (.bipush (-3), (0, (0, 0))), none, some (.ireturn, (0, (0, 0))), some (.aload_n 0, (0, (0, 0))), some (.getfield 21, (2, (0, 1))), none, none, some (.aload_n 0, (0, (0, 0))), some (.getfield 9, (2, (2, 0))), none, none, some (.iload_n 1, (0, (0, 0))), some (.iastore, (0, (0, 0))), some (.aload_n 0, (0, (0, 0))), some (.getfield 25, (2, (1, 1))), none, none, some (.aload_n 0, (0, (0, 0))), some (.getfield 9, (2, (2, 0))), none, none, some (.iload_n 2, (0, (0, 0))), some (.iastore, (0, (0, 0))), some (.aload_n 0, (0, (0, 0))), some (.dup, (0, (0, 0))), some (.getfield 9, (2, (2, 0))), none, none, some (.iconst 1, (0, (0, 0))), some (.iadd, (0, (0, 0))), some (.putfield 9, (2, (2, 0))), none, none, some (.aload_n 0, (0, (0, 0))), some (.getfield 9, (2, (2, 0))), none, none, some (.ireturn, (0, (0, 0)))]
def mt_24 : MT := ((yX2_append, (cX2_append, (3, (some .int)))), (2, (tb_24, [(9, [])])))
def tb_25 : List (Option IE) := [some (.iconst 0, (0, (0, 0))), some (.istore_n 2, (0, (0, 0))), some (.iload_n 2, (0, (0, 0))), some (.iload_n 1, (0, (0, 0))), some (.if_icmp .ge 26, (0, (0, 0))), none, none, some (.aload_n 0, (0, (0, 0))), some (.getfield 25, (2, (1, 1))), none, none, some (.iload_n 2, (0, (0, 0))), some (.iaload, (0, (0, 0))), some (.aload_n 0, (0, (0, 0))), some (.getfield 25, (2, (1, 1))), none, none, some (.iload_n 1, (0, (0, 0))), some (.iaload, (0, (0, 0))), some (.if_icmp .ne 5, (0, (0, 0))), none, none, some (.iload_n 2, (0, (0, 0))), some (.ireturn, (0, (0, 0))), some (.iinc 2 1, (0, (0, 0))), none, none, some (.goto (-25), (0, (0, 0))), none, none, some (.iload_n 1, (0, (0, 0))), some (.ireturn, (0, (0, 0)))]
def mt_25 : MT := ((yX2_firstWithNameOf, (cX2_firstWithNameOf, (3, (some .int)))), (2, (tb_25, [(2, [0, 1, 2])])))
def tb_26 : List (Option IE) := [some (.aload_n 0, (0, (0, 0))), some (.aload_n 1, (0, (0, 0))), some (.getfield 9, (2, (2, 0))), none, none, some (.aload_n 0, (0, (0, 0))), some (.getfield 21, (2, (0, 1))), none, none, some (.arraylength, (0, (0, 0))), some (.invokestatic 28, (1002, (2, 1))), none, none, some (.putfield 9, (2, (2, 0))), none, none, some (.aload_n 1, (0, (0, 0))), some (.getfield 21, (2, (0, 1))), none, none, some (.iconst 0, (0, (0, 0))), some (.aload_n 0, (0, (0, 0))), some (.getfield 21, (2, (0, 1))), none, none, some (.iconst 0, (0, (0, 0))), some (.aload_n 0, (0, (0, 0))), some (.getfield 9, (2, (2, 0))), none, none, some (.invokestatic 31, (1000, (0, 0))), none, none, some (.aload_n 1, (0, (0, 0))), some (.getfield 25, (2, (1, 1))), none, none, some (.iconst 0, (0, (0, 0))), some (.aload_n 0, (0, (0, 0))), some (.getfield 25, (2, (1, 1))), none, none, some (.iconst 0, (0, (0, 0))), some (.aload_n 0, (0, (0, 0))), some (.getfield 9, (2, (2, 0))), none, none, some (.invokestatic 31, (1000, (0, 0))), none, none, some (.return_, (0, (0, 0)))]
def mt_26 : MT := ((yX2_becomeAs, (cX2_becomeAs, (2, none))), (2, (tb_26, [])))
def tb_27 : List (Option IE) := [some (.aload_n 0, (0, (0, 0))), some (.invokespecial 3, (1000, (0, 0))), none, none, some (.aload_n 0, (0, (0, 0))), some (.iconst 0, (0, (0, 0))), some (.putfield 9, (3, (0, 0))), none, none, some (.aload_n 0, (0, (0, 0))), some (.iconst 2, (0, (0, 0))), some (.newarray .int, (0, (0, 0))), none, some (.putfield 15, (3, (1, 1))), none, none, some (.aload_n 0, (0, (0, 0))), some (.iconst 2, (0, (0, 0))), some (.newarray .int, (0, (0, 0))), none, some (.putfield 19, (3, (2, 1))), none, none, some (.aload_n 0, (0, (0, 0))), some (.bipush (-4), (0, (0, 0))), none, some (.putfield 22, (3, (3, 0))), none, none, some (.aload_n 0, (0, (0, 0))), some (.iconst 0, (0, (0, 0))), some (.putfield 25, (3, (4, 0))), none, none, some (.return_, (0, (0, 0)))]
def mt_27 : MT := ((yX3_init, (cX3_init, (1, none))), (3, (tb_27, [])))
def tb_28 : List (Option IE) := [some (.aload_n 0, (0, (0, 0))), some (.iconst 0, (0, (0, 0))), some (.putfield 9, (3, (0, 0))), none, none, some (.aload_n 0, (0, (0, 0))), some (.bipush (-4), (0, (0, 0))), none, some (.putfield 22, (3, (3, 0))), none, none, some (.aload_n 0, (0, (0, 0))), some (.iconst 0, (0, (0, 0))), some (.putfield 25, (3, (4, 0))), none, none, some (.iconst 0, (0, (0, 0))), some (.istore_n 1, (0, (0, 0))), some (.iload_n 1, (0, (0, 0))), some (.iconst 2, (0, (0, 0))), some (.if_icmp .ge 24, (0, (0, 0))), none, none, some (.aload_n 0, (0, (0, 0))), some (.getfield 15, (3, (1, 1))), none, none, some (.iload_n 1, (0, (0, 0))), some (.iconst 0, (0, (0, 0))), some (.iastore, (0, (0, 0))), some (.aload_n 0, (0, (0, 0))), some (.getfield 19, (3, (2, 1))), none, none, some (.iload_n 1, (0, (0, 0))), some (.bipush (-4), (0, (0, 0))), none, some (.iastore, (0, (0, 0))), some (.iinc 1 1, (0, (0, 0))), none, none, some (.goto (-23), (0, (0, 0))), none, none, some (.return_, (0, (0, 0)))]
def mt_28 : MT := ((yX3_begin, (cX3_begin, (2, none))), (3, (tb_28, [(18, [0, 1])])))
def tb_29 : List (Option IE) := [some (.aload_n 0, (0, (0, 0))), some (.aload_n 0, (0, (0, 0))), some (.iload_n 3, (0, (0, 0))), some (.invokevirtual 28, (31, (1, 1))), none, none, some (.putfield 22, (3, (3, 0))), none, none, some (.aload_n 1, (0, (0, 0))), some (.aload_n 0, (0, (0, 0))), some (.getfield 9, (3, (0, 0))), none, none, some (.iload_n 2, (0, (0, 0))), some (.aload_n 0, (0, (0, 0))), some (.getfield 22, (3, (3, 0))), none, none, some (.invokevirtual 32, (4, (3, 1))), none, none, some (.istore 4, (0, (0, 0))), none, some (.iload 4, (0, (0, 0))), none, some (.ifCond .lt 26, (0, (0, 0))), none, none, some (.aload_n 0, (0, (0, 0))), some (.aload_n 1, (0, (0, 0))), some (.getfield 38, (0, (1, 1))), none, none, some (.iload 4, (0, (0, 0))), none, some (.iaload, (0, (0, 0))), some (.iload_n 3, (0, (0, 0))), some (.invokevirtual 41, (30, (2, 0))), none, none, some (.aload_n 0, (0, (0, 0))), some (.aload_n 1, (0, (0, 0))), some (.getfield 45, (0, (0, 1))), none, none, some (.iload 4, (0, (0, 0))), none, some (.iaload, (0, (0, 0))), some (.putfield 9, (3, (0, 0))), none, none, some (.aload_n 0, (0, (0, 0))), some (.dup, (0, (0, 0))), some (.getfield 25, (3, (4, 0))), none, none, some (.iconst 1, (0, (0, 0))), some (.iadd, (0, (0, 0))), some (.putfield 25, (3, (4, 0))), none, none, some (.return_, (0, (0, 0)))]
def mt_29 : MT := ((yX3_go, (cX3_go, (5, none))), (3, (tb_29, [(52, [0])])))
def tb_30 : List (Option IE) := [some (.iload_n 1, (0, (0, 0))), some (.ifCond .lt 25, (0, (0, 0))), none, none, some (.iload_n 1, (0, (0, 0))), some (.iconst 2, (0, (0, 0))), some (.if_icmp .ge 20, (0, (0, 0))), none, none, some (.aload_n 0, (0, (0, 0))), some (.getfield 15, (3, (1, 1))), none, none, some (.iload_n 1, (0, (0, 0))), some (.iload_n 2, (0, (0, 0))), some (.iastore, (0, (0, 0))), some (.aload_n 0, (0, (0, 0))), some (.getfield 19, (3, (2, 1))), none, none, some (.iload_n 1, (0, (0, 0))), some (.aload_n 0, (0, (0, 0))), some (.getfield 25, (3, (4, 0))), none, none, some (.iastore, (0, (0, 0))), some (.return_, (0, (0, 0)))]
def mt_30 : MT := ((yX3_keepIn, (cX3_keepIn, (3, none))), (3, (tb_30, [(26, [])])))
def tb_31 : List (Option IE) := [some (.iconst 0, (0, (0, 0))), some (.istore_n 2, (0, (0, 0))), some (.iload_n 2, (0, (0, 0))), some (.iconst 2, (0, (0, 0))), some (.if_icmp .ge 32, (0, (0, 0))), none, none, some (.aload_n 0, (0, (0, 0))), some (.getfield 19, (3, (2, 1))), none, none, some (.iload_n 2, (0, (0, 0))), some (.iaload, (0, (0, 0))), some (.bipush (-4), (0, (0, 0))), none, some (.if_icmp .eq 15, (0, (0, 0))), none, none, some (.aload_n 0, (0, (0, 0))), some (.getfield 15, (3, (1, 1))), none, none, some (.iload_n 2, (0, (0, 0))), some (.iaload, (0, (0, 0))), some (.iload_n 1, (0, (0, 0))), some (.if_icmp .ne 5, (0, (0, 0))), none, none, some (.iload_n 2, (0, (0, 0))), some (.ireturn, (0, (0, 0))), some (.iinc 2 1, (0, (0, 0))), none, none, some (.goto (-31), (0, (0, 0))), none, none, some (.iconst 2, (0, (0, 0))), some (.ireturn, (0, (0, 0)))]
def mt_31 : MT := ((yX3_caseOf, (cX3_caseOf, (3, (some .int)))), (3, (tb_31, [(2, [0, 1, 2]), (30, [0, 1, 2])])))
def tb_32 : List (Option IE) := [some (.aload_n 1, (0, (0, 0))), some (.aload_n 0, (0, (0, 0))), some (.getfield 9, (3, (0, 0))), none, none, some (.aload_n 0, (0, (0, 0))), some (.invokevirtual 48, (33, (0, 1))), none, none, some (.invokevirtual 52, (12, (2, 1))), none, none, some (.iconst 2, (0, (0, 0))), some (.if_icmp .ne 7, (0, (0, 0))), none, none, some (.iconst 1, (0, (0, 0))), some (.goto 4, (0, (0, 0))), none, none, some (.iconst 0, (0, (0, 0))), some (.ireturn, (0, (0, 0)))]
def mt_32 : MT := ((yX3_isDoomed, (cX3_isDoomed, (2, (some .boolean)))), (3, (tb_32, [(21, [])])))
def tb_33 : List (Option IE) := [some (.aload_n 0, (0, (0, 0))), some (.getfield 19, (3, (2, 1))), none, none, some (.iconst 0, (0, (0, 0))), some (.iaload, (0, (0, 0))), some (.bipush (-4), (0, (0, 0))), none, some (.if_icmp .ne 7, (0, (0, 0))), none, none, some (.iconst 0, (0, (0, 0))), some (.goto 4, (0, (0, 0))), none, none, some (.iconst 1, (0, (0, 0))), some (.istore_n 1, (0, (0, 0))), some (.aload_n 0, (0, (0, 0))), some (.getfield 19, (3, (2, 1))), none, none, some (.iconst 1, (0, (0, 0))), some (.iaload, (0, (0, 0))), some (.bipush (-4), (0, (0, 0))), none, some (.if_icmp .ne 9, (0, (0, 0))), none, none, some (.iload_n 1, (0, (0, 0))), some (.iconst 0, (0, (0, 0))), some (.invokestatic 56, (40, (2, 1))), none, none, some (.ireturn, (0, (0, 0))), some (.iload_n 1, (0, (0, 0))), some (.iconst 1, (0, (0, 0))), some (.if_icmp .ne 22, (0, (0, 0))), none, none, some (.aload_n 0, (0, (0, 0))), some (.getfield 15, (3, (1, 1))), none, none, some (.iconst 0, (0, (0, 0))), some (.iaload, (0, (0, 0))), some (.aload_n 0, (0, (0, 0))), some (.getfield 15, (3, (1, 1))), none, none, some (.iconst 1, (0, (0, 0))), some (.iaload, (0, (0, 0))), some (.if_icmp .ne 7, (0, (0, 0))), none, none, some (.iconst 1, (0, (0, 0))), some (.goto 4, (0, (0, 0))), none, none, some (.iconst 0, (0, (0, 0))), some (.istore_n 2, (0, (0, 0))), some (.iload_n 1, (0, (0, 0))), some (.iload_n 2, (0, (0, 0))), some (.ifCond .eq 7, (0, (0, 0))), none, none, some (.iconst 1, (0, (0, 0))), some (.goto 6, (0, (0, 0))), none, none, some (.iload_n 1, (0, (0, 0))), some (.iconst 1, (0, (0, 0))), some (.iadd, (0, (0, 0))), some (.invokestatic 56, (40, (2, 1))), none, none, some (.ireturn, (0, (0, 0)))]
def mt_33 : MT := ((yX3_pattern, (cX3_pattern, (3, (some .int)))), (3, (tb_33, [(16, [0]), (58, [1]), (59, [1]), (72, [])])))
def tb_34 : List (Option IE) := [some (.aload_n 0, (0, (0, 0))), some (.invokespecial 3, (1000, (0, 0))), none, none, some (.aload_n 0, (0, (0, 0))), some (.bipush 60, (0, (0, 0))), none, some (.newarray .int, (0, (0, 0))), none, some (.putfield 9, (4, (0, 1))), none, none, some (.aload_n 0, (0, (0, 0))), some (.bipush (-4), (0, (0, 0))), none, some (.putfield 15, (4, (1, 0))), none, none, some (.aload_n 0, (0, (0, 0))), some (.iconst 0, (0, (0, 0))), some (.putfield 19, (4, (2, 0))), none, none, some (.return_, (0, (0, 0)))]
def mt_34 : MT := ((yX4_init, (cX4_init, (1, none))), (4, (tb_34, [])))
def tb_35 : List (Option IE) := [some (.aload_n 0, (0, (0, 0))), some (.iload_n 1, (0, (0, 0))), some (.putfield 15, (4, (1, 0))), none, none, some (.aload_n 0, (0, (0, 0))), some (.iload_n 2, (0, (0, 0))), some (.putfield 19, (4, (2, 0))), none, none, some (.iconst 0, (0, (0, 0))), some (.istore_n 3, (0, (0, 0))), some (.iload_n 3, (0, (0, 0))), some (.aload_n 0, (0, (0, 0))), some (.getfield 9, (4, (0, 1))), none, none, some (.arraylength, (0, (0, 0))), some (.if_icmp .ge 16, (0, (0, 0))), none, none, some (.aload_n 0, (0, (0, 0))), some (.getfield 9, (4, (0, 1))), none, none, some (.iload_n 3, (0, (0, 0))), some (.iconst 0, (0, (0, 0))), some (.iastore, (0, (0, 0))), some (.iinc 3 1, (0, (0, 0))), none, none, some (.goto (-19), (0, (0, 0))), none, none, some (.return_, (0, (0, 0)))]
def mt_35 : MT := ((yX4_begin, (cX4_begin, (4, none))), (4, (tb_35, [(12, [0, 3])])))
def tb_36 : List (Option IE) := [some (.aload_n 0, (0, (0, 0))), some (.getfield 15, (4, (1, 0))), none, none, some (.bipush (-4), (0, (0, 0))), none, some (.if_icmp .ne 7, (0, (0, 0))), none, none, some (.iconst 1, (0, (0, 0))), some (.goto 4, (0, (0, 0))), none, none, some (.iconst 0, (0, (0, 0))), some (.ireturn, (0, (0, 0)))]
def mt_36 : MT := ((yX4_isNothing, (cX4_isNothing, (1, (some .boolean)))), (4, (tb_36, [(14, [])])))
def tb_37 : List (Option IE) := [some (.iload_n 1, (0, (0, 0))), some (.ifCond .lt 15, (0, (0, 0))), none, none, some (.iload_n 1, (0, (0, 0))), some (.aload_n 0, (0, (0, 0))), some (.getfield 19, (4, (2, 0))), none, none, some (.if_icmp .ge 7, (0, (0, 0))), none, none, some (.iconst 1, (0, (0, 0))), some (.goto 4, (0, (0, 0))), none, none, some (.iconst 0, (0, (0, 0))), some (.ireturn, (0, (0, 0)))]
def mt_37 : MT := ((yX4_hasCell, (cX4_hasCell, (2, (some .boolean)))), (4, (tb_37, [(16, []), (17, [])])))
def tb_38 : List (Option IE) := [some (.aload_n 0, (0, (0, 0))), some (.iload_n 1, (0, (0, 0))), some (.invokevirtual 22, (37, (1, 3))), none, none, some (.ifCond .eq 35, (0, (0, 0))), none, none, some (.aload_n 0, (0, (0, 0))), some (.getfield 9, (4, (0, 1))), none, none, some (.iload_n 1, (0, (0, 0))), some (.aload_n 0, (0, (0, 0))), some (.getfield 15, (4, (1, 0))), none, none, some (.ifCond .ne 8, (0, (0, 0))), none, none, some (.iload_n 2, (0, (0, 0))), some (.i2b, (0, (0, 0))), some (.goto 17, (0, (0, 0))), none, none, some (.aload_n 0, (0, (0, 0))), some (.getfield 15, (4, (1, 0))), none, none, some (.iconst 1, (0, (0, 0))), some (.if_icmp .ne 8, (0, (0, 0))), none, none, some (.iload_n 2, (0, (0, 0))), some (.i2s, (0, (0, 0))), some (.goto 4, (0, (0, 0))), none, none, some (.iload_n 2, (0, (0, 0))), some (.iastore, (0, (0, 0))), some (.return_, (0, (0, 0)))]
def mt_38 : MT := ((yX4_setCell, (cX4_setCell, (3, none))), (4, (tb_38, [(39, []), (40, [])])))
def tb_39 : List (Option IE) := [some (.aload_n 0, (0, (0, 0))), some (.invokespecial 5, (1000, (0, 0))), none, none, some (.aload_n 0, (0, (0, 0))), some (.sipush 4320, (0, (0, 0))), none, none, some (.newarray .int, (0, (0, 0))), none, some (.putfield 11, (5, (0, 1))), none, none, some (.aload_n 0, (0, (0, 0))), some (.sipush 1872, (0, (0, 0))), none, none, some (.newarray .int, (0, (0, 0))), none, some (.putfield 15, (5, (1, 1))), none, none, some (.aload_n 0, (0, (0, 0))), some (.sipush 1872, (0, (0, 0))), none, none, some (.newarray .int, (0, (0, 0))), none, some (.putfield 18, (5, (2, 1))), none, none, some (.aload_n 0, (0, (0, 0))), some (.sipush 1872, (0, (0, 0))), none, none, some (.newarray .int, (0, (0, 0))), none, some (.putfield 21, (5, (3, 1))), none, none, some (.aload_n 0, (0, (0, 0))), some (.iconst 0, (0, (0, 0))), some (.putfield 24, (5, (4, 0))), none, none, some (.aload_n 0, (0, (0, 0))), some (.iconst 0, (0, (0, 0))), some (.putfield 28, (5, (5, 0))), none, none, some (.aload_n 0, (0, (0, 0))), some (.iconst 0, (0, (0, 0))), some (.putfield 31, (5, (6, 0))), none, none, some (.aload_n 0, (0, (0, 0))), some (.iconst 0, (0, (0, 0))), some (.putfield 34, (5, (7, 0))), none, none, some (.aload_n 0, (0, (0, 0))), some (.iconst 4, (0, (0, 0))), some (.newarray .int, (0, (0, 0))), none, some (.putfield 37, (5, (8, 1))), none, none, some (.aload_n 0, (0, (0, 0))), some (.iconst 5, (0, (0, 0))), some (.newarray .int, (0, (0, 0))), none, some (.putfield 40, (5, (9, 1))), none, none, some (.aload_n 0, (0, (0, 0))), some (.iconst 5, (0, (0, 0))), some (.newarray .int, (0, (0, 0))), none, some (.putfield 43, (5, (10, 1))), none, none, some (.aload_n 0, (0, (0, 0))), some (.iconst 5, (0, (0, 0))), some (.newarray .int, (0, (0, 0))), none, some (.putfield 46, (5, (11, 1))), none, none, some (.aload_n 0, (0, (0, 0))), some (.iconst 4, (0, (0, 0))), some (.newarray .int, (0, (0, 0))), none, some (.putfield 49, (5, (12, 1))), none, none, some (.aload_n 0, (0, (0, 0))), some (.iconst 4, (0, (0, 0))), some (.newarray .int, (0, (0, 0))), none, some (.putfield 52, (5, (13, 1))), none, none, some (.aload_n 0, (0, (0, 0))), some (.bipush 30, (0, (0, 0))), none, some (.newarray .boolean, (0, (0, 0))), none, some (.putfield 55, (5, (14, 1))), none, none, some (.aload_n 0, (0, (0, 0))), some (.sipush 450, (0, (0, 0))), none, none, some (.newarray .int, (0, (0, 0))), none, some (.putfield 59, (5, (15, 1))), none, none, some (.aload_n 0, (0, (0, 0))), some (.new 62, (3, (5, 0))), none, none, some (.dup, (0, (0, 0))), some (.invokespecial 64, (27, (0, 0))), none, none, some (.putfield 65, (5, (16, 1))), none, none, some (.aload_n 0, (0, (0, 0))), some (.new 62, (3, (5, 0))), none, none, some (.dup, (0, (0, 0))), some (.invokespecial 64, (27, (0, 0))), none, none, some (.putfield 69, (5, (17, 1))), none, none, some (.return_, (0, (0, 0)))]
def mt_39 : MT := ((yX5_init, (cX5_init, (1, none))), (5, (tb_39, [])))
def tb_40 : List (Option IE) := [some (.iload_n 0, (0, (0, 0))), some (.iconst 3, (0, (0, 0))), some (.imul, (0, (0, 0))), some (.iload_n 1, (0, (0, 0))), some (.iadd, (0, (0, 0))), some (.ireturn, (0, (0, 0)))]
def mt_40 : MT := ((yX5_patternOf, (cX5_patternOf, (2, (some .int)))), (5, (tb_40, [])))
def tb_41 : List (Option IE) := [some (.aload_n 0, (0, (0, 0))), some (.invokevirtual 72, (42, (0, 0))), none, none, some (.aload_n 0, (0, (0, 0))), some (.iconst 0, (0, (0, 0))), some (.bipush (-4), (0, (0, 0))), none, some (.bipush (-4), (0, (0, 0))), none, some (.invokevirtual 75, (43, (3, 0))), none, none, some (.iconst 0, (0, (0, 0))), some (.istore 4, (0, (0, 0))), none, some (.iload 4, (0, (0, 0))), none, some (.aload_n 0, (0, (0, 0))), some (.getfield 24, (5, (4, 0))), none, none, some (.if_icmp .ge 81, (0, (0, 0))), none, none, some (.iload 4, (0, (0, 0))), none, some (.sipush 1872, (0, (0, 0))), none, none, some (.if_icmp .ge 73, (0, (0, 0))), none, none, some (.aload_n 0, (0, (0, 0))), some (.iload 4, (0, (0, 0))), none, some (.invokevirtual 79, (45, (1, 0))), none, none, some (.aload_n 1, (0, (0, 0))), some (.aload_n 0, (0, (0, 0))), some (.getfield 28, (5, (5, 0))), none, none, some (.invokevirtual 83, (7, (1, 3))), none, none, some (.aload_n 2, (0, (0, 0))), some (.aload_n 0, (0, (0, 0))), some (.getfield 31, (5, (6, 0))), none, none, some (.invokevirtual 83, (7, (1, 3))), none, none, some (.iload_n 3, (0, (0, 0))), some (.invokestatic 89, (44, (3, 3))), none, none, some (.ifCond .eq 6, (0, (0, 0))), none, none, some (.iload 4, (0, (0, 0))), none, some (.ireturn, (0, (0, 0))), some (.iconst 0, (0, (0, 0))), some (.istore 5, (0, (0, 0))), none, some (.iload 5, (0, (0, 0))), none, some (.bipush 15, (0, (0, 0))), none, some (.if_icmp .ge 25, (0, (0, 0))), none, none, some (.aload_n 0, (0, (0, 0))), some (.aload_n 0, (0, (0, 0))), some (.aload_n 1, (0, (0, 0))), some (.aload_n 2, (0, (0, 0))), some (.iload 5, (0, (0, 0))), none, some (.invokevirtual 93, (46, (3, 1))), none, none, some (.iload 4, (0, (0, 0))), none, some (.iload 5, (0, (0, 0))), none, some (.invokevirtual 75, (43, (3, 0))), none, none, some (.iinc 5 1, (0, (0, 0))), none, none, some (.goto (-26), (0, (0, 0))), none, none, some (.iinc 4 1, (0, (0, 0))), none, none, some (.goto (-84), (0, (0, 0))), none, none, some (.bipush (-4), (0, (0, 0))), none, some (.ireturn, (0, (0, 0)))]
def mt_41 : MT := ((yX5_explore, (cX5_explore, (6, (some .int)))), (5, (tb_41, [(16, [0, 1, 2, 3, 4]), (68, [0, 1, 2, 3, 4, 5]), (103, [])])))
def tb_42 : List (Option IE) := [some (.iconst 0, (0, (0, 0))), some (.istore_n 1, (0, (0, 0))), some (.iload_n 1, (0, (0, 0))), some (.aload_n 0, (0, (0, 0))), some (.getfield 24, (5, (4, 0))), none, none, some (.if_icmp .ge 21, (0, (0, 0))), none, none, some (.aload_n 0, (0, (0, 0))), some (.getfield 11, (5, (0, 1))), none, none, some (.aload_n 0, (0, (0, 0))), some (.getfield 15, (5, (1, 1))), none, none, some (.iload_n 1, (0, (0, 0))), some (.iaload, (0, (0, 0))), some (.iconst 0, (0, (0, 0))), some (.iastore, (0, (0, 0))), some (.iinc 1 1, (0, (0, 0))), none, none, some (.goto (-23), (0, (0, 0))), none, none, some (.aload_n 0, (0, (0, 0))), some (.iconst 0, (0, (0, 0))), some (.putfield 24, (5, (4, 0))), none, none, some (.return_, (0, (0, 0)))]
def mt_42 : MT := ((yX5_forget, (cX5_forget, (2, none))), (5, (tb_42, [(2, [0, 1])])))
def tb_43 : List (Option IE) := [some (.iload_n 1, (0, (0, 0))), some (.ifCond .lt 29, (0, (0, 0))), none, none, some (.iload_n 1, (0, (0, 0))), some (.sipush 4320, (0, (0, 0))), none, none, some (.if_icmp .ge 22, (0, (0, 0))), none, none, some (.aload_n 0, (0, (0, 0))), some (.getfield 24, (5, (4, 0))), none, none, some (.sipush 1872, (0, (0, 0))), none, none, some (.if_icmp .ge 12, (0, (0, 0))), none, none, some (.aload_n 0, (0, (0, 0))), some (.getfield 11, (5, (0, 1))), none, none, some (.iload_n 1, (0, (0, 0))), some (.iaload, (0, (0, 0))), some (.ifCond .eq 4, (0, (0, 0))), none, none, some (.return_, (0, (0, 0))), some (.aload_n 0, (0, (0, 0))), some (.getfield 15, (5, (1, 1))), none, none, some (.aload_n 0, (0, (0, 0))), some (.getfield 24, (5, (4, 0))), none, none, some (.iload_n 1, (0, (0, 0))), some (.iastore, (0, (0, 0))), some (.aload_n 0, (0, (0, 0))), some (.getfield 18, (5, (2, 1))), none, none, some (.aload_n 0, (0, (0, 0))), some (.getfield 24, (5, (4, 0))), none, none, some (.iload_n 2, (0, (0, 0))), some (.iastore, (0, (0, 0))), some (.aload_n 0, (0, (0, 0))), some (.getfield 21, (5, (3, 1))), none, none, some (.aload_n 0, (0, (0, 0))), some (.getfield 24, (5, (4, 0))), none, none, some (.iload_n 3, (0, (0, 0))), some (.iastore, (0, (0, 0))), some (.aload_n 0, (0, (0, 0))), some (.dup, (0, (0, 0))), some (.getfield 24, (5, (4, 0))), none, none, some (.iconst 1, (0, (0, 0))), some (.iadd, (0, (0, 0))), some (.putfield 24, (5, (4, 0))), none, none, some (.aload_n 0, (0, (0, 0))), some (.getfield 11, (5, (0, 1))), none, none, some (.iload_n 1, (0, (0, 0))), some (.aload_n 0, (0, (0, 0))), some (.getfield 24, (5, (4, 0))), none, none, some (.iastore, (0, (0, 0))), some (.return_, (0, (0, 0)))]
def mt_43 : MT := ((yX5_meet, (cX5_meet, (4, none))), (5, (tb_43, [(30, [])])))
def tb_44 : List (Option IE) := [some (.iload_n 2, (0, (0, 0))), some (.iconst 1, (0, (0, 0))), some (.if_icmp .ne 14, (0, (0, 0))), none, none, some (.iload_n 0, (0, (0, 0))), some (.iload_n 1, (0, (0, 0))), some (.if_icmp .eq 7, (0, (0, 0))), none, none, some (.iconst 1, (0, (0, 0))), some (.goto 4, (0, (0, 0))), none, none, some (.iconst 0, (0, (0, 0))), some (.ireturn, (0, (0, 0))), some (.iload_n 2, (0, (0, 0))), some (.iconst 2, (0, (0, 0))), some (.if_icmp .ne 15, (0, (0, 0))), none, none, some (.iload_n 0, (0, (0, 0))), some (.ifCond .eq 11, (0, (0, 0))), none, none, some (.iload_n 1, (0, (0, 0))), some (.ifCond .ne 7, (0, (0, 0))), none, none, some (.iconst 1, (0, (0, 0))), some (.goto 4, (0, (0, 0))), none, none, some (.iconst 0, (0, (0, 0))), some (.ireturn, (0, (0, 0)))]
def mt_44 : MT := ((yX5_isWanted, (cX5_isWanted, (3, (some .boolean)))), (5, (tb_44, [(15, []), (33, []), (34, [])])))
def tb_45 : List (Option IE) := [some (.aload_n 0, (0, (0, 0))), some (.getfield 15, (5, (1, 1))), none, none, some (.iload_n 1, (0, (0, 0))), some (.iaload, (0, (0, 0))), some (.istore_n 2, (0, (0, 0))), some (.aload_n 0, (0, (0, 0))), some (.iload_n 2, (0, (0, 0))), some (.bipush 120, (0, (0, 0))), none, some (.irem, (0, (0, 0))), some (.putfield 34, (5, (7, 0))), none, none, some (.iconst 3, (0, (0, 0))), some (.istore_n 3, (0, (0, 0))), some (.iload_n 3, (0, (0, 0))), some (.ifCond .lt 26, (0, (0, 0))), none, none, some (.aload_n 0, (0, (0, 0))), some (.getfield 37, (5, (8, 1))), none, none, some (.iload_n 3, (0, (0, 0))), some (.iload_n 2, (0, (0, 0))), some (.iload_n 3, (0, (0, 0))), some (.iconst 2, (0, (0, 0))), some (.iadd, (0, (0, 0))), some (.irem, (0, (0, 0))), some (.iastore, (0, (0, 0))), some (.iload_n 2, (0, (0, 0))), some (.iload_n 3, (0, (0, 0))), some (.iconst 2, (0, (0, 0))), some (.iadd, (0, (0, 0))), some (.idiv, (0, (0, 0))), some (.istore_n 2, (0, (0, 0))), some (.iinc 3 (-1), (0, (0, 0))), none, none, some (.goto (-24), (0, (0, 0))), none, none, some (.aload_n 0, (0, (0, 0))), some (.iload_n 2, (0, (0, 0))), some (.bipush 6, (0, (0, 0))), none, some (.idiv, (0, (0, 0))), some (.putfield 28, (5, (5, 0))), none, none, some (.aload_n 0, (0, (0, 0))), some (.iload_n 2, (0, (0, 0))), some (.bipush 6, (0, (0, 0))), none, some (.irem, (0, (0, 0))), some (.putfield 31, (5, (6, 0))), none, none, some (.iconst 0, (0, (0, 0))), some (.istore_n 3, (0, (0, 0))), some (.iload_n 3, (0, (0, 0))), some (.iconst 5, (0, (0, 0))), some (.if_icmp .ge 54, (0, (0, 0))), none, none, some (.aload_n 0, (0, (0, 0))), some (.getfield 40, (5, (9, 1))), none, none, some (.iload_n 3, (0, (0, 0))), some (.aload_n 0, (0, (0, 0))), some (.iload_n 3, (0, (0, 0))), some (.invokevirtual 97, (47, (1, 1))), none, none, some (.iastore, (0, (0, 0))), some (.aload_n 0, (0, (0, 0))), some (.getfield 43, (5, (10, 1))), none, none, some (.iload_n 3, (0, (0, 0))), some (.aload_n 0, (0, (0, 0))), some (.aload_n 0, (0, (0, 0))), some (.getfield 40, (5, (9, 1))), none, none, some (.iload_n 3, (0, (0, 0))), some (.iaload, (0, (0, 0))), some (.iconst 0, (0, (0, 0))), some (.invokevirtual 101, (48, (2, 1))), none, none, some (.iastore, (0, (0, 0))), some (.aload_n 0, (0, (0, 0))), some (.getfield 46, (5, (11, 1))), none, none, some (.iload_n 3, (0, (0, 0))), some (.aload_n 0, (0, (0, 0))), some (.aload_n 0, (0, (0, 0))), some (.getfield 40, (5, (9, 1))), none, none, some (.iload_n 3, (0, (0, 0))), some (.iaload, (0, (0, 0))), some (.iconst 2, (0, (0, 0))), some (.invokevirtual 101, (48, (2, 1))), none, none, some (.iastore, (0, (0, 0))), some (.iinc 3 1, (0, (0, 0))), none, none, some (.goto (-53), (0, (0, 0))), none, none, some (.return_, (0, (0, 0)))]
def mt_45 : MT := ((yX5_lookAt, (cX5_lookAt, (4, none))), (5, (tb_45, [(17, [0, 2, 3]), (62, [0, 3])])))
def tb_46 : List (Option IE) := [some (.iload_n 3, (0, (0, 0))), some (.iconst 5, (0, (0, 0))), some (.irem, (0, (0, 0))), some (.istore 4, (0, (0, 0))), none, some (.iload_n 3, (0, (0, 0))), some (.iconst 5, (0, (0, 0))), some (.idiv, (0, (0, 0))), some (.istore 5, (0, (0, 0))), none, some (.iload 4, (0, (0, 0))), none, some (.ifCond .lt 13, (0, (0, 0))), none, none, some (.aload_n 0, (0, (0, 0))), some (.getfield 40, (5, (9, 1))), none, none, some (.iload 4, (0, (0, 0))), none, some (.iaload, (0, (0, 0))), some (.ifCond .ne 6, (0, (0, 0))), none, none, some (.bipush (-4), (0, (0, 0))), none, some (.ireturn, (0, (0, 0))), some (.aload_n 1, (0, (0, 0))), some (.aload_n 0, (0, (0, 0))), some (.getfield 28, (5, (5, 0))), none, none, some (.iload 5, (0, (0, 0))), none, some (.aload_n 0, (0, (0, 0))), some (.getfield 43, (5, (10, 1))), none, none, some (.iload 4, (0, (0, 0))), none, some (.iaload, (0, (0, 0))), some (.invokevirtual 105, (4, (3, 1))), none, none, some (.istore 6, (0, (0, 0))), none, some (.aload_n 2, (0, (0, 0))), some (.aload_n 0, (0, (0, 0))), some (.getfield 31, (5, (6, 0))), none, none, some (.iload 5, (0, (0, 0))), none, some (.aload_n 0, (0, (0, 0))), some (.getfield 46, (5, (11, 1))), none, none, some (.iload 4, (0, (0, 0))), none, some (.iaload, (0, (0, 0))), some (.invokevirtual 105, (4, (3, 1))), none, none, some (.istore 7, (0, (0, 0))), none, some (.iload 6, (0, (0, 0))), none, some (.ifCond .lt 8, (0, (0, 0))), none, none, some (.iload 7, (0, (0, 0))), none, some (.ifCond .ge 6, (0, (0, 0))), none, none, some (.bipush (-4), (0, (0, 0))), none, some (.ireturn, (0, (0, 0))), some (.aload_n 1, (0, (0, 0))), some (.getfield 109, (0, (0, 1))), none, none, some (.iload 6, (0, (0, 0))), none, some (.iaload, (0, (0, 0))), some (.bipush 6, (0, (0, 0))), none, some (.imul, (0, (0, 0))), some (.aload_n 2, (0, (0, 0))), some (.getfield 109, (0, (0, 1))), none, none, some (.iload 7, (0, (0, 0))), none, some (.iaload, (0, (0, 0))), some (.iadd, (0, (0, 0))), some (.istore 8, (0, (0, 0))), none, some (.iload 8, (0, (0, 0))), none, some (.bipush 120, (0, (0, 0))), none, some (.imul, (0, (0, 0))), some (.aload_n 0, (0, (0, 0))), some (.aload_n 0, (0, (0, 0))), some (.getfield 40, (5, (9, 1))), none, none, some (.iload 4, (0, (0, 0))), none, some (.iaload, (0, (0, 0))), some (.aload_n 1, (0, (0, 0))), some (.getfield 110, (0, (1, 1))), none, none, some (.iload 6, (0, (0, 0))), none, some (.iaload, (0, (0, 0))), some (.aload_n 2, (0, (0, 0))), some (.getfield 110, (0, (1, 1))), none, none, some (.iload 7, (0, (0, 0))), none, some (.iaload, (0, (0, 0))), some (.invokevirtual 113, (49, (3, 1))), none, none, some (.iadd, (0, (0, 0))), some (.ireturn, (0, (0, 0)))]
def mt_46 : MT := ((yX5_codeBehind, (cX5_codeBehind, (9, (some .int)))), (5, (tb_46, [(25, []), (76, [])])))
def tb_47 : List (Option IE) := [some (.iload_n 1, (0, (0, 0))), some (.ifCond .lt 8, (0, (0, 0))), none, none, some (.iload_n 1, (0, (0, 0))), some (.iconst 4, (0, (0, 0))), some (.if_icmp .lt 5, (0, (0, 0))), none, none, some (.iconst 5, (0, (0, 0))), some (.ireturn, (0, (0, 0))), some (.iconst 0, (0, (0, 0))), some (.istore_n 2, (0, (0, 0))), some (.iload_n 2, (0, (0, 0))), some (.iload_n 1, (0, (0, 0))), some (.if_icmp .ge 26, (0, (0, 0))), none, none, some (.aload_n 0, (0, (0, 0))), some (.getfield 37, (5, (8, 1))), none, none, some (.iload_n 2, (0, (0, 0))), some (.iaload, (0, (0, 0))), some (.aload_n 0, (0, (0, 0))), some (.getfield 37, (5, (8, 1))), none, none, some (.iload_n 1, (0, (0, 0))), some (.iaload, (0, (0, 0))), some (.if_icmp .ne 5, (0, (0, 0))), none, none, some (.iconst 0, (0, (0, 0))), some (.ireturn, (0, (0, 0))), some (.iinc 2 1, (0, (0, 0))), none, none, some (.goto (-25), (0, (0, 0))), none, none, some (.aload_n 0, (0, (0, 0))), some (.getfield 37, (5, (8, 1))), none, none, some (.iload_n 1, (0, (0, 0))), some (.iaload, (0, (0, 0))), some (.ireturn, (0, (0, 0)))]
def mt_47 : MT := ((yX5_labelOf, (cX5_labelOf, (3, (some .int)))), (5, (tb_47, [(9, []), (13, [0, 1, 2])])))
def tb_48 : List (Option IE) := [some (.iconst 0, (0, (0, 0))), some (.istore_n 3, (0, (0, 0))), some (.iload_n 3, (0, (0, 0))), some (.iconst 2, (0, (0, 0))), some (.if_icmp .ge 23, (0, (0, 0))), none, none, some (.aload_n 0, (0, (0, 0))), some (.getfield 37, (5, (8, 1))), none, none, some (.iload_n 2, (0, (0, 0))), some (.iload_n 3, (0, (0, 0))), some (.iadd, (0, (0, 0))), some (.iaload, (0, (0, 0))), some (.iload_n 1, (0, (0, 0))), some (.if_icmp .ne 5, (0, (0, 0))), none, none, some (.iload_n 3, (0, (0, 0))), some (.ireturn, (0, (0, 0))), some (.iinc 3 1, (0, (0, 0))), none, none, some (.goto (-22), (0, (0, 0))), none, none, some (.iconst 2, (0, (0, 0))), some (.ireturn, (0, (0, 0)))]
def mt_48 : MT := ((yX5_caseOf, (cX5_caseOf, (4, (some .int)))), (5, (tb_48, [(2, [0, 1, 2, 3])])))
def tb_49 : List (Option IE) := [some (.iload_n 2, (0, (0, 0))), some (.bipush (-4), (0, (0, 0))), none, some (.if_icmp .ne 14, (0, (0, 0))), none, none, some (.iload_n 3, (0, (0, 0))), some (.bipush (-4), (0, (0, 0))), none, some (.if_icmp .ne 8, (0, (0, 0))), none, none, some (.aload_n 0, (0, (0, 0))), some (.getfield 34, (5, (7, 0))), none, none, some (.ireturn, (0, (0, 0))), some (.aload_n 0, (0, (0, 0))), some (.getfield 37, (5, (8, 1))), none, none, some (.iconst 0, (0, (0, 0))), some (.aload_n 0, (0, (0, 0))), some (.getfield 49, (5, (12, 1))), none, none, some (.iconst 0, (0, (0, 0))), some (.iconst 4, (0, (0, 0))), some (.invokestatic 116, (1000, (0, 0))), none, none, some (.aload_n 0, (0, (0, 0))), some (.iload_n 1, (0, (0, 0))), some (.iconst 0, (0, (0, 0))), some (.iload_n 2, (0, (0, 0))), some (.invokevirtual 122, (50, (3, 0))), none, none, some (.aload_n 0, (0, (0, 0))), some (.iload_n 1, (0, (0, 0))), some (.iconst 2, (0, (0, 0))), some (.iload_n 3, (0, (0, 0))), some (.invokevirtual 122, (50, (3, 0))), none, none, some (.iconst 0, (0, (0, 0))), some (.istore 4, (0, (0, 0))), none, some (.iconst 0, (0, (0, 0))), some (.istore 5, (0, (0, 0))), none, some (.iconst 0, (0, (0, 0))), some (.istore 6, (0, (0, 0))), none, some (.iload 6, (0, (0, 0))), none, some (.iconst 4, (0, (0, 0))), some (.if_icmp .ge 52, (0, (0, 0))), none, none, some (.aload_n 0, (0, (0, 0))), some (.iload 6, (0, (0, 0))), none, some (.invokevirtual 124, (51, (1, 1))), none, none, some (.istore 7, (0, (0, 0))), none, some (.iload 7, (0, (0, 0))), none, some (.bipush (-4), (0, (0, 0))), none, some (.if_icmp .ne 10, (0, (0, 0))), none, none, some (.iinc 5 1, (0, (0, 0))), none, none, some (.iload 5, (0, (0, 0))), none, some (.istore 7, (0, (0, 0))), none, some (.aload_n 0, (0, (0, 0))), some (.getfield 52, (5, (13, 1))), none, none, some (.iload 6, (0, (0, 0))), none, some (.iload 7, (0, (0, 0))), none, some (.iastore, (0, (0, 0))), some (.iload 4, (0, (0, 0))), none, some (.iload 6, (0, (0, 0))), none, some (.iconst 2, (0, (0, 0))), some (.iadd, (0, (0, 0))), some (.imul, (0, (0, 0))), some (.iload 7, (0, (0, 0))), none, some (.iadd, (0, (0, 0))), some (.istore 4, (0, (0, 0))), none, some (.iinc 6 1, (0, (0, 0))), none, none, some (.goto (-52), (0, (0, 0))), none, none, some (.iload 4, (0, (0, 0))), none, some (.ireturn, (0, (0, 0)))]
def mt_49 : MT := ((yX5_heldBehind, (cX5_heldBehind, (8, (some .int)))), (5, (tb_49, [(17, [0, 1, 2, 3]), (54, [0, 4, 5, 6]), (82, [0, 4, 5, 6, 7])])))
def tb_50 : List (Option IE) := [some (.iload_n 3, (0, (0, 0))), some (.ifCond .lt 17, (0, (0, 0))), none, none, some (.iload_n 3, (0, (0, 0))), some (.iconst 2, (0, (0, 0))), some (.if_icmp .ge 12, (0, (0, 0))), none, none, some (.aload_n 0, (0, (0, 0))), some (.getfield 49, (5, (12, 1))), none, none, some (.iload_n 2, (0, (0, 0))), some (.iload_n 3, (0, (0, 0))), some (.iadd, (0, (0, 0))), some (.iload_n 1, (0, (0, 0))), some (.iastore, (0, (0, 0))), some (.return_, (0, (0, 0)))]
def mt_50 : MT := ((yX5_keep, (cX5_keep, (4, none))), (5, (tb_50, [(18, [])])))
def tb_51 : List (Option IE) := [some (.aload_n 0, (0, (0, 0))), some (.getfield 49, (5, (12, 1))), none, none, some (.iload_n 1, (0, (0, 0))), some (.iaload, (0, (0, 0))), some (.ifCond .ne 5, (0, (0, 0))), none, none, some (.iconst 0, (0, (0, 0))), some (.ireturn, (0, (0, 0))), some (.iconst 0, (0, (0, 0))), some (.istore_n 2, (0, (0, 0))), some (.iload_n 2, (0, (0, 0))), some (.iload_n 1, (0, (0, 0))), some (.if_icmp .ge 31, (0, (0, 0))), none, none, some (.aload_n 0, (0, (0, 0))), some (.getfield 49, (5, (12, 1))), none, none, some (.iload_n 2, (0, (0, 0))), some (.iaload, (0, (0, 0))), some (.aload_n 0, (0, (0, 0))), some (.getfield 49, (5, (12, 1))), none, none, some (.iload_n 1, (0, (0, 0))), some (.iaload, (0, (0, 0))), some (.if_icmp .ne 10, (0, (0, 0))), none, none, some (.aload_n 0, (0, (0, 0))), some (.getfield 52, (5, (13, 1))), none, none, some (.iload_n 2, (0, (0, 0))), some (.iaload, (0, (0, 0))), some (.ireturn, (0, (0, 0))), some (.iinc 2 1, (0, (0, 0))), none, none, some (.goto (-30), (0, (0, 0))), none, none, some (.bipush (-4), (0, (0, 0))), none, some (.ireturn, (0, (0, 0)))]
def mt_51 : MT := ((yX5_digitOfEarlier, (cX5_digitOfEarlier, (3, (some .int)))), (5, (tb_51, [(13, [0, 1, 2])])))
def tb_52 : List (Option IE) := [some (.iconst 0, (0, (0, 0))), some (.istore_n 3, (0, (0, 0))), some (.iload_n 1, (0, (0, 0))), some (.istore 4, (0, (0, 0))), none, some (.iload 4, (0, (0, 0))), none, some (.ifCond .le 36, (0, (0, 0))), none, none, some (.iload 4, (0, (0, 0))), none, some (.aload_n 0, (0, (0, 0))), some (.getfield 24, (5, (4, 0))), none, none, some (.if_icmp .ge 27, (0, (0, 0))), none, none, some (.iload_n 3, (0, (0, 0))), some (.aload_n 2, (0, (0, 0))), some (.getfield 127, (2, (0, 1))), none, none, some (.arraylength, (0, (0, 0))), some (.if_icmp .ge 18, (0, (0, 0))), none, none, some (.iinc 3 1, (0, (0, 0))), none, none, some (.aload_n 0, (0, (0, 0))), some (.getfield 18, (5, (2, 1))), none, none, some (.iload 4, (0, (0, 0))), none, some (.iaload, (0, (0, 0))), some (.istore 4, (0, (0, 0))), none, some (.goto (-35), (0, (0, 0))), none, none, some (.aload_n 2, (0, (0, 0))), some (.iload_n 3, (0, (0, 0))), some (.putfield 132, (2, (2, 0))), none, none, some (.iload_n 1, (0, (0, 0))), some (.istore 4, (0, (0, 0))), none, some (.iload_n 3, (0, (0, 0))), some (.iconst 1, (0, (0, 0))), some (.isub, (0, (0, 0))), some (.istore 5, (0, (0, 0))), none, some (.iload 5, (0, (0, 0))), none, some (.ifCond .lt 64, (0, (0, 0))), none, none, some (.iload 4, (0, (0, 0))), none, some (.ifCond .le 59, (0, (0, 0))), none, none, some (.iload 4, (0, (0, 0))), none, some (.aload_n 0, (0, (0, 0))), some (.getfield 24, (5, (4, 0))), none, none, some (.if_icmp .ge 50, (0, (0, 0))), none, none, some (.aload_n 2, (0, (0, 0))), some (.getfield 127, (2, (0, 1))), none, none, some (.iload 5, (0, (0, 0))), none, some (.aload_n 0, (0, (0, 0))), some (.getfield 21, (5, (3, 1))), none, none, some (.iload 4, (0, (0, 0))), none, some (.iaload, (0, (0, 0))), some (.iconst 5, (0, (0, 0))), some (.idiv, (0, (0, 0))), some (.iastore, (0, (0, 0))), some (.aload_n 2, (0, (0, 0))), some (.getfield 135, (2, (1, 1))), none, none, some (.iload 5, (0, (0, 0))), none, some (.aload_n 0, (0, (0, 0))), some (.getfield 21, (5, (3, 1))), none, none, some (.iload 4, (0, (0, 0))), none, some (.iaload, (0, (0, 0))), some (.iconst 5, (0, (0, 0))), some (.irem, (0, (0, 0))), some (.iastore, (0, (0, 0))), some (.aload_n 0, (0, (0, 0))), some (.getfield 18, (5, (2, 1))), none, none, some (.iload 4, (0, (0, 0))), none, some (.iaload, (0, (0, 0))), some (.istore 4, (0, (0, 0))), none, some (.iinc 5 (-1), (0, (0, 0))), none, none, some (.goto (-63), (0, (0, 0))), none, none, some (.return_, (0, (0, 0)))]
def mt_52 : MT := ((yX5_tellWays, (cX5_tellWays, (6, none))), (5, (tb_52, [(5, [0, 1, 2, 3, 4]), (43, [0, 1, 2, 3]), (56, [0, 2, 4, 5]), (122, [])])))
def tb_53 : List (Option IE) := [some (.aload_n 0, (0, (0, 0))), some (.getfield 65, (5, (16, 1))), none, none, some (.invokevirtual 138, (28, (0, 0))), none, none, some (.aload_n 0, (0, (0, 0))), some (.getfield 69, (5, (17, 1))), none, none, some (.invokevirtual 138, (28, (0, 0))), none, none, some (.iconst 0, (0, (0, 0))), some (.istore 4, (0, (0, 0))), none, some (.iconst 0, (0, (0, 0))), some (.istore 5, (0, (0, 0))), none, some (.iload 5, (0, (0, 0))), none, some (.aload_n 3, (0, (0, 0))), some (.getfield 132, (2, (2, 0))), none, none, some (.if_icmp .ge 123, (0, (0, 0))), none, none, some (.aload_n 3, (0, (0, 0))), some (.getfield 135, (2, (1, 1))), none, none, some (.iload 5, (0, (0, 0))), none, some (.iaload, (0, (0, 0))), some (.istore 6, (0, (0, 0))), none, some (.iload 4, (0, (0, 0))), none, some (.istore 7, (0, (0, 0))), none, some (.iload 6, (0, (0, 0))), none, some (.ifCond .lt 24, (0, (0, 0))), none, none, some (.iload 6, (0, (0, 0))), none, some (.iconst 2, (0, (0, 0))), some (.if_icmp .ge 18, (0, (0, 0))), none, none, some (.aload_n 0, (0, (0, 0))), some (.getfield 65, (5, (16, 1))), none, none, some (.getfield 141, (3, (1, 1))), none, none, some (.iload 6, (0, (0, 0))), none, some (.iaload, (0, (0, 0))), some (.istore 7, (0, (0, 0))), none, some (.goto 35, (0, (0, 0))), none, none, some (.iload 6, (0, (0, 0))), none, some (.iconst 2, (0, (0, 0))), some (.if_icmp .lt 26, (0, (0, 0))), none, none, some (.iload 6, (0, (0, 0))), none, some (.iconst 4, (0, (0, 0))), some (.if_icmp .ge 20, (0, (0, 0))), none, none, some (.aload_n 0, (0, (0, 0))), some (.getfield 69, (5, (17, 1))), none, none, some (.getfield 141, (3, (1, 1))), none, none, some (.iload 6, (0, (0, 0))), none, some (.iconst 2, (0, (0, 0))), some (.isub, (0, (0, 0))), some (.iaload, (0, (0, 0))), some (.istore 7, (0, (0, 0))), none, some (.goto 6, (0, (0, 0))), none, none, some (.iinc 4 1, (0, (0, 0))), none, none, some (.aload_n 3, (0, (0, 0))), some (.getfield 135, (2, (1, 1))), none, none, some (.iload 5, (0, (0, 0))), none, some (.iload 7, (0, (0, 0))), none, some (.iastore, (0, (0, 0))), some (.aload_n 0, (0, (0, 0))), some (.getfield 65, (5, (16, 1))), none, none, some (.aload_n 1, (0, (0, 0))), some (.aload_n 3, (0, (0, 0))), some (.getfield 127, (2, (0, 1))), none, none, some (.iload 5, (0, (0, 0))), none, some (.iaload, (0, (0, 0))), some (.iload 7, (0, (0, 0))), none, some (.invokevirtual 144, (29, (3, 0))), none, none, some (.aload_n 0, (0, (0, 0))), some (.getfield 69, (5, (17, 1))), none, none, some (.aload_n 2, (0, (0, 0))), some (.aload_n 3, (0, (0, 0))), some (.getfield 127, (2, (0, 1))), none, none, some (.iload 5, (0, (0, 0))), none, some (.iaload, (0, (0, 0))), some (.iload 7, (0, (0, 0))), none, some (.invokevirtual 144, (29, (3, 0))), none, none, some (.iinc 5 1, (0, (0, 0))), none, none, some (.goto (-126), (0, (0, 0))), none, none, some (.return_, (0, (0, 0)))]
def mt_53 : MT := ((yX5_giveNames, (cX5_giveNames, (8, none))), (5, (tb_53, [(20, [0, 1, 2, 3, 4, 5]), (68, [0, 1, 2, 3, 4, 5, 6, 7]), (97, [0, 1, 2, 3, 4, 5, 7]), (100, [0, 1, 2, 3, 4, 5, 7])])))
def tb_54 : List (Option IE) := [some (.aload_n 0, (0, (0, 0))), some (.aload_n 1, (0, (0, 0))), some (.aload_n 2, (0, (0, 0))), some (.iconst 0, (0, (0, 0))), some (.invokevirtual 148, (41, (3, 1))), none, none, some (.pop, (0, (0, 0))), some (.iconst 0, (0, (0, 0))), some (.istore_n 3, (0, (0, 0))), some (.iload_n 3, (0, (0, 0))), some (.aload_n 0, (0, (0, 0))), some (.getfield 24, (5, (4, 0))), none, none, some (.if_icmp .ge 41, (0, (0, 0))), none, none, some (.iload_n 3, (0, (0, 0))), some (.bipush 30, (0, (0, 0))), none, some (.if_icmp .ge 35, (0, (0, 0))), none, none, some (.aload_n 0, (0, (0, 0))), some (.iload_n 3, (0, (0, 0))), some (.invokevirtual 79, (45, (1, 0))), none, none, some (.aload_n 0, (0, (0, 0))), some (.getfield 55, (5, (14, 1))), none, none, some (.iload_n 3, (0, (0, 0))), some (.aload_n 1, (0, (0, 0))), some (.aload_n 0, (0, (0, 0))), some (.getfield 28, (5, (5, 0))), none, none, some (.invokevirtual 83, (7, (1, 3))), none, none, some (.bastore, (0, (0, 0))), some (.aload_n 0, (0, (0, 0))), some (.iload_n 3, (0, (0, 0))), some (.aload_n 1, (0, (0, 0))), some (.aload_n 2, (0, (0, 0))), some (.invokevirtual 151, (55, (3, 0))), none, none, some (.iinc 3 1, (0, (0, 0))), none, none, some (.goto (-43), (0, (0, 0))), none, none, some (.iconst 1, (0, (0, 0))), some (.istore_n 3, (0, (0, 0))), some (.iconst 0, (0, (0, 0))), some (.istore 4, (0, (0, 0))), none, some (.iload 4, (0, (0, 0))), none, some (.bipush 30, (0, (0, 0))), none, some (.if_icmp .ge 18, (0, (0, 0))), none, none, some (.iload_n 3, (0, (0, 0))), some (.ifCond .eq 14, (0, (0, 0))), none, none, some (.aload_n 0, (0, (0, 0))), some (.invokevirtual 155, (56, (0, 3))), none, none, some (.istore_n 3, (0, (0, 0))), some (.iinc 4 1, (0, (0, 0))), none, none, some (.goto (-19), (0, (0, 0))), none, none, some (.aload_n 1, (0, (0, 0))), some (.invokevirtual 159, (10, (0, 0))), none, none, some (.iconst 0, (0, (0, 0))), some (.istore 4, (0, (0, 0))), none, some (.iload 4, (0, (0, 0))), none, some (.aload_n 0, (0, (0, 0))), some (.getfield 24, (5, (4, 0))), none, none, some (.if_icmp .ge 60, (0, (0, 0))), none, none, some (.iload 4, (0, (0, 0))), none, some (.bipush 30, (0, (0, 0))), none, some (.if_icmp .ge 53, (0, (0, 0))), none, none, some (.aload_n 0, (0, (0, 0))), some (.iload 4, (0, (0, 0))), none, some (.invokevirtual 79, (45, (1, 0))), none, none, some (.aload_n 1, (0, (0, 0))), some (.aload_n 0, (0, (0, 0))), some (.getfield 28, (5, (5, 0))), none, none, some (.aload_n 0, (0, (0, 0))), some (.getfield 37, (5, (8, 1))), none, none, some (.iconst 0, (0, (0, 0))), some (.iaload, (0, (0, 0))), some (.aload_n 0, (0, (0, 0))), some (.getfield 37, (5, (8, 1))), none, none, some (.iconst 1, (0, (0, 0))), some (.iaload, (0, (0, 0))), some (.invokestatic 162, (40, (2, 1))), none, none, some (.aload_n 0, (0, (0, 0))), some (.getfield 55, (5, (14, 1))), none, none, some (.iload 4, (0, (0, 0))), none, some (.baload, (0, (0, 0))), some (.ifCond .eq 7, (0, (0, 0))), none, none, some (.iconst 1, (0, (0, 0))), some (.goto 4, (0, (0, 0))), none, none, some (.iconst 2, (0, (0, 0))), some (.invokevirtual 165, (11, (3, 0))), none, none, some (.iinc 4 1, (0, (0, 0))), none, none, some (.goto (-63), (0, (0, 0))), none, none, some (.aload_n 1, (0, (0, 0))), some (.iconst 1, (0, (0, 0))), some (.putfield 168, (0, (7, 2))), none, none, some (.return_, (0, (0, 0)))]
def mt_54 : MT := ((yX5_survey, (cX5_survey, (5, none))), (5, (tb_54, [(10, [0, 1, 2, 3]), (56, [0, 1]), (61, [0, 1, 3, 4]), (83, [0, 1]), (90, [0, 1, 4]), (147, [0, 1, 4]), (156, [1])])))
def tb_55 : List (Option IE) := [some (.iconst 0, (0, (0, 0))), some (.istore 4, (0, (0, 0))), none, some (.iload 4, (0, (0, 0))), none, some (.bipush 15, (0, (0, 0))), none, some (.if_icmp .ge 58, (0, (0, 0))), none, none, some (.aload_n 0, (0, (0, 0))), some (.aload_n 2, (0, (0, 0))), some (.aload_n 3, (0, (0, 0))), some (.iload 4, (0, (0, 0))), none, some (.invokevirtual 93, (46, (3, 1))), none, none, some (.istore 5, (0, (0, 0))), none, some (.aload_n 0, (0, (0, 0))), some (.getfield 59, (5, (15, 1))), none, none, some (.iload_n 1, (0, (0, 0))), some (.bipush 15, (0, (0, 0))), none, some (.imul, (0, (0, 0))), some (.iload 4, (0, (0, 0))), none, some (.iadd, (0, (0, 0))), some (.iload 5, (0, (0, 0))), none, some (.ifCond .lt 23, (0, (0, 0))), none, none, some (.iload 5, (0, (0, 0))), none, some (.sipush 4320, (0, (0, 0))), none, none, some (.if_icmp .ge 15, (0, (0, 0))), none, none, some (.aload_n 0, (0, (0, 0))), some (.getfield 11, (5, (0, 1))), none, none, some (.iload 5, (0, (0, 0))), none, some (.iaload, (0, (0, 0))), some (.iconst 1, (0, (0, 0))), some (.isub, (0, (0, 0))), some (.goto 5, (0, (0, 0))), none, none, some (.bipush (-4), (0, (0, 0))), none, some (.iastore, (0, (0, 0))), some (.iinc 4 1, (0, (0, 0))), none, none, some (.goto (-59), (0, (0, 0))), none, none, some (.return_, (0, (0, 0)))]
def mt_55 : MT := ((yX5_tellNext, (cX5_tellNext, (6, none))), (5, (tb_55, [(3, [0, 1, 2, 3, 4]), (56, [0, 1, 2, 3, 4]), (58, [0, 1, 2, 3, 4])])))
def tb_56 : List (Option IE) := [some (.iconst 0, (0, (0, 0))), some (.istore_n 1, (0, (0, 0))), some (.aload_n 0, (0, (0, 0))), some (.getfield 24, (5, (4, 0))), none, none, some (.bipush 30, (0, (0, 0))), none, some (.invokestatic 172, (1002, (2, 1))), none, none, some (.iconst 1, (0, (0, 0))), some (.isub, (0, (0, 0))), some (.istore_n 2, (0, (0, 0))), some (.iload_n 2, (0, (0, 0))), some (.ifCond .lt 35, (0, (0, 0))), none, none, some (.aload_n 0, (0, (0, 0))), some (.getfield 55, (5, (14, 1))), none, none, some (.iload_n 2, (0, (0, 0))), some (.baload, (0, (0, 0))), some (.ifCond .ne 20, (0, (0, 0))), none, none, some (.aload_n 0, (0, (0, 0))), some (.iload_n 2, (0, (0, 0))), some (.invokevirtual 177, (57, (1, 3))), none, none, some (.ifCond .eq 12, (0, (0, 0))), none, none, some (.aload_n 0, (0, (0, 0))), some (.getfield 55, (5, (14, 1))), none, none, some (.iload_n 2, (0, (0, 0))), some (.iconst 1, (0, (0, 0))), some (.bastore, (0, (0, 0))), some (.iconst 1, (0, (0, 0))), some (.istore_n 1, (0, (0, 0))), some (.iinc 2 (-1), (0, (0, 0))), none, none, some (.goto (-33), (0, (0, 0))), none, none, some (.iload_n 1, (0, (0, 0))), some (.ireturn, (0, (0, 0)))]
def mt_56 : MT := ((yX5_spreadLife, (cX5_spreadLife, (3, (some .boolean)))), (5, (tb_56, [(14, [0, 1, 2]), (44, [0, 1, 2])])))
def tb_57 : List (Option IE) := [some (.iconst 0, (0, (0, 0))), some (.istore_n 2, (0, (0, 0))), some (.iload_n 2, (0, (0, 0))), some (.bipush 15, (0, (0, 0))), none, some (.if_icmp .ge 42, (0, (0, 0))), none, none, some (.aload_n 0, (0, (0, 0))), some (.getfield 59, (5, (15, 1))), none, none, some (.iload_n 1, (0, (0, 0))), some (.bipush 15, (0, (0, 0))), none, some (.imul, (0, (0, 0))), some (.iload_n 2, (0, (0, 0))), some (.iadd, (0, (0, 0))), some (.iaload, (0, (0, 0))), some (.istore_n 3, (0, (0, 0))), some (.iload_n 3, (0, (0, 0))), some (.ifCond .lt 20, (0, (0, 0))), none, none, some (.iload_n 3, (0, (0, 0))), some (.bipush 30, (0, (0, 0))), none, some (.if_icmp .ge 14, (0, (0, 0))), none, none, some (.aload_n 0, (0, (0, 0))), some (.getfield 55, (5, (14, 1))), none, none, some (.iload_n 3, (0, (0, 0))), some (.baload, (0, (0, 0))), some (.ifCond .eq 5, (0, (0, 0))), none, none, some (.iconst 1, (0, (0, 0))), some (.ireturn, (0, (0, 0))), some (.iinc 2 1, (0, (0, 0))), none, none, some (.goto (-42), (0, (0, 0))), none, none, some (.iconst 0, (0, (0, 0))), some (.ireturn, (0, (0, 0)))]
def mt_57 : MT := ((yX5_leadsToLife, (cX5_leadsToLife, (4, (some .boolean)))), (5, (tb_57, [(2, [0, 1, 2]), (41, [0, 1, 2])])))
def tb_58 : List (Option IE) := [some (.aload_n 0, (0, (0, 0))), some (.invokespecial 3, (1000, (0, 0))), none, none, some (.aload_n 0, (0, (0, 0))), some (.new 9, (3, (5, 0))), none, none, some (.dup, (0, (0, 0))), some (.invokespecial 11, (27, (0, 0))), none, none, some (.putfield 12, (6, (0, 1))), none, none, some (.aload_n 0, (0, (0, 0))), some (.aconst_null, (0, (0, 0))), some (.putfield 18, (6, (1, 1))), none, none, some (.aload_n 0, (0, (0, 0))), some (.iconst 0, (0, (0, 0))), some (.putfield 22, (6, (2, 0))), none, none, some (.aload_n 0, (0, (0, 0))), some (.bipush (-4), (0, (0, 0))), none, some (.putfield 26, (6, (3, 0))), none, none, some (.return_, (0, (0, 0)))]
def mt_58 : MT := ((yX6_init, (cX6_init, (1, none))), (6, (tb_58, [])))
def tb_59 : List (Option IE) := [some (.aload_n 0, (0, (0, 0))), some (.aload_n 1, (0, (0, 0))), some (.putfield 18, (6, (1, 1))), none, none, some (.aload_n 0, (0, (0, 0))), some (.getfield 12, (6, (0, 1))), none, none, some (.invokevirtual 29, (28, (0, 0))), none, none, some (.aload_n 0, (0, (0, 0))), some (.iconst 0, (0, (0, 0))), some (.putfield 22, (6, (2, 0))), none, none, some (.aload_n 0, (0, (0, 0))), some (.aload_n 0, (0, (0, 0))), some (.getfield 12, (6, (0, 1))), none, none, some (.aload_n 1, (0, (0, 0))), some (.invokevirtual 32, (32, (1, 3))), none, none, some (.ifCond .eq 7, (0, (0, 0))), none, none, some (.iconst 0, (0, (0, 0))), some (.goto 5, (0, (0, 0))), none, none, some (.bipush (-4), (0, (0, 0))), none, some (.putfield 26, (6, (3, 0))), none, none, some (.return_, (0, (0, 0)))]
def mt_59 : MT := ((yX6_begin, (cX6_begin, (2, none))), (6, (tb_59, [(35, [])])))
def tb_60 : List (Option IE) := [some (.aload_n 0, (0, (0, 0))), some (.getfield 26, (6, (3, 0))), none, none, some (.bipush (-4), (0, (0, 0))), none, some (.if_icmp .eq 7, (0, (0, 0))), none, none, some (.iconst 1, (0, (0, 0))), some (.goto 4, (0, (0, 0))), none, none, some (.iconst 0, (0, (0, 0))), some (.ireturn, (0, (0, 0)))]
def mt_60 : MT := ((yX6_isDone, (cX6_isDone, (1, (some .boolean)))), (6, (tb_60, [(14, [])])))
def tb_61 : List (Option IE) := [some (.aload_n 0, (0, (0, 0))), some (.invokevirtual 36, (60, (0, 3))), none, none, some (.ifCond .ne 10, (0, (0, 0))), none, none, some (.aload_n 0, (0, (0, 0))), some (.getfield 18, (6, (1, 4))), none, none, some (.ifnonnull 6, (0, (0, 0))), none, none, some (.bipush (-5), (0, (0, 0))), none, some (.ireturn, (0, (0, 0))), some (.aload_n 0, (0, (0, 0))), some (.getfield 12, (6, (0, 1))), none, none, some (.aload_n 0, (0, (0, 0))), some (.getfield 18, (6, (1, 4))), none, none, some (.iload_n 1, (0, (0, 0))), some (.iload_n 2, (0, (0, 0))), some (.invokevirtual 40, (29, (3, 0))), none, none, some (.aload_n 0, (0, (0, 0))), some (.getfield 12, (6, (0, 1))), none, none, some (.aload_n 0, (0, (0, 0))), some (.getfield 18, (6, (1, 4))), none, none, some (.invokevirtual 32, (32, (1, 3))), none, none, some (.ifCond .eq 17, (0, (0, 0))), none, none, some (.aload_n 0, (0, (0, 0))), some (.aload_n 0, (0, (0, 0))), some (.getfield 12, (6, (0, 1))), none, none, some (.getfield 44, (3, (4, 0))), none, none, some (.putfield 26, (6, (3, 0))), none, none, some (.bipush (-5), (0, (0, 0))), none, some (.ireturn, (0, (0, 0))), some (.aload_n 0, (0, (0, 0))), some (.getfield 18, (6, (1, 4))), none, none, some (.aload_n 0, (0, (0, 0))), some (.getfield 12, (6, (0, 1))), none, none, some (.getfield 47, (3, (0, 0))), none, none, some (.invokevirtual 50, (7, (1, 3))), none, none, some (.ifCond .ne 5, (0, (0, 0))), none, none, some (.iconst 0, (0, (0, 0))), some (.ireturn, (0, (0, 0))), some (.aload_n 0, (0, (0, 0))), some (.dup, (0, (0, 0))), some (.getfield 22, (6, (2, 0))), none, none, some (.iconst 1, (0, (0, 0))), some (.iadd, (0, (0, 0))), some (.putfield 22, (6, (2, 0))), none, none, some (.iconst 1, (0, (0, 0))), some (.ireturn, (0, (0, 0)))]
def mt_61 : MT := ((yX6_take, (cX6_take, (3, (some .int)))), (6, (tb_61, [(14, [])])))
def tb_62 : List (Option IE) := [some (.aload_n 0, (0, (0, 0))), some (.invokespecial 1, (1000, (0, 0))), none, none, some (.aload_n 0, (0, (0, 0))), some (.new 7, (2, (3, 0))), none, none, some (.dup, (0, (0, 0))), some (.bipush 40, (0, (0, 0))), none, some (.invokespecial 11, (21, (1, 0))), none, none, some (.putfield 14, (7, (0, 1))), none, none, some (.aload_n 0, (0, (0, 0))), some (.bipush 7, (0, (0, 0))), none, some (.anewarray 18, (2, (0, 0))), none, none, some (.putfield 20, (7, (1, 1))), none, none, some (.aload_n 0, (0, (0, 0))), some (.iconst 0, (0, (0, 0))), some (.putfield 24, (7, (2, 0))), none, none, some (.aload_n 0, (0, (0, 0))), some (.iconst 4, (0, (0, 0))), some (.anewarray 28, (3, (0, 0))), none, none, some (.putfield 30, (7, (3, 1))), none, none, some (.aload_n 0, (0, (0, 0))), some (.iconst 0, (0, (0, 0))), some (.putfield 34, (7, (4, 0))), none, none, some (.aload_n 0, (0, (0, 0))), some (.iconst 4, (0, (0, 0))), some (.anewarray 37, (4, (0, 0))), none, none, some (.putfield 39, (7, (5, 1))), none, none, some (.aload_n 0, (0, (0, 0))), some (.new 18, (0, (8, 0))), none, none, some (.dup, (0, (0, 0))), some (.invokespecial 43, (0, (0, 0))), none, none, some (.putfield 44, (7, (6, 1))), none, none, some (.aload_n 0, (0, (0, 0))), some (.new 48, (1, (2, 0))), none, none, some (.dup, (0, (0, 0))), some (.invokespecial 50, (16, (0, 0))), none, none, some (.putfield 51, (7, (7, 1))), none, none, some (.aload_n 0, (0, (0, 0))), some (.new 55, (3, (5, 0))), none, none, some (.dup, (0, (0, 0))), some (.invokespecial 57, (27, (0, 0))), none, none, some (.putfield 58, (7, (8, 1))), none, none, some (.aload_n 0, (0, (0, 0))), some (.new 62, (5, (18, 0))), none, none, some (.dup, (0, (0, 0))), some (.invokespecial 64, (39, (0, 0))), none, none, some (.putfield 65, (7, (9, 1))), none, none, some (.aload_n 0, (0, (0, 0))), some (.new 7, (2, (3, 0))), none, none, some (.dup, (0, (0, 0))), some (.sipush 1872, (0, (0, 0))), none, none, some (.invokespecial 11, (21, (1, 0))), none, none, some (.putfield 69, (7, (10, 1))), none, none, some (.aload_n 0, (0, (0, 0))), some (.iconst 0, (0, (0, 0))), some (.putfield 72, (7, (11, 2))), none, none, some (.aload_n 0, (0, (0, 0))), some (.bipush (-4), (0, (0, 0))), none, some (.putfield 76, (7, (12, 0))), none, none, some (.aload_n 0, (0, (0, 0))), some (.bipush (-4), (0, (0, 0))), none, some (.putfield 79, (7, (13, 0))), none, none, some (.aload_n 0, (0, (0, 0))), some (.bipush (-4), (0, (0, 0))), none, some (.putfield 82, (7, (14, 0))), none, none, some (.aload_n 0, (0, (0, 0))), some (.bipush (-4), (0, (0, 0))), none, some (.putfield 85, (7, (15, 0))), none, none, some (.iconst 0, (0, (0, 0))), some (.istore_n 1, (0, (0, 0))), some (.iload_n 1, (0, (0, 0))), some (.aload_n 0, (0, (0, 0))), some (.getfield 20, (7, (1, 1))), none, none, some (.arraylength, (0, (0, 0))), some (.if_icmp .ge 22, (0, (0, 0))), none, none, some (.aload_n 0, (0, (0, 0))), some (.getfield 20, (7, (1, 1))), none, none, some (.iload_n 1, (0, (0, 0))), some (.new 18, (0, (8, 0))), none, none, some (.dup, (0, (0, 0))), some (.invokespecial 43, (0, (0, 0))), none, none, some (.aastore, (0, (0, 0))), some (.iinc 1 1, (0, (0, 0))), none, none, some (.goto (-25), (0, (0, 0))), none, none, some (.iconst 0, (0, (0, 0))), some (.istore_n 1, (0, (0, 0))), some (.iload_n 1, (0, (0, 0))), some (.aload_n 0, (0, (0, 0))), some (.getfield 30, (7, (3, 1))), none, none, some (.arraylength, (0, (0, 0))), some (.if_icmp .ge 22, (0, (0, 0))), none, none, some (.aload_n 0, (0, (0, 0))), some (.getfield 30, (7, (3, 1))), none, none, some (.iload_n 1, (0, (0, 0))), some (.new 28, (6, (4, 0))), none, none, some (.dup, (0, (0, 0))), some (.invokespecial 88, (58, (0, 0))), none, none, some (.aastore, (0, (0, 0))), some (.iinc 1 1, (0, (0, 0))), none, none, some (.goto (-25), (0, (0, 0))), none, none, some (.iconst 0, (0, (0, 0))), some (.istore_n 1, (0, (0, 0))), some (.iload_n 1, (0, (0, 0))), some (.aload_n 0, (0, (0, 0))), some (.getfield 39, (7, (5, 1))), none, none, some (.arraylength, (0, (0, 0))), some (.if_icmp .ge 22, (0, (0, 0))), none, none, some (.aload_n 0, (0, (0, 0))), some (.getfield 39, (7, (5, 1))), none, none, some (.iload_n 1, (0, (0, 0))), some (.new 37, (4, (3, 0))), none, none, some (.dup, (0, (0, 0))), some (.invokespecial 89, (34, (0, 0))), none, none, some (.aastore, (0, (0, 0))), some (.iinc 1 1, (0, (0, 0))), none, none, some (.goto (-25), (0, (0, 0))), none, none, some (.return_, (0, (0, 0)))]
def mt_62 : MT := ((yX7_init, (cX7_init, (2, none))), (7, (tb_62, [(141, [0, 1]), (171, [0, 1]), (201, [0, 1])])))
def tb_63 : List (Option IE) := [some (.aload_n 0, (0, (0, 0))), some (.getfield 14, (7, (0, 1))), none, none, some (.iload_n 1, (0, (0, 0))), some (.iload_n 2, (0, (0, 0))), some (.invokevirtual 90, (24, (2, 1))), none, none, some (.ireturn, (0, (0, 0)))]
def mt_63 : MT := ((yX7_place, (cX7_place, (3, (some .int)))), (7, (tb_63, [])))
def tb_64 : List (Option IE) := [some (.aload_n 0, (0, (0, 0))), some (.getfield 14, (7, (0, 1))), none, none, some (.iload_n 1, (0, (0, 0))), some (.invokevirtual 94, (23, (1, 3))), none, none, some (.ifCond .ne 5, (0, (0, 0))), none, none, some (.iconst (-1), (0, (0, 0))), some (.ireturn, (0, (0, 0))), some (.aload_n 0, (0, (0, 0))), some (.getfield 14, (7, (0, 1))), none, none, some (.getfield 98, (2, (2, 0))), none, none, some (.istore_n 2, (0, (0, 0))), some (.aload_n 0, (0, (0, 0))), some (.getfield 14, (7, (0, 1))), none, none, some (.iload_n 1, (0, (0, 0))), some (.putfield 98, (2, (2, 0))), none, none, some (.iload_n 2, (0, (0, 0))), some (.ireturn, (0, (0, 0)))]
def mt_64 : MT := ((yX7_cut, (cX7_cut, (3, (some .int)))), (7, (tb_64, [])))
def tb_65 : List (Option IE) := [some (.aload_n 0, (0, (0, 0))), some (.getfield 14, (7, (0, 1))), none, none, some (.iload_n 1, (0, (0, 0))), some (.invokevirtual 101, (22, (1, 3))), none, none, some (.ifCond .eq 14, (0, (0, 0))), none, none, some (.aload_n 0, (0, (0, 0))), some (.getfield 14, (7, (0, 1))), none, none, some (.iload_n 1, (0, (0, 0))), some (.invokevirtual 104, (25, (1, 1))), none, none, some (.goto 4, (0, (0, 0))), none, none, some (.iconst (-1), (0, (0, 0))), some (.ireturn, (0, (0, 0)))]
def mt_65 : MT := ((yX7_first, (cX7_first, (2, (some .int)))), (7, (tb_65, [(23, [])])))
def tb_66 : List (Option IE) := [some (.iconst 0, (0, (0, 0))), some (.istore_n 1, (0, (0, 0))), some (.iconst 0, (0, (0, 0))), some (.istore_n 2, (0, (0, 0))), some (.iload_n 2, (0, (0, 0))), some (.aload_n 0, (0, (0, 0))), some (.getfield 14, (7, (0, 1))), none, none, some (.getfield 98, (2, (2, 0))), none, none, some (.if_icmp .ge 24, (0, (0, 0))), none, none, some (.aload_n 0, (0, (0, 0))), some (.getfield 14, (7, (0, 1))), none, none, some (.iload_n 2, (0, (0, 0))), some (.invokevirtual 104, (25, (1, 1))), none, none, some (.iload_n 2, (0, (0, 0))), some (.if_icmp .ne 6, (0, (0, 0))), none, none, some (.iinc 1 1, (0, (0, 0))), none, none, some (.iinc 2 1, (0, (0, 0))), none, none, some (.goto (-29), (0, (0, 0))), none, none, some (.iload_n 1, (0, (0, 0))), some (.ireturn, (0, (0, 0)))]
def mt_66 : MT := ((yX7_names, (cX7_names, (3, (some .int)))), (7, (tb_66, [(4, [0, 1, 2]), (30, [0, 1, 2])])))
def tb_67 : List (Option IE) := [some (.iload_n 1, (0, (0, 0))), some (.iconst 1, (0, (0, 0))), some (.if_icmp .lt 18, (0, (0, 0))), none, none, some (.iload_n 1, (0, (0, 0))), some (.bipush 6, (0, (0, 0))), none, some (.if_icmp .gt 12, (0, (0, 0))), none, none, some (.iload_n 2, (0, (0, 0))), some (.ifCond .lt 8, (0, (0, 0))), none, none, some (.iload_n 2, (0, (0, 0))), some (.iconst 2, (0, (0, 0))), some (.if_icmp .le 5, (0, (0, 0))), none, none, some (.iconst (-1), (0, (0, 0))), some (.ireturn, (0, (0, 0))), some (.aload_n 0, (0, (0, 0))), some (.invokevirtual 108, (76, (0, 2))), none, none, some (.iload_n 1, (0, (0, 0))), some (.iload_n 2, (0, (0, 0))), some (.invokevirtual 112, (1, (2, 0))), none, none, some (.aload_n 0, (0, (0, 0))), some (.invokevirtual 116, (77, (0, 1))), none, none, some (.ireturn, (0, (0, 0)))]
def mt_67 : MT := ((yX7_machine, (cX7_machine, (3, (some .int)))), (7, (tb_67, [(20, [])])))
def tb_68 : List (Option IE) := [some (.aload_n 0, (0, (0, 0))), some (.iload_n 1, (0, (0, 0))), some (.invokevirtual 120, (75, (1, 2))), none, none, some (.astore 7, (0, (0, 0))), none, some (.aload 7, (0, (0, 0))), none, some (.ifnull 23, (0, (0, 0))), none, none, some (.aload 7, (0, (0, 0))), none, some (.iload 5, (0, (0, 0))), none, some (.invokevirtual 124, (3, (1, 3))), none, none, some (.ifCond .eq 13, (0, (0, 0))), none, none, some (.aload 7, (0, (0, 0))), none, some (.iload 6, (0, (0, 0))), none, some (.invokevirtual 127, (5, (1, 3))), none, none, some (.ifCond .ne 5, (0, (0, 0))), none, none, some (.iconst (-1), (0, (0, 0))), some (.ireturn, (0, (0, 0))), some (.aload 7, (0, (0, 0))), none, some (.iload_n 2, (0, (0, 0))), some (.iload_n 3, (0, (0, 0))), some (.iload 4, (0, (0, 0))), none, some (.invokevirtual 130, (4, (3, 1))), none, none, some (.istore 8, (0, (0, 0))), none, some (.iload 8, (0, (0, 0))), none, some (.ifCond .ge 5, (0, (0, 0))), none, none, some (.iconst (-1), (0, (0, 0))), some (.ireturn, (0, (0, 0))), some (.aload 7, (0, (0, 0))), none, some (.getfield 134, (0, (5, 2))), none, none, some (.ifCond .eq 6, (0, (0, 0))), none, none, some (.bipush (-2), (0, (0, 0))), none, some (.ireturn, (0, (0, 0))), some (.aload 7, (0, (0, 0))), none, some (.iload 8, (0, (0, 0))), none, some (.iload 5, (0, (0, 0))), none, some (.iload 6, (0, (0, 0))), none, some (.invokevirtual 137, (6, (3, 0))), none, none, some (.aload_n 0, (0, (0, 0))), some (.invokevirtual 141, (78, (0, 0))), none, none, some (.iconst 1, (0, (0, 0))), some (.ireturn, (0, (0, 0)))]
def mt_68 : MT := ((yX7_step, (cX7_step, (9, (some .int)))), (7, (tb_68, [(32, [])])))
def tb_69 : List (Option IE) := [some (.aload_n 0, (0, (0, 0))), some (.iload_n 1, (0, (0, 0))), some (.invokevirtual 120, (75, (1, 2))), none, none, some (.astore 4, (0, (0, 0))), none, some (.aload 4, (0, (0, 0))), none, some (.ifnull 12, (0, (0, 0))), none, none, some (.aload 4, (0, (0, 0))), none, some (.iload_n 2, (0, (0, 0))), some (.invokevirtual 124, (3, (1, 3))), none, none, some (.ifCond .ne 5, (0, (0, 0))), none, none, some (.iconst (-1), (0, (0, 0))), some (.ireturn, (0, (0, 0))), some (.aload 4, (0, (0, 0))), none, some (.getfield 134, (0, (5, 2))), none, none, some (.ifCond .eq 6, (0, (0, 0))), none, none, some (.bipush (-2), (0, (0, 0))), none, some (.ireturn, (0, (0, 0))), some (.aload 4, (0, (0, 0))), none, some (.iload_n 2, (0, (0, 0))), some (.invokevirtual 144, (7, (1, 3))), none, none, some (.ifCond .eq 7, (0, (0, 0))), none, none, some (.iconst 1, (0, (0, 0))), some (.goto 4, (0, (0, 0))), none, none, some (.iconst 0, (0, (0, 0))), some (.istore 5, (0, (0, 0))), none, some (.aload 4, (0, (0, 0))), none, some (.iload_n 2, (0, (0, 0))), some (.iload_n 3, (0, (0, 0))), some (.invokevirtual 147, (8, (2, 0))), none, none, some (.aload_n 0, (0, (0, 0))), some (.invokevirtual 141, (78, (0, 0))), none, none, some (.iload 5, (0, (0, 0))), none, some (.ireturn, (0, (0, 0)))]
def mt_69 : MT := ((yX7_good, (cX7_good, (6, (some .int)))), (7, (tb_69, [(21, []), (48, [0, 2, 3, 4])])))
def tb_70 : List (Option IE) := [some (.aload_n 0, (0, (0, 0))), some (.iload_n 1, (0, (0, 0))), some (.invokevirtual 120, (75, (1, 2))), none, none, some (.astore_n 3, (0, (0, 0))), some (.aload_n 3, (0, (0, 0))), some (.ifnonnull 5, (0, (0, 0))), none, none, some (.iconst (-1), (0, (0, 0))), some (.ireturn, (0, (0, 0))), some (.iload_n 2, (0, (0, 0))), some (.tableswitch 42 0 2 #[27, 32, 37], (27, (0, 0))), none, none, none, none, none, none, none, none, none, none, none, none, none, none, none, none, none, none, none, none, none, none, none, none, none, none, some (.aload_n 3, (0, (0, 0))), some (.getfield 151, (0, (3, 0))), none, none, some (.ireturn, (0, (0, 0))), some (.aload_n 3, (0, (0, 0))), some (.getfield 154, (0, (4, 0))), none, none, some (.ireturn, (0, (0, 0))), some (.aload_n 3, (0, (0, 0))), some (.invokevirtual 157, (9, (0, 1))), none, none, some (.ireturn, (0, (0, 0))), some (.iconst (-1), (0, (0, 0))), some (.ireturn, (0, (0, 0)))]
def mt_70 : MT := ((yX7_told, (cX7_told, (4, (some .int)))), (7, (tb_70, [])))
def tb_71 : List (Option IE) := [some (.aload_n 0, (0, (0, 0))), some (.iload_n 1, (0, (0, 0))), some (.invokevirtual 120, (75, (1, 2))), none, none, some (.astore 6, (0, (0, 0))), none, some (.aload 6, (0, (0, 0))), none, some (.ifnull 14, (0, (0, 0))), none, none, some (.iload 5, (0, (0, 0))), none, some (.ifCond .lt 9, (0, (0, 0))), none, none, some (.iload 5, (0, (0, 0))), none, some (.iconst 1, (0, (0, 0))), some (.if_icmp .le 5, (0, (0, 0))), none, none, some (.iconst (-1), (0, (0, 0))), some (.ireturn, (0, (0, 0))), some (.aload 6, (0, (0, 0))), none, some (.iload_n 2, (0, (0, 0))), some (.iload_n 3, (0, (0, 0))), some (.iload 4, (0, (0, 0))), none, some (.invokevirtual 130, (4, (3, 1))), none, none, some (.istore 7, (0, (0, 0))), none, some (.iload 7, (0, (0, 0))), none, some (.ifCond .ge 5, (0, (0, 0))), none, none, some (.iconst (-1), (0, (0, 0))), some (.ireturn, (0, (0, 0))), some (.iload 5, (0, (0, 0))), none, some (.ifCond .ne 14, (0, (0, 0))), none, none, some (.aload 6, (0, (0, 0))), none, some (.getfield 160, (0, (0, 1))), none, none, some (.iload 7, (0, (0, 0))), none, some (.iaload, (0, (0, 0))), some (.goto 11, (0, (0, 0))), none, none, some (.aload 6, (0, (0, 0))), none, some (.getfield 164, (0, (1, 1))), none, none, some (.iload 7, (0, (0, 0))), none, some (.iaload, (0, (0, 0))), some (.ireturn, (0, (0, 0)))]
def mt_71 : MT := ((yX7_stepOf, (cX7_stepOf, (8, (some .int)))), (7, (tb_71, [(23, []), (67, [])])))
def tb_72 : List (Option IE) := [some (.aload_n 0, (0, (0, 0))), some (.aload_n 0, (0, (0, 0))), some (.getfield 24, (7, (2, 0))), none, none, some (.iconst 1, (0, (0, 0))), some (.isub, (0, (0, 0))), some (.invokevirtual 120, (75, (1, 2))), none, none, some (.astore_n 1, (0, (0, 0))), some (.aload_n 1, (0, (0, 0))), some (.ifnonnull 6, (0, (0, 0))), none, none, some (.bipush (-4), (0, (0, 0))), none, some (.ireturn, (0, (0, 0))), some (.aload_n 1, (0, (0, 0))), some (.getfield 134, (0, (5, 2))), none, none, some (.ifCond .eq 6, (0, (0, 0))), none, none, some (.bipush (-2), (0, (0, 0))), none, some (.ireturn, (0, (0, 0))), some (.aload_n 0, (0, (0, 0))), some (.dup, (0, (0, 0))), some (.getfield 24, (7, (2, 0))), none, none, some (.iconst 1, (0, (0, 0))), some (.isub, (0, (0, 0))), some (.putfield 24, (7, (2, 0))), none, none, some (.aload_n 0, (0, (0, 0))), some (.invokevirtual 141, (78, (0, 0))), none, none, some (.aload_n 0, (0, (0, 0))), some (.getfield 24, (7, (2, 0))), none, none, some (.ireturn, (0, (0, 0)))]
def mt_72 : MT := ((yX7_drop, (cX7_drop, (2, (some .int)))), (7, (tb_72, [])))
def tb_73 : List (Option IE) := [some (.aload_n 0, (0, (0, 0))), some (.iload_n 1, (0, (0, 0))), some (.invokevirtual 120, (75, (1, 2))), none, none, some (.astore_n 2, (0, (0, 0))), some (.aload_n 2, (0, (0, 0))), some (.ifnonnull 5, (0, (0, 0))), none, none, some (.iconst (-1), (0, (0, 0))), some (.ireturn, (0, (0, 0))), some (.aload_n 0, (0, (0, 0))), some (.invokevirtual 108, (76, (0, 2))), none, none, some (.aload_n 2, (0, (0, 0))), some (.invokevirtual 167, (2, (1, 0))), none, none, some (.aload_n 0, (0, (0, 0))), some (.invokevirtual 116, (77, (0, 1))), none, none, some (.ireturn, (0, (0, 0)))]
def mt_73 : MT := ((yX7_turned, (cX7_turned, (3, (some .int)))), (7, (tb_73, [])))
def tb_74 : List (Option IE) := [some (.aload_n 0, (0, (0, 0))), some (.iload_n 1, (0, (0, 0))), some (.invokevirtual 120, (75, (1, 2))), none, none, some (.astore 4, (0, (0, 0))), none, some (.aload_n 0, (0, (0, 0))), some (.iload_n 2, (0, (0, 0))), some (.invokevirtual 120, (75, (1, 2))), none, none, some (.astore 5, (0, (0, 0))), none, some (.aload 4, (0, (0, 0))), none, some (.ifnull 17, (0, (0, 0))), none, none, some (.aload 5, (0, (0, 0))), none, some (.ifnull 12, (0, (0, 0))), none, none, some (.iload_n 3, (0, (0, 0))), some (.ifCond .lt 8, (0, (0, 0))), none, none, some (.iload_n 3, (0, (0, 0))), some (.iconst 2, (0, (0, 0))), some (.if_icmp .le 5, (0, (0, 0))), none, none, some (.iconst (-1), (0, (0, 0))), some (.ireturn, (0, (0, 0))), some (.aload 4, (0, (0, 0))), none, some (.getfield 154, (0, (4, 0))), none, none, some (.ifCond .le 14, (0, (0, 0))), none, none, some (.aload 5, (0, (0, 0))), none, some (.getfield 154, (0, (4, 0))), none, none, some (.ifCond .le 6, (0, (0, 0))), none, none, some (.bipush (-2), (0, (0, 0))), none, some (.ireturn, (0, (0, 0))), some (.aload_n 0, (0, (0, 0))), some (.getfield 51, (7, (7, 1))), none, none, some (.aload_n 0, (0, (0, 0))), some (.invokevirtual 108, (76, (0, 2))), none, none, some (.aload 4, (0, (0, 0))), none, some (.aload 5, (0, (0, 0))), none, some (.iload_n 3, (0, (0, 0))), some (.invokevirtual 171, (17, (4, 3))), none, none, some (.ifCond .eq 10, (0, (0, 0))), none, none, some (.aload_n 0, (0, (0, 0))), some (.invokevirtual 116, (77, (0, 1))), none, none, some (.goto 5, (0, (0, 0))), none, none, some (.bipush (-2), (0, (0, 0))), none, some (.ireturn, (0, (0, 0)))]
def mt_74 : MT := ((yX7_both, (cX7_both, (6, (some .int)))), (7, (tb_74, [(33, []), (54, [0, 3, 4, 5]), (82, [])])))
def tb_75 : List (Option IE) := [some (.iload_n 1, (0, (0, 0))), some (.ifCond .lt 20, (0, (0, 0))), none, none, some (.iload_n 1, (0, (0, 0))), some (.aload_n 0, (0, (0, 0))), some (.getfield 24, (7, (2, 0))), none, none, some (.if_icmp .ge 12, (0, (0, 0))), none, none, some (.aload_n 0, (0, (0, 0))), some (.getfield 20, (7, (1, 1))), none, none, some (.iload_n 1, (0, (0, 0))), some (.aaload, (0, (0, 0))), some (.goto 4, (0, (0, 0))), none, none, some (.aconst_null, (0, (0, 0))), some (.areturn, (0, (0, 0)))]
def mt_75 : MT := ((yX7_machineAt, (cX7_machineAt, (2, (Option.some (FieldType.object "NameRows$Machine"))))), (7, (tb_75, [(21, []), (22, [])])))
def tb_76 : List (Option IE) := [some (.aload_n 0, (0, (0, 0))), some (.getfield 20, (7, (1, 1))), none, none, some (.aload_n 0, (0, (0, 0))), some (.getfield 24, (7, (2, 0))), none, none, some (.aaload, (0, (0, 0))), some (.areturn, (0, (0, 0)))]
def mt_76 : MT := ((yX7_spareMachine, (cX7_spareMachine, (1, (Option.some (FieldType.object "NameRows$Machine"))))), (7, (tb_76, [])))
def tb_77 : List (Option IE) := [some (.aload_n 0, (0, (0, 0))), some (.getfield 24, (7, (2, 0))), none, none, some (.bipush 6, (0, (0, 0))), none, some (.if_icmp .lt 6, (0, (0, 0))), none, none, some (.bipush (-3), (0, (0, 0))), none, some (.ireturn, (0, (0, 0))), some (.aload_n 0, (0, (0, 0))), some (.invokevirtual 141, (78, (0, 0))), none, none, some (.aload_n 0, (0, (0, 0))), some (.dup, (0, (0, 0))), some (.getfield 24, (7, (2, 0))), none, none, some (.iconst 1, (0, (0, 0))), some (.iadd, (0, (0, 0))), some (.putfield 24, (7, (2, 0))), none, none, some (.aload_n 0, (0, (0, 0))), some (.getfield 24, (7, (2, 0))), none, none, some (.iconst 1, (0, (0, 0))), some (.isub, (0, (0, 0))), some (.ireturn, (0, (0, 0)))]
def mt_77 : MT := ((yX7_addSpareMachine, (cX7_addSpareMachine, (1, (some .int)))), (7, (tb_77, [])))
def tb_78 : List (Option IE) := [some (.aload_n 0, (0, (0, 0))), some (.iconst 0, (0, (0, 0))), some (.putfield 72, (7, (11, 2))), none, none, some (.aload_n 0, (0, (0, 0))), some (.bipush (-4), (0, (0, 0))), none, some (.putfield 85, (7, (15, 0))), none, none, some (.return_, (0, (0, 0)))]
def mt_78 : MT := ((yX7_machinesChanged, (cX7_machinesChanged, (1, none))), (7, (tb_78, [])))
def tb_79 : List (Option IE) := [some (.aload_n 0, (0, (0, 0))), some (.iload_n 1, (0, (0, 0))), some (.invokevirtual 120, (75, (1, 2))), none, none, some (.astore_n 3, (0, (0, 0))), some (.aload_n 3, (0, (0, 0))), some (.ifnull 14, (0, (0, 0))), none, none, some (.aload_n 0, (0, (0, 0))), some (.getfield 14, (7, (0, 1))), none, none, some (.iload_n 2, (0, (0, 0))), some (.invokevirtual 94, (23, (1, 3))), none, none, some (.ifCond .ne 5, (0, (0, 0))), none, none, some (.iconst (-1), (0, (0, 0))), some (.ireturn, (0, (0, 0))), some (.aload_n 0, (0, (0, 0))), some (.aload_n 3, (0, (0, 0))), some (.iload_n 2, (0, (0, 0))), some (.invokevirtual 175, (82, (2, 0))), none, none, some (.aload_n 3, (0, (0, 0))), some (.aload_n 0, (0, (0, 0))), some (.getfield 58, (7, (8, 1))), none, none, some (.getfield 179, (3, (0, 0))), none, none, some (.invokevirtual 144, (7, (1, 3))), none, none, some (.ifCond .eq 7, (0, (0, 0))), none, none, some (.iconst 1, (0, (0, 0))), some (.goto 4, (0, (0, 0))), none, none, some (.iconst 0, (0, (0, 0))), some (.ireturn, (0, (0, 0)))]
def mt_79 : MT := ((yX7_takes, (cX7_takes, (4, (some .int)))), (7, (tb_79, [(21, []), (48, [])])))
def tb_80 : List (Option IE) := [some (.aload_n 0, (0, (0, 0))), some (.iload_n 1, (0, (0, 0))), some (.invokevirtual 120, (75, (1, 2))), none, none, some (.astore 4, (0, (0, 0))), none, some (.aload 4, (0, (0, 0))), none, some (.ifnull 14, (0, (0, 0))), none, none, some (.aload_n 0, (0, (0, 0))), some (.getfield 14, (7, (0, 1))), none, none, some (.iload_n 2, (0, (0, 0))), some (.invokevirtual 94, (23, (1, 3))), none, none, some (.ifCond .ne 5, (0, (0, 0))), none, none, some (.iconst (-1), (0, (0, 0))), some (.ireturn, (0, (0, 0))), some (.aload_n 0, (0, (0, 0))), some (.aload 4, (0, (0, 0))), none, some (.iload_n 2, (0, (0, 0))), some (.invokevirtual 175, (82, (2, 0))), none, none, some (.iload_n 3, (0, (0, 0))), some (.tableswitch 67 0 3 #[31, 39, 49, 59], (31, (0, 0))), none, none, none, none, none, none, none, none, none, none, none, none, none, none, none, none, none, none, none, none, none, none, none, none, none, none, none, none, none, none, some (.aload_n 0, (0, (0, 0))), some (.getfield 58, (7, (8, 1))), none, none, some (.getfield 179, (3, (0, 0))), none, none, some (.ireturn, (0, (0, 0))), some (.aload_n 0, (0, (0, 0))), some (.getfield 58, (7, (8, 1))), none, none, some (.getfield 182, (3, (2, 1))), none, none, some (.iconst 0, (0, (0, 0))), some (.iaload, (0, (0, 0))), some (.ireturn, (0, (0, 0))), some (.aload_n 0, (0, (0, 0))), some (.getfield 58, (7, (8, 1))), none, none, some (.getfield 182, (3, (2, 1))), none, none, some (.iconst 1, (0, (0, 0))), some (.iaload, (0, (0, 0))), some (.ireturn, (0, (0, 0))), some (.aload_n 0, (0, (0, 0))), some (.getfield 58, (7, (8, 1))), none, none, some (.getfield 185, (3, (3, 0))), none, none, some (.ireturn, (0, (0, 0))), some (.iconst (-1), (0, (0, 0))), some (.ireturn, (0, (0, 0)))]
def mt_80 : MT := ((yX7_ran, (cX7_ran, (5, (some .int)))), (7, (tb_80, [(23, [])])))
def tb_81 : List (Option IE) := [some (.aload_n 0, (0, (0, 0))), some (.iload_n 1, (0, (0, 0))), some (.invokevirtual 120, (75, (1, 2))), none, none, some (.astore_n 2, (0, (0, 0))), some (.aload_n 2, (0, (0, 0))), some (.ifnonnull 5, (0, (0, 0))), none, none, some (.iconst (-1), (0, (0, 0))), some (.ireturn, (0, (0, 0))), some (.aload_n 0, (0, (0, 0))), some (.aload_n 2, (0, (0, 0))), some (.invokevirtual 188, (83, (1, 0))), none, none, some (.aload_n 0, (0, (0, 0))), some (.getfield 58, (7, (8, 1))), none, none, some (.invokevirtual 191, (28, (0, 0))), none, none, some (.iconst 0, (0, (0, 0))), some (.istore_n 3, (0, (0, 0))), some (.iload_n 3, (0, (0, 0))), some (.aload_n 0, (0, (0, 0))), some (.getfield 14, (7, (0, 1))), none, none, some (.getfield 98, (2, (2, 0))), none, none, some (.if_icmp .ge 48, (0, (0, 0))), none, none, some (.aload_n 0, (0, (0, 0))), some (.getfield 58, (7, (8, 1))), none, none, some (.aload_n 2, (0, (0, 0))), some (.invokevirtual 193, (32, (1, 3))), none, none, some (.ifCond .eq 5, (0, (0, 0))), none, none, some (.iload_n 3, (0, (0, 0))), some (.ireturn, (0, (0, 0))), some (.aload_n 0, (0, (0, 0))), some (.getfield 58, (7, (8, 1))), none, none, some (.aload_n 2, (0, (0, 0))), some (.aload_n 0, (0, (0, 0))), some (.getfield 14, (7, (0, 1))), none, none, some (.getfield 197, (2, (0, 1))), none, none, some (.iload_n 3, (0, (0, 0))), some (.iaload, (0, (0, 0))), some (.aload_n 0, (0, (0, 0))), some (.getfield 14, (7, (0, 1))), none, none, some (.getfield 200, (2, (1, 1))), none, none, some (.iload_n 3, (0, (0, 0))), some (.iaload, (0, (0, 0))), some (.invokevirtual 203, (29, (3, 0))), none, none, some (.iinc 3 1, (0, (0, 0))), none, none, some (.goto (-53), (0, (0, 0))), none, none, some (.aload_n 0, (0, (0, 0))), some (.getfield 58, (7, (8, 1))), none, none, some (.aload_n 2, (0, (0, 0))), some (.invokevirtual 193, (32, (1, 3))), none, none, some (.ifCond .eq 13, (0, (0, 0))), none, none, some (.aload_n 0, (0, (0, 0))), some (.getfield 14, (7, (0, 1))), none, none, some (.getfield 98, (2, (2, 0))), none, none, some (.goto 5, (0, (0, 0))), none, none, some (.bipush (-4), (0, (0, 0))), none, some (.ireturn, (0, (0, 0)))]
def mt_81 : MT := ((yX7_doomed, (cX7_doomed, (4, (some .int)))), (7, (tb_81, [(26, [0, 2, 3]), (105, [])])))
def tb_82 : List (Option IE) := [some (.aload_n 0, (0, (0, 0))), some (.getfield 58, (7, (8, 1))), none, none, some (.invokevirtual 191, (28, (0, 0))), none, none, some (.iconst 0, (0, (0, 0))), some (.istore_n 3, (0, (0, 0))), some (.iload_n 3, (0, (0, 0))), some (.iload_n 2, (0, (0, 0))), some (.if_icmp .ge 46, (0, (0, 0))), none, none, some (.iload_n 3, (0, (0, 0))), some (.aload_n 0, (0, (0, 0))), some (.getfield 14, (7, (0, 1))), none, none, some (.getfield 98, (2, (2, 0))), none, none, some (.if_icmp .ge 35, (0, (0, 0))), none, none, some (.aload_n 0, (0, (0, 0))), some (.getfield 58, (7, (8, 1))), none, none, some (.aload_n 1, (0, (0, 0))), some (.aload_n 0, (0, (0, 0))), some (.getfield 14, (7, (0, 1))), none, none, some (.getfield 197, (2, (0, 1))), none, none, some (.iload_n 3, (0, (0, 0))), some (.iaload, (0, (0, 0))), some (.aload_n 0, (0, (0, 0))), some (.getfield 14, (7, (0, 1))), none, none, some (.getfield 200, (2, (1, 1))), none, none, some (.iload_n 3, (0, (0, 0))), some (.iaload, (0, (0, 0))), some (.invokevirtual 203, (29, (3, 0))), none, none, some (.iinc 3 1, (0, (0, 0))), none, none, some (.goto (-45), (0, (0, 0))), none, none, some (.return_, (0, (0, 0)))]
def mt_82 : MT := ((yX7_runOver, (cX7_runOver, (4, none))), (7, (tb_82, [(9, [0, 1, 2, 3]), (57, [])])))
def tb_83 : List (Option IE) := [some (.aload_n 1, (0, (0, 0))), some (.getfield 207, (0, (7, 2))), none, none, some (.ifCond .ne 15, (0, (0, 0))), none, none, some (.aload_n 0, (0, (0, 0))), some (.getfield 65, (7, (9, 1))), none, none, some (.aload_n 1, (0, (0, 0))), some (.aload_n 0, (0, (0, 0))), some (.getfield 44, (7, (6, 1))), none, none, some (.invokevirtual 210, (54, (2, 0))), none, none, some (.return_, (0, (0, 0)))]
def mt_83 : MT := ((yX7_learnOrbits, (cX7_learnOrbits, (2, none))), (7, (tb_83, [(19, [])])))
def tb_84 : List (Option IE) := [some (.aload_n 0, (0, (0, 0))), some (.iload_n 1, (0, (0, 0))), some (.invokevirtual 120, (75, (1, 2))), none, none, some (.astore_n 3, (0, (0, 0))), some (.aload_n 3, (0, (0, 0))), some (.ifnonnull 5, (0, (0, 0))), none, none, some (.iconst (-1), (0, (0, 0))), some (.ireturn, (0, (0, 0))), some (.aload_n 0, (0, (0, 0))), some (.aload_n 3, (0, (0, 0))), some (.invokevirtual 188, (83, (1, 0))), none, none, some (.iload_n 2, (0, (0, 0))), some (.tableswitch 49 0 2 #[26, 38, 44], (26, (0, 0))), none, none, none, none, none, none, none, none, none, none, none, none, none, none, none, none, none, none, none, none, none, none, none, none, none, some (.aload_n 3, (0, (0, 0))), some (.iconst 1, (0, (0, 0))), some (.invokevirtual 214, (13, (1, 1))), none, none, some (.aload_n 3, (0, (0, 0))), some (.iconst 2, (0, (0, 0))), some (.invokevirtual 214, (13, (1, 1))), none, none, some (.iadd, (0, (0, 0))), some (.ireturn, (0, (0, 0))), some (.aload_n 3, (0, (0, 0))), some (.iconst 2, (0, (0, 0))), some (.invokevirtual 214, (13, (1, 1))), none, none, some (.ireturn, (0, (0, 0))), some (.aload_n 3, (0, (0, 0))), some (.invokevirtual 217, (14, (0, 1))), none, none, some (.ireturn, (0, (0, 0))), some (.iconst (-1), (0, (0, 0))), some (.ireturn, (0, (0, 0)))]
def mt_84 : MT := ((yX7_orbits, (cX7_orbits, (4, (some .int)))), (7, (tb_84, [])))
def tb_85 : List (Option IE) := [some (.aload_n 0, (0, (0, 0))), some (.iload_n 1, (0, (0, 0))), some (.bipush (-4), (0, (0, 0))), none, some (.invokevirtual 220, (91, (2, 1))), none, none, some (.ireturn, (0, (0, 0)))]
def mt_85 : MT := ((yX7_shortest, (cX7_shortest, (2, (some .int)))), (7, (tb_85, [])))
def tb_86 : List (Option IE) := [some (.aload_n 0, (0, (0, 0))), some (.iload_n 1, (0, (0, 0))), some (.bipush (-4), (0, (0, 0))), none, some (.iload_n 2, (0, (0, 0))), some (.iload_n 3, (0, (0, 0))), some (.invokevirtual 223, (92, (4, 1))), none, none, some (.ireturn, (0, (0, 0)))]
def mt_86 : MT := ((yX7_shortestAt, (cX7_shortestAt, (4, (some .int)))), (7, (tb_86, [])))
def tb_87 : List (Option IE) := [some (.aload_n 0, (0, (0, 0))), some (.iload_n 2, (0, (0, 0))), some (.invokevirtual 120, (75, (1, 2))), none, none, some (.ifnonnull 7, (0, (0, 0))), none, none, some (.iconst (-1), (0, (0, 0))), some (.goto 9, (0, (0, 0))), none, none, some (.aload_n 0, (0, (0, 0))), some (.iload_n 1, (0, (0, 0))), some (.iload_n 2, (0, (0, 0))), some (.invokevirtual 220, (91, (2, 1))), none, none, some (.ireturn, (0, (0, 0)))]
def mt_87 : MT := ((yX7_parts, (cX7_parts, (3, (some .int)))), (7, (tb_87, [(18, [])])))
def tb_88 : List (Option IE) := [some (.aload_n 0, (0, (0, 0))), some (.iload_n 2, (0, (0, 0))), some (.invokevirtual 120, (75, (1, 2))), none, none, some (.ifnonnull 7, (0, (0, 0))), none, none, some (.iconst (-1), (0, (0, 0))), some (.goto 12, (0, (0, 0))), none, none, some (.aload_n 0, (0, (0, 0))), some (.iload_n 1, (0, (0, 0))), some (.iload_n 2, (0, (0, 0))), some (.iload_n 3, (0, (0, 0))), some (.iload 4, (0, (0, 0))), none, some (.invokevirtual 223, (92, (4, 1))), none, none, some (.ireturn, (0, (0, 0)))]
def mt_88 : MT := ((yX7_partsAt, (cX7_partsAt, (5, (some .int)))), (7, (tb_88, [(21, [])])))
def tb_89 : List (Option IE) := [some (.aload_n 0, (0, (0, 0))), some (.iload_n 1, (0, (0, 0))), some (.invokevirtual 120, (75, (1, 2))), none, none, some (.astore_n 3, (0, (0, 0))), some (.aload_n 0, (0, (0, 0))), some (.iload_n 2, (0, (0, 0))), some (.invokevirtual 120, (75, (1, 2))), none, none, some (.astore 4, (0, (0, 0))), none, some (.aload_n 3, (0, (0, 0))), some (.ifnull 8, (0, (0, 0))), none, none, some (.aload 4, (0, (0, 0))), none, some (.ifnonnull 5, (0, (0, 0))), none, none, some (.iconst (-1), (0, (0, 0))), some (.ireturn, (0, (0, 0))), some (.aload_n 0, (0, (0, 0))), some (.getfield 65, (7, (9, 1))), none, none, some (.aload_n 3, (0, (0, 0))), some (.aload 4, (0, (0, 0))), none, some (.iconst 2, (0, (0, 0))), some (.invokevirtual 227, (41, (3, 1))), none, none, some (.bipush (-4), (0, (0, 0))), none, some (.if_icmp .ne 7, (0, (0, 0))), none, none, some (.iconst 1, (0, (0, 0))), some (.goto 4, (0, (0, 0))), none, none, some (.iconst 0, (0, (0, 0))), some (.ireturn, (0, (0, 0)))]
def mt_89 : MT := ((yX7_within, (cX7_within, (5, (some .int)))), (7, (tb_89, [(22, []), (45, [])])))
def tb_90 : List (Option IE) := [some (.aload_n 0, (0, (0, 0))), some (.iload_n 1, (0, (0, 0))), some (.iload_n 2, (0, (0, 0))), some (.invokevirtual 220, (91, (2, 1))), none, none, some (.istore_n 3, (0, (0, 0))), some (.iload_n 3, (0, (0, 0))), some (.bipush 40, (0, (0, 0))), none, some (.if_icmp .le 6, (0, (0, 0))), none, none, some (.bipush (-3), (0, (0, 0))), none, some (.ireturn, (0, (0, 0))), some (.iload_n 3, (0, (0, 0))), some (.ifCond .lt 14, (0, (0, 0))), none, none, some (.aload_n 0, (0, (0, 0))), some (.getfield 14, (7, (0, 1))), none, none, some (.aload_n 0, (0, (0, 0))), some (.getfield 69, (7, (10, 1))), none, none, some (.invokevirtual 231, (26, (1, 0))), none, none, some (.iload_n 3, (0, (0, 0))), some (.ireturn, (0, (0, 0)))]
def mt_90 : MT := ((yX7_show, (cX7_show, (4, (some .int)))), (7, (tb_90, [(31, [3])])))
def tb_91 : List (Option IE) := [some (.aload_n 0, (0, (0, 0))), some (.iload_n 1, (0, (0, 0))), some (.invokevirtual 120, (75, (1, 2))), none, none, some (.astore_n 3, (0, (0, 0))), some (.iload_n 2, (0, (0, 0))), some (.bipush (-4), (0, (0, 0))), none, some (.if_icmp .ne 10, (0, (0, 0))), none, none, some (.aload_n 0, (0, (0, 0))), some (.getfield 44, (7, (6, 1))), none, none, some (.goto 8, (0, (0, 0))), none, none, some (.aload_n 0, (0, (0, 0))), some (.iload_n 2, (0, (0, 0))), some (.invokevirtual 120, (75, (1, 2))), none, none, some (.astore 4, (0, (0, 0))), none, some (.aload_n 3, (0, (0, 0))), some (.ifnull 8, (0, (0, 0))), none, none, some (.aload 4, (0, (0, 0))), none, some (.ifnonnull 5, (0, (0, 0))), none, none, some (.iconst (-1), (0, (0, 0))), some (.ireturn, (0, (0, 0))), some (.aload_n 0, (0, (0, 0))), some (.getfield 72, (7, (11, 2))), none, none, some (.ifCond .eq 19, (0, (0, 0))), none, none, some (.iload_n 1, (0, (0, 0))), some (.aload_n 0, (0, (0, 0))), some (.getfield 76, (7, (12, 0))), none, none, some (.if_icmp .ne 11, (0, (0, 0))), none, none, some (.iload_n 2, (0, (0, 0))), some (.aload_n 0, (0, (0, 0))), some (.getfield 79, (7, (13, 0))), none, none, some (.if_icmp .eq 85, (0, (0, 0))), none, none, some (.aload_n 0, (0, (0, 0))), some (.getfield 65, (7, (9, 1))), none, none, some (.aload_n 3, (0, (0, 0))), some (.aload 4, (0, (0, 0))), none, some (.iconst 1, (0, (0, 0))), some (.invokevirtual 227, (41, (3, 1))), none, none, some (.istore 5, (0, (0, 0))), none, some (.iload 5, (0, (0, 0))), none, some (.bipush (-4), (0, (0, 0))), none, some (.if_icmp .ne 12, (0, (0, 0))), none, none, some (.aload_n 0, (0, (0, 0))), some (.bipush (-4), (0, (0, 0))), none, some (.putfield 82, (7, (14, 0))), none, none, some (.goto 41, (0, (0, 0))), none, none, some (.aload_n 0, (0, (0, 0))), some (.getfield 65, (7, (9, 1))), none, none, some (.iload 5, (0, (0, 0))), none, some (.aload_n 0, (0, (0, 0))), some (.getfield 69, (7, (10, 1))), none, none, some (.invokevirtual 235, (52, (2, 0))), none, none, some (.aload_n 0, (0, (0, 0))), some (.getfield 65, (7, (9, 1))), none, none, some (.aload_n 3, (0, (0, 0))), some (.aload 4, (0, (0, 0))), none, some (.aload_n 0, (0, (0, 0))), some (.getfield 69, (7, (10, 1))), none, none, some (.invokevirtual 239, (53, (3, 0))), none, none, some (.aload_n 0, (0, (0, 0))), some (.aload_n 0, (0, (0, 0))), some (.getfield 69, (7, (10, 1))), none, none, some (.getfield 98, (2, (2, 0))), none, none, some (.putfield 82, (7, (14, 0))), none, none, some (.aload_n 0, (0, (0, 0))), some (.iload_n 1, (0, (0, 0))), some (.putfield 76, (7, (12, 0))), none, none, some (.aload_n 0, (0, (0, 0))), some (.iload_n 2, (0, (0, 0))), some (.putfield 79, (7, (13, 0))), none, none, some (.aload_n 0, (0, (0, 0))), some (.iconst 1, (0, (0, 0))), some (.putfield 72, (7, (11, 2))), none, none, some (.aload_n 0, (0, (0, 0))), some (.getfield 82, (7, (14, 0))), none, none, some (.ireturn, (0, (0, 0)))]
def mt_91 : MT := ((yX7_findLeast, (cX7_findLeast, (6, (some .int)))), (7, (tb_91, [(24, [0, 1, 2, 3]), (35, []), (60, [0, 1, 2, 3, 4]), (127, [0, 1, 2]), (142, [0])])))
def tb_92 : List (Option IE) := [some (.iload_n 3, (0, (0, 0))), some (.ifCond .lt 35, (0, (0, 0))), none, none, some (.iload_n 3, (0, (0, 0))), some (.aload_n 0, (0, (0, 0))), some (.iload_n 1, (0, (0, 0))), some (.iload_n 2, (0, (0, 0))), some (.invokevirtual 220, (91, (2, 1))), none, none, some (.if_icmp .ge 25, (0, (0, 0))), none, none, some (.aload_n 0, (0, (0, 0))), some (.getfield 69, (7, (10, 1))), none, none, some (.iload_n 3, (0, (0, 0))), some (.invokevirtual 101, (22, (1, 3))), none, none, some (.ifCond .eq 14, (0, (0, 0))), none, none, some (.iload 4, (0, (0, 0))), none, some (.ifCond .lt 9, (0, (0, 0))), none, none, some (.iload 4, (0, (0, 0))), none, some (.iconst 1, (0, (0, 0))), some (.if_icmp .le 5, (0, (0, 0))), none, none, some (.iconst (-1), (0, (0, 0))), some (.ireturn, (0, (0, 0))), some (.iload 4, (0, (0, 0))), none, some (.ifCond .ne 15, (0, (0, 0))), none, none, some (.aload_n 0, (0, (0, 0))), some (.getfield 69, (7, (10, 1))), none, none, some (.getfield 197, (2, (0, 1))), none, none, some (.iload_n 3, (0, (0, 0))), some (.iaload, (0, (0, 0))), some (.goto 12, (0, (0, 0))), none, none, some (.aload_n 0, (0, (0, 0))), some (.getfield 69, (7, (10, 1))), none, none, some (.getfield 200, (2, (1, 1))), none, none, some (.iload_n 3, (0, (0, 0))), some (.iaload, (0, (0, 0))), some (.ireturn, (0, (0, 0)))]
def mt_92 : MT := ((yX7_leastAt, (cX7_leastAt, (5, (some .int)))), (7, (tb_92, [(36, []), (64, [])])))
def tb_93 : List (Option IE) := [some (.aload_n 0, (0, (0, 0))), some (.iload_n 1, (0, (0, 0))), some (.invokevirtual 120, (75, (1, 2))), none, none, some (.astore_n 2, (0, (0, 0))), some (.aload_n 2, (0, (0, 0))), some (.ifnonnull 5, (0, (0, 0))), none, none, some (.iconst (-1), (0, (0, 0))), some (.ireturn, (0, (0, 0))), some (.aload_n 0, (0, (0, 0))), some (.getfield 34, (7, (4, 0))), none, none, some (.iconst 4, (0, (0, 0))), some (.if_icmp .lt 6, (0, (0, 0))), none, none, some (.bipush (-3), (0, (0, 0))), none, some (.ireturn, (0, (0, 0))), some (.aload_n 0, (0, (0, 0))), some (.aload_n 2, (0, (0, 0))), some (.invokevirtual 188, (83, (1, 0))), none, none, some (.aload_n 2, (0, (0, 0))), some (.iconst 1, (0, (0, 0))), some (.putfield 134, (0, (5, 2))), none, none, some (.aload_n 0, (0, (0, 0))), some (.getfield 30, (7, (3, 1))), none, none, some (.aload_n 0, (0, (0, 0))), some (.getfield 34, (7, (4, 0))), none, none, some (.aaload, (0, (0, 0))), some (.aload_n 2, (0, (0, 0))), some (.invokevirtual 243, (59, (1, 0))), none, none, some (.aload_n 0, (0, (0, 0))), some (.dup, (0, (0, 0))), some (.getfield 34, (7, (4, 0))), none, none, some (.iconst 1, (0, (0, 0))), some (.iadd, (0, (0, 0))), some (.putfield 34, (7, (4, 0))), none, none, some (.aload_n 0, (0, (0, 0))), some (.getfield 34, (7, (4, 0))), none, none, some (.iconst 1, (0, (0, 0))), some (.isub, (0, (0, 0))), some (.ireturn, (0, (0, 0)))]
def mt_93 : MT := ((yX7_watch, (cX7_watch, (3, (some .int)))), (7, (tb_93, [])))
def tb_94 : List (Option IE) := [some (.aload_n 0, (0, (0, 0))), some (.iload_n 1, (0, (0, 0))), some (.invokevirtual 245, (96, (1, 2))), none, none, some (.astore 4, (0, (0, 0))), none, some (.aload 4, (0, (0, 0))), none, some (.ifnull 12, (0, (0, 0))), none, none, some (.iload_n 2, (0, (0, 0))), some (.ifCond .lt 8, (0, (0, 0))), none, none, some (.iload_n 2, (0, (0, 0))), some (.iconst 3, (0, (0, 0))), some (.if_icmp .lt 5, (0, (0, 0))), none, none, some (.iconst (-1), (0, (0, 0))), some (.ireturn, (0, (0, 0))), some (.aload 4, (0, (0, 0))), none, some (.iload_n 2, (0, (0, 0))), some (.iload_n 3, (0, (0, 0))), some (.invokevirtual 249, (61, (2, 1))), none, none, some (.ireturn, (0, (0, 0)))]
def mt_94 : MT := ((yX7_see, (cX7_see, (5, (some .int)))), (7, (tb_94, [(21, [])])))
def tb_95 : List (Option IE) := [some (.aload_n 0, (0, (0, 0))), some (.iload_n 1, (0, (0, 0))), some (.invokevirtual 245, (96, (1, 2))), none, none, some (.astore_n 3, (0, (0, 0))), some (.aload_n 3, (0, (0, 0))), some (.ifnonnull 5, (0, (0, 0))), none, none, some (.iconst (-1), (0, (0, 0))), some (.ireturn, (0, (0, 0))), some (.iload_n 2, (0, (0, 0))), some (.tableswitch 57 0 3 #[31, 39, 47, 52], (31, (0, 0))), none, none, none, none, none, none, none, none, none, none, none, none, none, none, none, none, none, none, none, none, none, none, none, none, none, none, none, none, none, none, some (.aload_n 3, (0, (0, 0))), some (.getfield 252, (6, (0, 1))), none, none, some (.getfield 253, (3, (4, 0))), none, none, some (.ireturn, (0, (0, 0))), some (.aload_n 3, (0, (0, 0))), some (.getfield 252, (6, (0, 1))), none, none, some (.getfield 179, (3, (0, 0))), none, none, some (.ireturn, (0, (0, 0))), some (.aload_n 3, (0, (0, 0))), some (.getfield 256, (6, (2, 0))), none, none, some (.ireturn, (0, (0, 0))), some (.aload_n 3, (0, (0, 0))), some (.getfield 259, (6, (3, 0))), none, none, some (.ireturn, (0, (0, 0))), some (.iconst (-1), (0, (0, 0))), some (.ireturn, (0, (0, 0)))]
def mt_95 : MT := ((yX7_seen, (cX7_seen, (4, (some .int)))), (7, (tb_95, [])))
def tb_96 : List (Option IE) := [some (.iload_n 1, (0, (0, 0))), some (.ifCond .lt 20, (0, (0, 0))), none, none, some (.iload_n 1, (0, (0, 0))), some (.aload_n 0, (0, (0, 0))), some (.getfield 34, (7, (4, 0))), none, none, some (.if_icmp .ge 12, (0, (0, 0))), none, none, some (.aload_n 0, (0, (0, 0))), some (.getfield 30, (7, (3, 1))), none, none, some (.iload_n 1, (0, (0, 0))), some (.aaload, (0, (0, 0))), some (.goto 4, (0, (0, 0))), none, none, some (.aconst_null, (0, (0, 0))), some (.areturn, (0, (0, 0)))]
def mt_96 : MT := ((yX7_watchAt, (cX7_watchAt, (2, (Option.some (FieldType.object "NameRows$Watch"))))), (7, (tb_96, [(21, []), (22, [])])))
def tb_97 : List (Option IE) := [some (.aload_n 0, (0, (0, 0))), some (.iload_n 1, (0, (0, 0))), some (.invokevirtual 262, (101, (1, 2))), none, none, some (.astore 4, (0, (0, 0))), none, some (.aload 4, (0, (0, 0))), none, some (.ifnull 18, (0, (0, 0))), none, none, some (.iload_n 2, (0, (0, 0))), some (.ifCond .lt 14, (0, (0, 0))), none, none, some (.iload_n 2, (0, (0, 0))), some (.iconst 3, (0, (0, 0))), some (.if_icmp .ge 9, (0, (0, 0))), none, none, some (.iload_n 3, (0, (0, 0))), some (.bipush 60, (0, (0, 0))), none, some (.if_icmp .le 5, (0, (0, 0))), none, none, some (.iconst (-1), (0, (0, 0))), some (.ireturn, (0, (0, 0))), some (.iload_n 3, (0, (0, 0))), some (.ifCond .ge 6, (0, (0, 0))), none, none, some (.bipush (-14), (0, (0, 0))), none, some (.ireturn, (0, (0, 0))), some (.aload 4, (0, (0, 0))), none, some (.iload_n 2, (0, (0, 0))), some (.iload_n 3, (0, (0, 0))), some (.invokevirtual 266, (35, (2, 0))), none, none, some (.iconst 1, (0, (0, 0))), some (.ireturn, (0, (0, 0)))]
def mt_97 : MT := ((yX7_sheet, (cX7_sheet, (5, (some .int)))), (7, (tb_97, [(27, [])])))
def tb_98 : List (Option IE) := [some (.aload_n 0, (0, (0, 0))), some (.iload_n 1, (0, (0, 0))), some (.invokevirtual 262, (101, (1, 2))), none, none, some (.astore 4, (0, (0, 0))), none, some (.aload 4, (0, (0, 0))), none, some (.ifnonnull 5, (0, (0, 0))), none, none, some (.iconst (-1), (0, (0, 0))), some (.ireturn, (0, (0, 0))), some (.aload 4, (0, (0, 0))), none, some (.invokevirtual 267, (36, (0, 3))), none, none, some (.ifCond .eq 6, (0, (0, 0))), none, none, some (.bipush (-11), (0, (0, 0))), none, some (.ireturn, (0, (0, 0))), some (.aload 4, (0, (0, 0))), none, some (.iload_n 2, (0, (0, 0))), some (.invokevirtual 271, (37, (1, 3))), none, none, some (.ifCond .ne 6, (0, (0, 0))), none, none, some (.bipush (-12), (0, (0, 0))), none, some (.ireturn, (0, (0, 0))), some (.aload 4, (0, (0, 0))), none, some (.iload_n 2, (0, (0, 0))), some (.iload_n 3, (0, (0, 0))), some (.invokevirtual 274, (38, (2, 0))), none, none, some (.iconst 1, (0, (0, 0))), some (.ireturn, (0, (0, 0)))]
def mt_98 : MT := ((yX7_lay, (cX7_lay, (5, (some .int)))), (7, (tb_98, [])))
def tb_99 : List (Option IE) := [some (.aload_n 0, (0, (0, 0))), some (.iload_n 1, (0, (0, 0))), some (.invokevirtual 262, (101, (1, 2))), none, none, some (.astore 5, (0, (0, 0))), none, some (.aload 5, (0, (0, 0))), none, some (.ifnull 24, (0, (0, 0))), none, none, some (.iload_n 2, (0, (0, 0))), some (.ifCond .lt 20, (0, (0, 0))), none, none, some (.iload_n 2, (0, (0, 0))), some (.iconst 3, (0, (0, 0))), some (.if_icmp .ge 15, (0, (0, 0))), none, none, some (.iload 4, (0, (0, 0))), none, some (.ifCond .lt 10, (0, (0, 0))), none, none, some (.iload 4, (0, (0, 0))), none, some (.bipush 30, (0, (0, 0))), none, some (.if_icmp .le 5, (0, (0, 0))), none, none, some (.iconst (-1), (0, (0, 0))), some (.ireturn, (0, (0, 0))), some (.aload 5, (0, (0, 0))), none, some (.invokevirtual 267, (36, (0, 3))), none, none, some (.ifCond .eq 6, (0, (0, 0))), none, none, some (.bipush (-11), (0, (0, 0))), none, some (.ireturn, (0, (0, 0))), some (.aload 5, (0, (0, 0))), none, some (.getfield 277, (4, (1, 0))), none, none, some (.iload_n 2, (0, (0, 0))), some (.if_icmp .eq 6, (0, (0, 0))), none, none, some (.bipush (-13), (0, (0, 0))), none, some (.ireturn, (0, (0, 0))), some (.aload_n 0, (0, (0, 0))), some (.getfield 14, (7, (0, 1))), none, none, some (.getfield 98, (2, (2, 0))), none, none, some (.istore 6, (0, (0, 0))), none, some (.iconst 0, (0, (0, 0))), some (.istore 7, (0, (0, 0))), none, some (.iload 7, (0, (0, 0))), none, some (.iload 4, (0, (0, 0))), none, some (.if_icmp .ge 40, (0, (0, 0))), none, none, some (.aload_n 0, (0, (0, 0))), some (.aload 5, (0, (0, 0))), none, some (.iload_n 3, (0, (0, 0))), some (.iconst 2, (0, (0, 0))), some (.iload 7, (0, (0, 0))), none, some (.imul, (0, (0, 0))), some (.iadd, (0, (0, 0))), some (.invokevirtual 280, (100, (2, 1))), none, none, some (.istore 8, (0, (0, 0))), none, some (.iload 8, (0, (0, 0))), none, some (.ifCond .ge 15, (0, (0, 0))), none, none, some (.aload_n 0, (0, (0, 0))), some (.getfield 14, (7, (0, 1))), none, none, some (.iload 6, (0, (0, 0))), none, some (.putfield 98, (2, (2, 0))), none, none, some (.iload 8, (0, (0, 0))), none, some (.ireturn, (0, (0, 0))), some (.iinc 7 1, (0, (0, 0))), none, none, some (.goto (-41), (0, (0, 0))), none, none, some (.aload_n 0, (0, (0, 0))), some (.getfield 14, (7, (0, 1))), none, none, some (.getfield 98, (2, (2, 0))), none, none, some (.ireturn, (0, (0, 0)))]
def mt_99 : MT := ((yX7_scan, (cX7_scan, (9, (some .int)))), (7, (tb_99, [(33, []), (70, [0, 3, 4, 5, 6, 7])])))
def tb_100 : List (Option IE) := [some (.aload_n 1, (0, (0, 0))), some (.iload_n 2, (0, (0, 0))), some (.invokevirtual 271, (37, (1, 3))), none, none, some (.ifCond .eq 13, (0, (0, 0))), none, none, some (.aload_n 1, (0, (0, 0))), some (.iload_n 2, (0, (0, 0))), some (.iconst 1, (0, (0, 0))), some (.iadd, (0, (0, 0))), some (.invokevirtual 271, (37, (1, 3))), none, none, some (.ifCond .ne 6, (0, (0, 0))), none, none, some (.bipush (-12), (0, (0, 0))), none, some (.ireturn, (0, (0, 0))), some (.aload_n 0, (0, (0, 0))), some (.getfield 14, (7, (0, 1))), none, none, some (.aload_n 1, (0, (0, 0))), some (.getfield 284, (4, (0, 1))), none, none, some (.iload_n 2, (0, (0, 0))), some (.iaload, (0, (0, 0))), some (.aload_n 1, (0, (0, 0))), some (.getfield 284, (4, (0, 1))), none, none, some (.iload_n 2, (0, (0, 0))), some (.iconst 1, (0, (0, 0))), some (.iadd, (0, (0, 0))), some (.iaload, (0, (0, 0))), some (.invokevirtual 90, (24, (2, 1))), none, none, some (.istore_n 3, (0, (0, 0))), some (.iload_n 3, (0, (0, 0))), some (.ifCond .ge 10, (0, (0, 0))), none, none, some (.bipush (-20), (0, (0, 0))), none, some (.iload_n 3, (0, (0, 0))), some (.iadd, (0, (0, 0))), some (.goto 4, (0, (0, 0))), none, none, some (.iload_n 3, (0, (0, 0))), some (.ireturn, (0, (0, 0)))]
def mt_100 : MT := ((yX7_scanPlace, (cX7_scanPlace, (4, (some .int)))), (7, (tb_100, [(18, []), (55, [])])))
def tb_101 : List (Option IE) := [some (.iload_n 1, (0, (0, 0))), some (.ifCond .lt 21, (0, (0, 0))), none, none, some (.iload_n 1, (0, (0, 0))), some (.aload_n 0, (0, (0, 0))), some (.getfield 39, (7, (5, 1))), none, none, some (.arraylength, (0, (0, 0))), some (.if_icmp .ge 12, (0, (0, 0))), none, none, some (.aload_n 0, (0, (0, 0))), some (.getfield 39, (7, (5, 1))), none, none, some (.iload_n 1, (0, (0, 0))), some (.aaload, (0, (0, 0))), some (.goto 4, (0, (0, 0))), none, none, some (.aconst_null, (0, (0, 0))), some (.areturn, (0, (0, 0)))]
def mt_101 : MT := ((yX7_sheetAt, (cX7_sheetAt, (2, (Option.some (FieldType.object "NameRows$Sheet"))))), (7, (tb_101, [(22, []), (23, [])])))
def tb_102 : List (Option IE) := [some (.iload_n 1, (0, (0, 0))), some (.tableswitch 63 0 4 #[35, 43, 48, 53, 58], (35, (0, 0))), none, none, none, none, none, none, none, none, none, none, none, none, none, none, none, none, none, none, none, none, none, none, none, none, none, none, none, none, none, none, none, none, none, none, some (.aload_n 0, (0, (0, 0))), some (.getfield 14, (7, (0, 1))), none, none, some (.getfield 98, (2, (2, 0))), none, none, some (.ireturn, (0, (0, 0))), some (.aload_n 0, (0, (0, 0))), some (.getfield 24, (7, (2, 0))), none, none, some (.ireturn, (0, (0, 0))), some (.aload_n 0, (0, (0, 0))), some (.getfield 34, (7, (4, 0))), none, none, some (.ireturn, (0, (0, 0))), some (.aload_n 0, (0, (0, 0))), some (.invokevirtual 287, (103, (0, 1))), none, none, some (.ireturn, (0, (0, 0))), some (.aload_n 0, (0, (0, 0))), some (.invokevirtual 290, (104, (0, 1))), none, none, some (.ireturn, (0, (0, 0))), some (.iconst (-1), (0, (0, 0))), some (.ireturn, (0, (0, 0)))]
def mt_102 : MT := ((yX7_count, (cX7_count, (2, (some .int)))), (7, (tb_102, [])))
def tb_103 : List (Option IE) := [some (.iconst 0, (0, (0, 0))), some (.istore_n 1, (0, (0, 0))), some (.iconst 0, (0, (0, 0))), some (.istore_n 2, (0, (0, 0))), some (.iload_n 2, (0, (0, 0))), some (.aload_n 0, (0, (0, 0))), some (.getfield 34, (7, (4, 0))), none, none, some (.if_icmp .ge 24, (0, (0, 0))), none, none, some (.aload_n 0, (0, (0, 0))), some (.getfield 30, (7, (3, 1))), none, none, some (.iload_n 2, (0, (0, 0))), some (.aaload, (0, (0, 0))), some (.invokevirtual 293, (60, (0, 3))), none, none, some (.ifCond .eq 6, (0, (0, 0))), none, none, some (.iinc 1 1, (0, (0, 0))), none, none, some (.iinc 2 1, (0, (0, 0))), none, none, some (.goto (-26), (0, (0, 0))), none, none, some (.iload_n 1, (0, (0, 0))), some (.ireturn, (0, (0, 0)))]
def mt_103 : MT := ((yX7_watchesDone, (cX7_watchesDone, (3, (some .int)))), (7, (tb_103, [(4, [0, 1, 2]), (27, [0, 1, 2])])))
def tb_104 : List (Option IE) := [some (.aload_n 0, (0, (0, 0))), some (.getfield 85, (7, (15, 0))), none, none, some (.bipush (-4), (0, (0, 0))), none, some (.if_icmp .ne 37, (0, (0, 0))), none, none, some (.iconst 0, (0, (0, 0))), some (.istore_n 1, (0, (0, 0))), some (.iconst 0, (0, (0, 0))), some (.istore_n 2, (0, (0, 0))), some (.iload_n 2, (0, (0, 0))), some (.aload_n 0, (0, (0, 0))), some (.getfield 24, (7, (2, 0))), none, none, some (.if_icmp .ge 20, (0, (0, 0))), none, none, some (.aload_n 0, (0, (0, 0))), some (.iload_n 2, (0, (0, 0))), some (.invokevirtual 296, (105, (1, 3))), none, none, some (.ifCond .ne 6, (0, (0, 0))), none, none, some (.iinc 1 1, (0, (0, 0))), none, none, some (.iinc 2 1, (0, (0, 0))), none, none, some (.goto (-22), (0, (0, 0))), none, none, some (.aload_n 0, (0, (0, 0))), some (.iload_n 1, (0, (0, 0))), some (.putfield 85, (7, (15, 0))), none, none, some (.aload_n 0, (0, (0, 0))), some (.getfield 85, (7, (15, 0))), none, none, some (.ireturn, (0, (0, 0)))]
def mt_104 : MT := ((yX7_countUnlikeMachines, (cX7_countUnlikeMachines, (3, (some .int)))), (7, (tb_104, [(13, [0, 1, 2]), (32, [0, 1, 2]), (43, [0])])))
def tb_105 : List (Option IE) := [some (.iconst 0, (0, (0, 0))), some (.istore_n 2, (0, (0, 0))), some (.iload_n 2, (0, (0, 0))), some (.iload_n 1, (0, (0, 0))), some (.if_icmp .ge 36, (0, (0, 0))), none, none, some (.aload_n 0, (0, (0, 0))), some (.getfield 65, (7, (9, 1))), none, none, some (.aload_n 0, (0, (0, 0))), some (.getfield 20, (7, (1, 1))), none, none, some (.iload_n 2, (0, (0, 0))), some (.aaload, (0, (0, 0))), some (.aload_n 0, (0, (0, 0))), some (.getfield 20, (7, (1, 1))), none, none, some (.iload_n 1, (0, (0, 0))), some (.aaload, (0, (0, 0))), some (.iconst 1, (0, (0, 0))), some (.invokevirtual 227, (41, (3, 1))), none, none, some (.bipush (-4), (0, (0, 0))), none, some (.if_icmp .ne 5, (0, (0, 0))), none, none, some (.iconst 1, (0, (0, 0))), some (.ireturn, (0, (0, 0))), some (.iinc 2 1, (0, (0, 0))), none, none, some (.goto (-35), (0, (0, 0))), none, none, some (.iconst 0, (0, (0, 0))), some (.ireturn, (0, (0, 0)))]
def mt_105 : MT := ((yX7_isAsEarlierOne, (cX7_isAsEarlierOne, (3, (some .boolean)))), (7, (tb_105, [(2, [0, 1, 2])])))
def tb_106 : List (Option IE) := [some (.aload_n 0, (0, (0, 0))), some (.invokespecial 1, (1000, (0, 0))), none, none, some (.aload_n 0, (0, (0, 0))), some (.bipush 40, (0, (0, 0))), none, some (.newarray .int, (0, (0, 0))), none, some (.putfield 7, (8, (1, 1))), none, none, some (.aload_n 0, (0, (0, 0))), some (.bipush 40, (0, (0, 0))), none, some (.newarray .int, (0, (0, 0))), none, some (.putfield 13, (8, (2, 1))), none, none, some (.aload_n 0, (0, (0, 0))), some (.bipush 6, (0, (0, 0))), none, some (.newarray .int, (0, (0, 0))), none, some (.putfield 16, (8, (4, 1))), none, none, some (.aload_n 0, (0, (0, 0))), some (.bipush 6, (0, (0, 0))), none, some (.newarray .int, (0, (0, 0))), none, some (.putfield 19, (8, (5, 1))), none, none, some (.aload_n 0, (0, (0, 0))), some (.bipush 36, (0, (0, 0))), none, some (.newarray .boolean, (0, (0, 0))), none, some (.putfield 22, (8, (6, 1))), none, none, some (.aload_n 0, (0, (0, 0))), some (.sipush 324, (0, (0, 0))), none, none, some (.newarray .int, (0, (0, 0))), none, some (.putfield 26, (8, (7, 1))), none, none, some (.aload_n 0, (0, (0, 0))), some (.sipush 324, (0, (0, 0))), none, none, some (.newarray .int, (0, (0, 0))), none, some (.putfield 29, (8, (8, 1))), none, none, some (.aload_n 0, (0, (0, 0))), some (.bipush 7, (0, (0, 0))), none, some (.newarray .int, (0, (0, 0))), none, some (.putfield 32, (8, (9, 1))), none, none, some (.aload_n 0, (0, (0, 0))), some (.bipush 54, (0, (0, 0))), none, some (.newarray .int, (0, (0, 0))), none, some (.putfield 35, (8, (10, 1))), none, none, some (.aload_n 0, (0, (0, 0))), some (.bipush 54, (0, (0, 0))), none, some (.newarray .int, (0, (0, 0))), none, some (.putfield 38, (8, (11, 1))), none, none, some (.aload_n 0, (0, (0, 0))), some (.iconst 2, (0, (0, 0))), some (.newarray .boolean, (0, (0, 0))), none, some (.putfield 41, (8, (13, 1))), none, none, some (.aload_n 0, (0, (0, 0))), some (.iconst 2, (0, (0, 0))), some (.newarray .int, (0, (0, 0))), none, some (.putfield 44, (8, (14, 1))), none, none, some (.aload_n 0, (0, (0, 0))), some (.iconst 2, (0, (0, 0))), some (.newarray .int, (0, (0, 0))), none, some (.putfield 47, (8, (15, 1))), none, none, some (.aload_n 0, (0, (0, 0))), some (.sipush 22500, (0, (0, 0))), none, none, some (.newarray .boolean, (0, (0, 0))), none, some (.putfield 50, (8, (17, 1))), none, none, some (.aload_n 0, (0, (0, 0))), some (.sipush 22500, (0, (0, 0))), none, none, some (.newarray .boolean, (0, (0, 0))), none, some (.putfield 53, (8, (18, 1))), none, none, some (.aload_n 0, (0, (0, 0))), some (.sipush 22500, (0, (0, 0))), none, none, some (.newarray .int, (0, (0, 0))), none, some (.putfield 56, (8, (19, 1))), none, none, some (.aload_n 0, (0, (0, 0))), some (.sipush 22500, (0, (0, 0))), none, none, some (.newarray .int, (0, (0, 0))), none, some (.putfield 59, (8, (20, 1))), none, none, some (.aload_n 0, (0, (0, 0))), some (.sipush 22500, (0, (0, 0))), none, none, some (.newarray .int, (0, (0, 0))), none, some (.putfield 62, (8, (21, 1))), none, none, some (.aload_n 0, (0, (0, 0))), some (.iconst 4, (0, (0, 0))), some (.newarray .int, (0, (0, 0))), none, some (.putfield 65, (8, (25, 1))), none, none, some (.aload_n 0, (0, (0, 0))), some (.iconst 4, (0, (0, 0))), some (.newarray .int, (0, (0, 0))), none, some (.putfield 68, (8, (26, 1))), none, none, some (.aload_n 0, (0, (0, 0))), some (.sipush 22500, (0, (0, 0))), none, none, some (.newarray .int, (0, (0, 0))), none, some (.putfield 71, (8, (27, 1))), none, none, some (.aload_n 0, (0, (0, 0))), some (.iconst 4, (0, (0, 0))), some (.newarray .int, (0, (0, 0))), none, some (.putfield 74, (8, (30, 1))), none, none, some (.aload_n 0, (0, (0, 0))), some (.iconst 4, (0, (0, 0))), some (.newarray .int, (0, (0, 0))), none, some (.putfield 77, (8, (32, 1))), none, none, some (.aload_n 0, (0, (0, 0))), some (.iconst 4, (0, (0, 0))), some (.newarray .int, (0, (0, 0))), none, some (.putfield 80, (8, (33, 1))), none, none, some (.aload_n 0, (0, (0, 0))), some (.bipush 8, (0, (0, 0))), none, some (.newarray .boolean, (0, (0, 0))), none, some (.putfield 83, (8, (34, 1))), none, none, some (.aload_n 0, (0, (0, 0))), some (.bipush 8, (0, (0, 0))), none, some (.newarray .int, (0, (0, 0))), none, some (.putfield 86, (8, (35, 1))), none, none, some (.aload_n 0, (0, (0, 0))), some (.iconst 4, (0, (0, 0))), some (.newarray .int, (0, (0, 0))), none, some (.putfield 89, (8, (36, 1))), none, none, some (.aload_n 0, (0, (0, 0))), some (.iconst 4, (0, (0, 0))), some (.newarray .int, (0, (0, 0))), none, some (.putfield 92, (8, (37, 1))), none, none, some (.aload_n 0, (0, (0, 0))), some (.iconst 4, (0, (0, 0))), some (.newarray .int, (0, (0, 0))), none, some (.putfield 95, (8, (38, 1))), none, none, some (.aload_n 0, (0, (0, 0))), some (.iconst 4, (0, (0, 0))), some (.newarray .int, (0, (0, 0))), none, some (.putfield 98, (8, (39, 1))), none, none, some (.aload_n 0, (0, (0, 0))), some (.iconst 4, (0, (0, 0))), some (.newarray .int, (0, (0, 0))), none, some (.putfield 101, (8, (40, 1))), none, none, some (.aload_n 0, (0, (0, 0))), some (.sipush 240, (0, (0, 0))), none, none, some (.newarray .int, (0, (0, 0))), none, some (.putfield 104, (8, (41, 1))), none, none, some (.iconst 0, (0, (0, 0))), some (.istore_n 1, (0, (0, 0))), some (.iload_n 1, (0, (0, 0))), some (.iconst 4, (0, (0, 0))), some (.if_icmp .ge 17, (0, (0, 0))), none, none, some (.aload_n 0, (0, (0, 0))), some (.getfield 98, (8, (39, 1))), none, none, some (.iload_n 1, (0, (0, 0))), some (.bipush (-4), (0, (0, 0))), none, some (.iastore, (0, (0, 0))), some (.iinc 1 1, (0, (0, 0))), none, none, some (.goto (-16), (0, (0, 0))), none, none, some (.return_, (0, (0, 0)))]
def mt_106 : MT := ((yX8_init, (cX8_init, (2, none))), (8, (tb_106, [(258, [0, 1])])))
def tb_107 : List (Option IE) := [some (.lload_n 0, (0, (0, 0))), some (.lload_n 2, (0, (0, 0))), some (.lcmp, (0, (0, 0))), some (.ifCond .lt 14, (0, (0, 0))), none, none, some (.lload_n 0, (0, (0, 0))), some (.lload 4, (0, (0, 0))), none, some (.lcmp, (0, (0, 0))), some (.ifCond .gt 7, (0, (0, 0))), none, none, some (.iconst 1, (0, (0, 0))), some (.goto 4, (0, (0, 0))), none, none, some (.iconst 0, (0, (0, 0))), some (.ireturn, (0, (0, 0)))]
def mt_107 : MT := ((yX8_in, (cX8_in, (6, (some .boolean)))), (8, (tb_107, [(17, []), (18, [])])))
def tb_108 : List (Option IE) := [some (.iload_n 1, (0, (0, 0))), some (.i2l, (0, (0, 0))), some (.lconst 0, (0, (0, 0))), some (.ldc2_w 107, (2, (0, 0))), none, none, some (.invokestatic 109, (107, (3, 3))), none, none, some (.ifCond .ne 5, (0, (0, 0))), none, none, some (.iconst (-1), (0, (0, 0))), some (.ireturn, (0, (0, 0))), some (.aload_n 0, (0, (0, 0))), some (.getfield 113, (8, (0, 0))), none, none, some (.bipush 40, (0, (0, 0))), none, some (.if_icmp .ne 6, (0, (0, 0))), none, none, some (.bipush (-3), (0, (0, 0))), none, some (.ireturn, (0, (0, 0))), some (.aload_n 0, (0, (0, 0))), some (.getfield 7, (8, (1, 1))), none, none, some (.aload_n 0, (0, (0, 0))), some (.getfield 113, (8, (0, 0))), none, none, some (.iload_n 1, (0, (0, 0))), some (.iastore, (0, (0, 0))), some (.aload_n 0, (0, (0, 0))), some (.getfield 13, (8, (2, 1))), none, none, some (.aload_n 0, (0, (0, 0))), some (.getfield 113, (8, (0, 0))), none, none, some (.iload_n 2, (0, (0, 0))), some (.iastore, (0, (0, 0))), some (.aload_n 0, (0, (0, 0))), some (.dup, (0, (0, 0))), some (.getfield 113, (8, (0, 0))), none, none, some (.iconst 1, (0, (0, 0))), some (.iadd, (0, (0, 0))), some (.putfield 113, (8, (0, 0))), none, none, some (.aload_n 0, (0, (0, 0))), some (.getfield 113, (8, (0, 0))), none, none, some (.ireturn, (0, (0, 0)))]
def mt_108 : MT := ((yX8_place, (cX8_place, (3, (some .int)))), (8, (tb_108, [])))
def tb_109 : List (Option IE) := [some (.iload_n 1, (0, (0, 0))), some (.i2l, (0, (0, 0))), some (.lconst 0, (0, (0, 0))), some (.aload_n 0, (0, (0, 0))), some (.getfield 113, (8, (0, 0))), none, none, some (.i2l, (0, (0, 0))), some (.invokestatic 109, (107, (3, 3))), none, none, some (.ifCond .ne 5, (0, (0, 0))), none, none, some (.iconst (-1), (0, (0, 0))), some (.ireturn, (0, (0, 0))), some (.aload_n 0, (0, (0, 0))), some (.getfield 113, (8, (0, 0))), none, none, some (.istore_n 2, (0, (0, 0))), some (.aload_n 0, (0, (0, 0))), some (.iload_n 1, (0, (0, 0))), some (.putfield 113, (8, (0, 0))), none, none, some (.iload_n 2, (0, (0, 0))), some (.ireturn, (0, (0, 0)))]
def mt_109 : MT := ((yX8_cut, (cX8_cut, (3, (some .int)))), (8, (tb_109, [])))
def tb_110 : List (Option IE) := [some (.iconst 0, (0, (0, 0))), some (.istore_n 2, (0, (0, 0))), some (.aload_n 0, (0, (0, 0))), some (.getfield 13, (8, (2, 1))), none, none, some (.iload_n 2, (0, (0, 0))), some (.iaload, (0, (0, 0))), some (.aload_n 0, (0, (0, 0))), some (.getfield 13, (8, (2, 1))), none, none, some (.iload_n 1, (0, (0, 0))), some (.iaload, (0, (0, 0))), some (.if_icmp .eq 9, (0, (0, 0))), none, none, some (.iinc 2 1, (0, (0, 0))), none, none, some (.goto (-18), (0, (0, 0))), none, none, some (.iload_n 2, (0, (0, 0))), some (.ireturn, (0, (0, 0)))]
def mt_110 : MT := ((yX8_firstOf, (cX8_firstOf, (3, (some .int)))), (8, (tb_110, [(2, [0, 1, 2])])))
def tb_111 : List (Option IE) := [some (.iload_n 1, (0, (0, 0))), some (.i2l, (0, (0, 0))), some (.lconst 0, (0, (0, 0))), some (.aload_n 0, (0, (0, 0))), some (.getfield 113, (8, (0, 0))), none, none, some (.iconst 1, (0, (0, 0))), some (.isub, (0, (0, 0))), some (.i2l, (0, (0, 0))), some (.invokestatic 109, (107, (3, 3))), none, none, some (.ifCond .eq 11, (0, (0, 0))), none, none, some (.aload_n 0, (0, (0, 0))), some (.iload_n 1, (0, (0, 0))), some (.invokevirtual 117, (110, (1, 1))), none, none, some (.goto 4, (0, (0, 0))), none, none, some (.iconst (-1), (0, (0, 0))), some (.ireturn, (0, (0, 0)))]
def mt_111 : MT := ((yX8_first, (cX8_first, (2, (some .int)))), (8, (tb_111, [(25, [])])))
def tb_112 : List (Option IE) := [some (.iconst 0, (0, (0, 0))), some (.istore_n 1, (0, (0, 0))), some (.iconst 0, (0, (0, 0))), some (.istore_n 2, (0, (0, 0))), some (.iload_n 2, (0, (0, 0))), some (.aload_n 0, (0, (0, 0))), some (.getfield 113, (8, (0, 0))), none, none, some (.if_icmp .ge 26, (0, (0, 0))), none, none, some (.iload_n 1, (0, (0, 0))), some (.aload_n 0, (0, (0, 0))), some (.iload_n 2, (0, (0, 0))), some (.invokevirtual 117, (110, (1, 1))), none, none, some (.iload_n 2, (0, (0, 0))), some (.if_icmp .ne 7, (0, (0, 0))), none, none, some (.iconst 1, (0, (0, 0))), some (.goto 4, (0, (0, 0))), none, none, some (.iconst 0, (0, (0, 0))), some (.iadd, (0, (0, 0))), some (.istore_n 1, (0, (0, 0))), some (.iinc 2 1, (0, (0, 0))), none, none, some (.goto (-28), (0, (0, 0))), none, none, some (.iload_n 1, (0, (0, 0))), some (.ireturn, (0, (0, 0)))]
def mt_112 : MT := ((yX8_names, (cX8_names, (3, (some .int)))), (8, (tb_112, [(4, [0, 1, 2]), (27, [0, 2])])))
def tb_113 : List (Option IE) := [some (.iload_n 1, (0, (0, 0))), some (.i2l, (0, (0, 0))), some (.lconst 0, (0, (0, 0))), some (.aload_n 0, (0, (0, 0))), some (.getfield 121, (8, (3, 0))), none, none, some (.iconst 1, (0, (0, 0))), some (.isub, (0, (0, 0))), some (.i2l, (0, (0, 0))), some (.invokestatic 109, (107, (3, 3))), none, none, some (.ireturn, (0, (0, 0)))]
def mt_113 : MT := ((yX8_isMachine, (cX8_isMachine, (2, (some .boolean)))), (8, (tb_113, [])))
def tb_114 : List (Option IE) := [some (.aload_n 0, (0, (0, 0))), some (.iload_n 1, (0, (0, 0))), some (.invokevirtual 124, (113, (1, 3))), none, none, some (.ifCond .eq 25, (0, (0, 0))), none, none, some (.iload_n 2, (0, (0, 0))), some (.i2l, (0, (0, 0))), some (.lconst 0, (0, (0, 0))), some (.aload_n 0, (0, (0, 0))), some (.getfield 16, (8, (4, 1))), none, none, some (.iload_n 1, (0, (0, 0))), some (.iaload, (0, (0, 0))), some (.iconst 1, (0, (0, 0))), some (.isub, (0, (0, 0))), some (.i2l, (0, (0, 0))), some (.invokestatic 109, (107, (3, 3))), none, none, some (.ifCond .eq 7, (0, (0, 0))), none, none, some (.iconst 1, (0, (0, 0))), some (.goto 4, (0, (0, 0))), none, none, some (.iconst 0, (0, (0, 0))), some (.ireturn, (0, (0, 0)))]
def mt_114 : MT := ((yX8_isState, (cX8_isState, (3, (some .boolean)))), (8, (tb_114, [(30, []), (31, [])])))
def tb_115 : List (Option IE) := [some (.bipush 54, (0, (0, 0))), none, some (.iload_n 0, (0, (0, 0))), some (.imul, (0, (0, 0))), some (.bipush 9, (0, (0, 0))), none, some (.iload_n 1, (0, (0, 0))), some (.imul, (0, (0, 0))), some (.iadd, (0, (0, 0))), some (.iconst 3, (0, (0, 0))), some (.iload_n 2, (0, (0, 0))), some (.imul, (0, (0, 0))), some (.iadd, (0, (0, 0))), some (.iload_n 3, (0, (0, 0))), some (.iadd, (0, (0, 0))), some (.ireturn, (0, (0, 0)))]
def mt_115 : MT := ((yX8_stepAt, (cX8_stepAt, (4, (some .int)))), (8, (tb_115, [])))
def tb_116 : List (Option IE) := [some (.iload_n 2, (0, (0, 0))), some (.iconst 2, (0, (0, 0))), some (.if_icmp .eq 21, (0, (0, 0))), none, none, some (.iload_n 2, (0, (0, 0))), some (.i2l, (0, (0, 0))), some (.lconst 0, (0, (0, 0))), some (.aload_n 0, (0, (0, 0))), some (.getfield 19, (8, (5, 1))), none, none, some (.iload_n 1, (0, (0, 0))), some (.iaload, (0, (0, 0))), some (.iconst 1, (0, (0, 0))), some (.isub, (0, (0, 0))), some (.i2l, (0, (0, 0))), some (.invokestatic 109, (107, (3, 3))), none, none, some (.ifCond .eq 7, (0, (0, 0))), none, none, some (.iconst 1, (0, (0, 0))), some (.goto 4, (0, (0, 0))), none, none, some (.iconst 0, (0, (0, 0))), some (.ireturn, (0, (0, 0)))]
def mt_116 : MT := ((yX8_isCase, (cX8_isCase, (3, (some .boolean)))), (8, (tb_116, [(23, []), (28, [])])))
def tb_117 : List (Option IE) := [some (.aload_n 0, (0, (0, 0))), some (.iload_n 1, (0, (0, 0))), some (.iload_n 2, (0, (0, 0))), some (.invokevirtual 128, (114, (2, 3))), none, none, some (.ifCond .eq 29, (0, (0, 0))), none, none, some (.iload_n 3, (0, (0, 0))), some (.i2l, (0, (0, 0))), some (.lconst 0, (0, (0, 0))), some (.ldc2_w 107, (2, (0, 0))), none, none, some (.invokestatic 109, (107, (3, 3))), none, none, some (.ifCond .eq 17, (0, (0, 0))), none, none, some (.aload_n 0, (0, (0, 0))), some (.iload_n 1, (0, (0, 0))), some (.iload 4, (0, (0, 0))), none, some (.invokevirtual 132, (116, (2, 3))), none, none, some (.ifCond .eq 7, (0, (0, 0))), none, none, some (.iconst 1, (0, (0, 0))), some (.goto 4, (0, (0, 0))), none, none, some (.iconst 0, (0, (0, 0))), some (.ireturn, (0, (0, 0)))]
def mt_117 : MT := ((yX8_isStep, (cX8_isStep, (5, (some .boolean)))), (8, (tb_117, [(35, []), (36, [])])))
def tb_118 : List (Option IE) := [some (.aload_n 0, (0, (0, 0))), some (.getfield 16, (8, (4, 1))), none, none, some (.iload_n 1, (0, (0, 0))), some (.iload_n 2, (0, (0, 0))), some (.iastore, (0, (0, 0))), some (.aload_n 0, (0, (0, 0))), some (.getfield 19, (8, (5, 1))), none, none, some (.iload_n 1, (0, (0, 0))), some (.iload_n 3, (0, (0, 0))), some (.iastore, (0, (0, 0))), some (.iconst 0, (0, (0, 0))), some (.istore 4, (0, (0, 0))), none, some (.iload 4, (0, (0, 0))), none, some (.bipush 6, (0, (0, 0))), none, some (.if_icmp .ge 78, (0, (0, 0))), none, none, some (.aload_n 0, (0, (0, 0))), some (.getfield 22, (8, (6, 1))), none, none, some (.bipush 6, (0, (0, 0))), none, some (.iload_n 1, (0, (0, 0))), some (.imul, (0, (0, 0))), some (.iload 4, (0, (0, 0))), none, some (.iadd, (0, (0, 0))), some (.iconst 0, (0, (0, 0))), some (.bastore, (0, (0, 0))), some (.iconst 0, (0, (0, 0))), some (.istore 5, (0, (0, 0))), none, some (.iload 5, (0, (0, 0))), none, some (.bipush 9, (0, (0, 0))), none, some (.if_icmp .ge 49, (0, (0, 0))), none, none, some (.aload_n 0, (0, (0, 0))), some (.getfield 26, (8, (7, 1))), none, none, some (.bipush 54, (0, (0, 0))), none, some (.iload_n 1, (0, (0, 0))), some (.imul, (0, (0, 0))), some (.bipush 9, (0, (0, 0))), none, some (.iload 4, (0, (0, 0))), none, some (.imul, (0, (0, 0))), some (.iadd, (0, (0, 0))), some (.iload 5, (0, (0, 0))), none, some (.iadd, (0, (0, 0))), some (.iload 4, (0, (0, 0))), none, some (.iastore, (0, (0, 0))), some (.aload_n 0, (0, (0, 0))), some (.getfield 29, (8, (8, 1))), none, none, some (.bipush 54, (0, (0, 0))), none, some (.iload_n 1, (0, (0, 0))), some (.imul, (0, (0, 0))), some (.bipush 9, (0, (0, 0))), none, some (.iload 4, (0, (0, 0))), none, some (.imul, (0, (0, 0))), some (.iadd, (0, (0, 0))), some (.iload 5, (0, (0, 0))), none, some (.iadd, (0, (0, 0))), some (.bipush (-4), (0, (0, 0))), none, some (.iastore, (0, (0, 0))), some (.iinc 5 1, (0, (0, 0))), none, none, some (.goto (-50), (0, (0, 0))), none, none, some (.iinc 4 1, (0, (0, 0))), none, none, some (.goto (-79), (0, (0, 0))), none, none, some (.return_, (0, (0, 0)))]
def mt_118 : MT := ((yX8_begins, (cX8_begins, (6, none))), (8, (tb_118, [(17, [0, 1, 4]), (40, [0, 1, 4, 5])])))
def tb_119 : List (Option IE) := [some (.iload_n 1, (0, (0, 0))), some (.i2l, (0, (0, 0))), some (.lconst 1, (0, (0, 0))), some (.ldc2_w 135, (6, (0, 0))), none, none, some (.invokestatic 109, (107, (3, 3))), none, none, some (.ifCond .eq 15, (0, (0, 0))), none, none, some (.iload_n 2, (0, (0, 0))), some (.i2l, (0, (0, 0))), some (.lconst 0, (0, (0, 0))), some (.ldc2_w 107, (2, (0, 0))), none, none, some (.invokestatic 109, (107, (3, 3))), none, none, some (.ifCond .ne 5, (0, (0, 0))), none, none, some (.iconst (-1), (0, (0, 0))), some (.ireturn, (0, (0, 0))), some (.aload_n 0, (0, (0, 0))), some (.getfield 121, (8, (3, 0))), none, none, some (.bipush 6, (0, (0, 0))), none, some (.if_icmp .ne 6, (0, (0, 0))), none, none, some (.bipush (-3), (0, (0, 0))), none, some (.ireturn, (0, (0, 0))), some (.aload_n 0, (0, (0, 0))), some (.aload_n 0, (0, (0, 0))), some (.getfield 121, (8, (3, 0))), none, none, some (.iload_n 1, (0, (0, 0))), some (.iload_n 2, (0, (0, 0))), some (.invokevirtual 137, (118, (3, 0))), none, none, some (.aload_n 0, (0, (0, 0))), some (.dup, (0, (0, 0))), some (.getfield 121, (8, (3, 0))), none, none, some (.iconst 1, (0, (0, 0))), some (.iadd, (0, (0, 0))), some (.putfield 121, (8, (3, 0))), none, none, some (.aload_n 0, (0, (0, 0))), some (.getfield 121, (8, (3, 0))), none, none, some (.iconst 1, (0, (0, 0))), some (.isub, (0, (0, 0))), some (.ireturn, (0, (0, 0)))]
def mt_119 : MT := ((yX8_machine, (cX8_machine, (3, (some .int)))), (8, (tb_119, [(24, [])])))
def tb_120 : List (Option IE) := [some (.iconst 0, (0, (0, 0))), some (.istore_n 2, (0, (0, 0))), some (.iconst 0, (0, (0, 0))), some (.istore_n 3, (0, (0, 0))), some (.iload_n 3, (0, (0, 0))), some (.aload_n 0, (0, (0, 0))), some (.getfield 141, (8, (31, 0))), none, none, some (.if_icmp .ge 29, (0, (0, 0))), none, none, some (.iload_n 2, (0, (0, 0))), some (.ifCond .ne 13, (0, (0, 0))), none, none, some (.aload_n 0, (0, (0, 0))), some (.getfield 77, (8, (32, 1))), none, none, some (.iload_n 3, (0, (0, 0))), some (.iaload, (0, (0, 0))), some (.iload_n 1, (0, (0, 0))), some (.if_icmp .ne 7, (0, (0, 0))), none, none, some (.iconst 1, (0, (0, 0))), some (.goto 4, (0, (0, 0))), none, none, some (.iconst 0, (0, (0, 0))), some (.istore_n 2, (0, (0, 0))), some (.iinc 3 1, (0, (0, 0))), none, none, some (.goto (-31), (0, (0, 0))), none, none, some (.iload_n 2, (0, (0, 0))), some (.ireturn, (0, (0, 0)))]
def mt_120 : MT := ((yX8_isWatched, (cX8_isWatched, (4, (some .boolean)))), (8, (tb_120, [(4, [0, 1, 2, 3]), (26, [0, 1, 3]), (31, [0, 1, 3])])))
def tb_121 : List (Option IE) := [some (.aload_n 0, (0, (0, 0))), some (.iload_n 1, (0, (0, 0))), some (.iload_n 2, (0, (0, 0))), some (.iload_n 3, (0, (0, 0))), some (.iload 4, (0, (0, 0))), none, some (.invokevirtual 144, (117, (4, 3))), none, none, some (.ifCond .eq 39, (0, (0, 0))), none, none, some (.aload_n 0, (0, (0, 0))), some (.iload_n 1, (0, (0, 0))), some (.iload 5, (0, (0, 0))), none, some (.invokevirtual 128, (114, (2, 3))), none, none, some (.ifCond .eq 29, (0, (0, 0))), none, none, some (.iload 6, (0, (0, 0))), none, some (.bipush (-4), (0, (0, 0))), none, some (.if_icmp .eq 24, (0, (0, 0))), none, none, some (.iload 6, (0, (0, 0))), none, some (.i2l, (0, (0, 0))), some (.lconst 0, (0, (0, 0))), some (.aload_n 0, (0, (0, 0))), some (.getfield 19, (8, (5, 1))), none, none, some (.iload_n 1, (0, (0, 0))), some (.iaload, (0, (0, 0))), some (.iconst 1, (0, (0, 0))), some (.isub, (0, (0, 0))), some (.i2l, (0, (0, 0))), some (.invokestatic 109, (107, (3, 3))), none, none, some (.ifCond .ne 5, (0, (0, 0))), none, none, some (.iconst (-1), (0, (0, 0))), some (.ireturn, (0, (0, 0))), some (.aload_n 0, (0, (0, 0))), some (.iload_n 1, (0, (0, 0))), some (.invokevirtual 148, (120, (1, 3))), none, none, some (.ifCond .eq 6, (0, (0, 0))), none, none, some (.bipush (-2), (0, (0, 0))), none, some (.ireturn, (0, (0, 0))), some (.aload_n 0, (0, (0, 0))), some (.getfield 26, (8, (7, 1))), none, none, some (.iload_n 1, (0, (0, 0))), some (.iload_n 2, (0, (0, 0))), some (.iload_n 3, (0, (0, 0))), some (.iload 4, (0, (0, 0))), none, some (.invokestatic 151, (115, (4, 1))), none, none, some (.iload 5, (0, (0, 0))), none, some (.iastore, (0, (0, 0))), some (.aload_n 0, (0, (0, 0))), some (.getfield 29, (8, (8, 1))), none, none, some (.iload_n 1, (0, (0, 0))), some (.iload_n 2, (0, (0, 0))), some (.iload_n 3, (0, (0, 0))), some (.iload 4, (0, (0, 0))), none, some (.invokestatic 151, (115, (4, 1))), none, none, some (.iload 6, (0, (0, 0))), none, some (.iastore, (0, (0, 0))), some (.iconst 1, (0, (0, 0))), some (.ireturn, (0, (0, 0)))]
def mt_121 : MT := ((yX8_step, (cX8_step, (7, (some .int)))), (8, (tb_121, [(48, []), (50, [0, 1, 2, 3, 4, 5, 6])])))
def tb_122 : List (Option IE) := [some (.aload_n 0, (0, (0, 0))), some (.iload_n 1, (0, (0, 0))), some (.iload_n 2, (0, (0, 0))), some (.invokevirtual 128, (114, (2, 3))), none, none, some (.ifCond .ne 5, (0, (0, 0))), none, none, some (.iconst (-1), (0, (0, 0))), some (.ireturn, (0, (0, 0))), some (.aload_n 0, (0, (0, 0))), some (.iload_n 1, (0, (0, 0))), some (.invokevirtual 148, (120, (1, 3))), none, none, some (.ifCond .eq 6, (0, (0, 0))), none, none, some (.bipush (-2), (0, (0, 0))), none, some (.ireturn, (0, (0, 0))), some (.aload_n 0, (0, (0, 0))), some (.getfield 22, (8, (6, 1))), none, none, some (.bipush 6, (0, (0, 0))), none, some (.iload_n 1, (0, (0, 0))), some (.imul, (0, (0, 0))), some (.iload_n 2, (0, (0, 0))), some (.iadd, (0, (0, 0))), some (.baload, (0, (0, 0))), some (.ifCond .eq 7, (0, (0, 0))), none, none, some (.iconst 1, (0, (0, 0))), some (.goto 4, (0, (0, 0))), none, none, some (.iconst 0, (0, (0, 0))), some (.istore 4, (0, (0, 0))), none, some (.aload_n 0, (0, (0, 0))), some (.getfield 22, (8, (6, 1))), none, none, some (.bipush 6, (0, (0, 0))), none, some (.iload_n 1, (0, (0, 0))), some (.imul, (0, (0, 0))), some (.iload_n 2, (0, (0, 0))), some (.iadd, (0, (0, 0))), some (.iload_n 3, (0, (0, 0))), some (.bastore, (0, (0, 0))), some (.iload 4, (0, (0, 0))), none, some (.ireturn, (0, (0, 0)))]
def mt_122 : MT := ((yX8_good, (cX8_good, (5, (some .int)))), (8, (tb_122, [(41, [0, 1, 2, 3])])))
def tb_123 : List (Option IE) := [some (.aload_n 0, (0, (0, 0))), some (.iload_n 1, (0, (0, 0))), some (.invokevirtual 124, (113, (1, 3))), none, none, some (.ifCond .eq 15, (0, (0, 0))), none, none, some (.iload_n 2, (0, (0, 0))), some (.i2l, (0, (0, 0))), some (.lconst 0, (0, (0, 0))), some (.ldc2_w 107, (2, (0, 0))), none, none, some (.invokestatic 109, (107, (3, 3))), none, none, some (.ifCond .ne 5, (0, (0, 0))), none, none, some (.iconst (-1), (0, (0, 0))), some (.ireturn, (0, (0, 0))), some (.iconst 0, (0, (0, 0))), some (.istore_n 3, (0, (0, 0))), some (.iconst 0, (0, (0, 0))), some (.istore 4, (0, (0, 0))), none, some (.iload 4, (0, (0, 0))), none, some (.aload_n 0, (0, (0, 0))), some (.getfield 16, (8, (4, 1))), none, none, some (.iload_n 1, (0, (0, 0))), some (.iaload, (0, (0, 0))), some (.if_icmp .ge 32, (0, (0, 0))), none, none, some (.iload_n 3, (0, (0, 0))), some (.aload_n 0, (0, (0, 0))), some (.getfield 22, (8, (6, 1))), none, none, some (.bipush 6, (0, (0, 0))), none, some (.iload_n 1, (0, (0, 0))), some (.imul, (0, (0, 0))), some (.iload 4, (0, (0, 0))), none, some (.iadd, (0, (0, 0))), some (.baload, (0, (0, 0))), some (.ifCond .eq 7, (0, (0, 0))), none, none, some (.iconst 1, (0, (0, 0))), some (.goto 4, (0, (0, 0))), none, none, some (.iconst 0, (0, (0, 0))), some (.iadd, (0, (0, 0))), some (.istore_n 3, (0, (0, 0))), some (.iinc 4 1, (0, (0, 0))), none, none, some (.goto (-37), (0, (0, 0))), none, none, some (.iload_n 2, (0, (0, 0))), some (.ifCond .ne 12, (0, (0, 0))), none, none, some (.aload_n 0, (0, (0, 0))), some (.getfield 16, (8, (4, 1))), none, none, some (.iload_n 1, (0, (0, 0))), some (.iaload, (0, (0, 0))), some (.goto 18, (0, (0, 0))), none, none, some (.iload_n 2, (0, (0, 0))), some (.iconst 1, (0, (0, 0))), some (.if_icmp .ne 12, (0, (0, 0))), none, none, some (.aload_n 0, (0, (0, 0))), some (.getfield 19, (8, (5, 1))), none, none, some (.iload_n 1, (0, (0, 0))), some (.iaload, (0, (0, 0))), some (.goto 4, (0, (0, 0))), none, none, some (.iload_n 3, (0, (0, 0))), some (.ireturn, (0, (0, 0)))]
def mt_123 : MT := ((yX8_told, (cX8_told, (5, (some .int)))), (8, (tb_123, [(20, []), (27, [0, 1, 2, 3, 4]), (59, [0, 1, 2, 4]), (95, [])])))
def tb_124 : List (Option IE) := [some (.aload_n 0, (0, (0, 0))), some (.iload_n 1, (0, (0, 0))), some (.iload_n 2, (0, (0, 0))), some (.iload_n 3, (0, (0, 0))), some (.iload 4, (0, (0, 0))), none, some (.invokevirtual 144, (117, (4, 3))), none, none, some (.ifCond .eq 14, (0, (0, 0))), none, none, some (.iload 5, (0, (0, 0))), none, some (.i2l, (0, (0, 0))), some (.lconst 0, (0, (0, 0))), some (.lconst 1, (0, (0, 0))), some (.invokestatic 109, (107, (3, 3))), none, none, some (.ifCond .ne 5, (0, (0, 0))), none, none, some (.iconst (-1), (0, (0, 0))), some (.ireturn, (0, (0, 0))), some (.iload_n 1, (0, (0, 0))), some (.iload_n 2, (0, (0, 0))), some (.iload_n 3, (0, (0, 0))), some (.iload 4, (0, (0, 0))), none, some (.invokestatic 151, (115, (4, 1))), none, none, some (.istore 6, (0, (0, 0))), none, some (.iload 5, (0, (0, 0))), none, some (.ifCond .ne 13, (0, (0, 0))), none, none, some (.aload_n 0, (0, (0, 0))), some (.getfield 26, (8, (7, 1))), none, none, some (.iload 6, (0, (0, 0))), none, some (.iaload, (0, (0, 0))), some (.goto 10, (0, (0, 0))), none, none, some (.aload_n 0, (0, (0, 0))), some (.getfield 29, (8, (8, 1))), none, none, some (.iload 6, (0, (0, 0))), none, some (.iaload, (0, (0, 0))), some (.ireturn, (0, (0, 0)))]
def mt_124 : MT := ((yX8_stepOf, (cX8_stepOf, (7, (some .int)))), (8, (tb_124, [(23, []), (57, [])])))
def tb_125 : List (Option IE) := [some (.aload_n 0, (0, (0, 0))), some (.getfield 121, (8, (3, 0))), none, none, some (.ifCond .ne 6, (0, (0, 0))), none, none, some (.bipush (-4), (0, (0, 0))), none, some (.ireturn, (0, (0, 0))), some (.aload_n 0, (0, (0, 0))), some (.aload_n 0, (0, (0, 0))), some (.getfield 121, (8, (3, 0))), none, none, some (.iconst 1, (0, (0, 0))), some (.isub, (0, (0, 0))), some (.invokevirtual 148, (120, (1, 3))), none, none, some (.ifCond .eq 6, (0, (0, 0))), none, none, some (.bipush (-2), (0, (0, 0))), none, some (.ireturn, (0, (0, 0))), some (.aload_n 0, (0, (0, 0))), some (.dup, (0, (0, 0))), some (.getfield 121, (8, (3, 0))), none, none, some (.iconst 1, (0, (0, 0))), some (.isub, (0, (0, 0))), some (.putfield 121, (8, (3, 0))), none, none, some (.aload_n 0, (0, (0, 0))), some (.getfield 121, (8, (3, 0))), none, none, some (.ireturn, (0, (0, 0)))]
def mt_125 : MT := ((yX8_drop, (cX8_drop, (1, (some .int)))), (8, (tb_125, [])))
def tb_126 : List (Option IE) := [some (.aload_n 0, (0, (0, 0))), some (.iload_n 1, (0, (0, 0))), some (.invokevirtual 124, (113, (1, 3))), none, none, some (.ifCond .ne 5, (0, (0, 0))), none, none, some (.iconst (-1), (0, (0, 0))), some (.ireturn, (0, (0, 0))), some (.aload_n 0, (0, (0, 0))), some (.getfield 121, (8, (3, 0))), none, none, some (.bipush 6, (0, (0, 0))), none, some (.if_icmp .ne 6, (0, (0, 0))), none, none, some (.bipush (-3), (0, (0, 0))), none, some (.ireturn, (0, (0, 0))), some (.aload_n 0, (0, (0, 0))), some (.getfield 121, (8, (3, 0))), none, none, some (.istore_n 2, (0, (0, 0))), some (.aload_n 0, (0, (0, 0))), some (.iload_n 2, (0, (0, 0))), some (.aload_n 0, (0, (0, 0))), some (.getfield 16, (8, (4, 1))), none, none, some (.iload_n 1, (0, (0, 0))), some (.iaload, (0, (0, 0))), some (.aload_n 0, (0, (0, 0))), some (.getfield 19, (8, (5, 1))), none, none, some (.iload_n 1, (0, (0, 0))), some (.iaload, (0, (0, 0))), some (.invokevirtual 137, (118, (3, 0))), none, none, some (.iconst 0, (0, (0, 0))), some (.istore_n 3, (0, (0, 0))), some (.iload_n 3, (0, (0, 0))), some (.aload_n 0, (0, (0, 0))), some (.getfield 16, (8, (4, 1))), none, none, some (.iload_n 1, (0, (0, 0))), some (.iaload, (0, (0, 0))), some (.if_icmp .ge 39, (0, (0, 0))), none, none, some (.aload_n 0, (0, (0, 0))), some (.getfield 22, (8, (6, 1))), none, none, some (.bipush 6, (0, (0, 0))), none, some (.iload_n 2, (0, (0, 0))), some (.imul, (0, (0, 0))), some (.iload_n 3, (0, (0, 0))), some (.iadd, (0, (0, 0))), some (.aload_n 0, (0, (0, 0))), some (.getfield 22, (8, (6, 1))), none, none, some (.bipush 6, (0, (0, 0))), none, some (.iload_n 1, (0, (0, 0))), some (.imul, (0, (0, 0))), some (.iload_n 3, (0, (0, 0))), some (.iadd, (0, (0, 0))), some (.baload, (0, (0, 0))), some (.ifCond .ne 7, (0, (0, 0))), none, none, some (.iconst 1, (0, (0, 0))), some (.goto 4, (0, (0, 0))), none, none, some (.iconst 0, (0, (0, 0))), some (.bastore, (0, (0, 0))), some (.iinc 3 1, (0, (0, 0))), none, none, some (.goto (-43), (0, (0, 0))), none, none, some (.iconst 0, (0, (0, 0))), some (.istore_n 3, (0, (0, 0))), some (.iload_n 3, (0, (0, 0))), some (.bipush 54, (0, (0, 0))), none, some (.if_icmp .ge 53, (0, (0, 0))), none, none, some (.aload_n 0, (0, (0, 0))), some (.getfield 26, (8, (7, 1))), none, none, some (.bipush 54, (0, (0, 0))), none, some (.iload_n 2, (0, (0, 0))), some (.imul, (0, (0, 0))), some (.iload_n 3, (0, (0, 0))), some (.iadd, (0, (0, 0))), some (.aload_n 0, (0, (0, 0))), some (.getfield 26, (8, (7, 1))), none, none, some (.bipush 54, (0, (0, 0))), none, some (.iload_n 1, (0, (0, 0))), some (.imul, (0, (0, 0))), some (.iload_n 3, (0, (0, 0))), some (.iadd, (0, (0, 0))), some (.iaload, (0, (0, 0))), some (.iastore, (0, (0, 0))), some (.aload_n 0, (0, (0, 0))), some (.getfield 29, (8, (8, 1))), none, none, some (.bipush 54, (0, (0, 0))), none, some (.iload_n 2, (0, (0, 0))), some (.imul, (0, (0, 0))), some (.iload_n 3, (0, (0, 0))), some (.iadd, (0, (0, 0))), some (.aload_n 0, (0, (0, 0))), some (.getfield 29, (8, (8, 1))), none, none, some (.bipush 54, (0, (0, 0))), none, some (.iload_n 1, (0, (0, 0))), some (.imul, (0, (0, 0))), some (.iload_n 3, (0, (0, 0))), some (.iadd, (0, (0, 0))), some (.iaload, (0, (0, 0))), some (.iastore, (0, (0, 0))), some (.iinc 3 1, (0, (0, 0))), none, none, some (.goto (-53), (0, (0, 0))), none, none, some (.aload_n 0, (0, (0, 0))), some (.dup, (0, (0, 0))), some (.getfield 121, (8, (3, 0))), none, none, some (.iconst 1, (0, (0, 0))), some (.iadd, (0, (0, 0))), some (.putfield 121, (8, (3, 0))), none, none, some (.iload_n 2, (0, (0, 0))), some (.ireturn, (0, (0, 0)))]
def mt_126 : MT := ((yX8_turned, (cX8_turned, (4, (some .int)))), (8, (tb_126, [(46, [0, 1, 2, 3]), (85, [0, 1, 2, 3]), (94, [0, 1, 2, 3])])))
def tb_127 : List (Option IE) := [some (.iconst 0, (0, (0, 0))), some (.istore_n 3, (0, (0, 0))), some (.iload_n 3, (0, (0, 0))), some (.iload_n 2, (0, (0, 0))), some (.if_icmp .ge 19, (0, (0, 0))), none, none, some (.aload_n 0, (0, (0, 0))), some (.getfield 32, (8, (9, 1))), none, none, some (.iload_n 3, (0, (0, 0))), some (.iaload, (0, (0, 0))), some (.iload_n 1, (0, (0, 0))), some (.if_icmp .eq 9, (0, (0, 0))), none, none, some (.iinc 3 1, (0, (0, 0))), none, none, some (.goto (-18), (0, (0, 0))), none, none, some (.iload_n 3, (0, (0, 0))), some (.ireturn, (0, (0, 0)))]
def mt_127 : MT := ((yX8_pairAt, (cX8_pairAt, (4, (some .int)))), (8, (tb_127, [(2, [0, 1, 2, 3]), (23, [3])])))
def tb_128 : List (Option IE) := [some (.aload_n 0, (0, (0, 0))), some (.iload_n 1, (0, (0, 0))), some (.invokevirtual 124, (113, (1, 3))), none, none, some (.ifCond .eq 23, (0, (0, 0))), none, none, some (.aload_n 0, (0, (0, 0))), some (.iload_n 2, (0, (0, 0))), some (.invokevirtual 124, (113, (1, 3))), none, none, some (.ifCond .eq 15, (0, (0, 0))), none, none, some (.iload_n 3, (0, (0, 0))), some (.i2l, (0, (0, 0))), some (.lconst 0, (0, (0, 0))), some (.ldc2_w 107, (2, (0, 0))), none, none, some (.invokestatic 109, (107, (3, 3))), none, none, some (.ifCond .ne 5, (0, (0, 0))), none, none, some (.iconst (-1), (0, (0, 0))), some (.ireturn, (0, (0, 0))), some (.aload_n 0, (0, (0, 0))), some (.getfield 19, (8, (5, 1))), none, none, some (.iload_n 1, (0, (0, 0))), some (.iaload, (0, (0, 0))), some (.ifCond .le 15, (0, (0, 0))), none, none, some (.aload_n 0, (0, (0, 0))), some (.getfield 19, (8, (5, 1))), none, none, some (.iload_n 2, (0, (0, 0))), some (.iaload, (0, (0, 0))), some (.ifCond .le 6, (0, (0, 0))), none, none, some (.bipush (-2), (0, (0, 0))), none, some (.ireturn, (0, (0, 0))), some (.aload_n 0, (0, (0, 0))), some (.getfield 19, (8, (5, 1))), none, none, some (.iload_n 2, (0, (0, 0))), some (.iaload, (0, (0, 0))), some (.ifCond .le 7, (0, (0, 0))), none, none, some (.iload_n 2, (0, (0, 0))), some (.goto 4, (0, (0, 0))), none, none, some (.iload_n 1, (0, (0, 0))), some (.istore 4, (0, (0, 0))), none, some (.aload_n 0, (0, (0, 0))), some (.getfield 32, (8, (9, 1))), none, none, some (.iconst 0, (0, (0, 0))), some (.iconst 0, (0, (0, 0))), some (.iastore, (0, (0, 0))), some (.iconst 1, (0, (0, 0))), some (.istore 5, (0, (0, 0))), none, some (.iconst 0, (0, (0, 0))), some (.istore 6, (0, (0, 0))), none, some (.iload 6, (0, (0, 0))), none, some (.iload 5, (0, (0, 0))), none, some (.if_icmp .ge 216, (0, (0, 0))), none, none, some (.iconst 0, (0, (0, 0))), some (.istore 7, (0, (0, 0))), none, some (.iload 7, (0, (0, 0))), none, some (.bipush 9, (0, (0, 0))), none, some (.if_icmp .ge 200, (0, (0, 0))), none, none, some (.iload 7, (0, (0, 0))), none, some (.iconst 3, (0, (0, 0))), some (.irem, (0, (0, 0))), some (.istore 8, (0, (0, 0))), none, some (.aload_n 0, (0, (0, 0))), some (.iload 4, (0, (0, 0))), none, some (.iload 8, (0, (0, 0))), none, some (.invokevirtual 132, (116, (2, 3))), none, none, some (.ifCond .eq 177, (0, (0, 0))), none, none, some (.iload_n 1, (0, (0, 0))), some (.aload_n 0, (0, (0, 0))), some (.getfield 32, (8, (9, 1))), none, none, some (.iload 6, (0, (0, 0))), none, some (.iaload, (0, (0, 0))), some (.bipush 6, (0, (0, 0))), none, some (.idiv, (0, (0, 0))), some (.iload 7, (0, (0, 0))), none, some (.iconst 3, (0, (0, 0))), some (.idiv, (0, (0, 0))), some (.iload 4, (0, (0, 0))), none, some (.iload_n 1, (0, (0, 0))), some (.if_icmp .ne 8, (0, (0, 0))), none, none, some (.iload 8, (0, (0, 0))), none, some (.goto 4, (0, (0, 0))), none, none, some (.iconst 2, (0, (0, 0))), some (.invokestatic 151, (115, (4, 1))), none, none, some (.istore 9, (0, (0, 0))), none, some (.iload_n 2, (0, (0, 0))), some (.aload_n 0, (0, (0, 0))), some (.getfield 32, (8, (9, 1))), none, none, some (.iload 6, (0, (0, 0))), none, some (.iaload, (0, (0, 0))), some (.bipush 6, (0, (0, 0))), none, some (.irem, (0, (0, 0))), some (.iload 7, (0, (0, 0))), none, some (.iconst 3, (0, (0, 0))), some (.idiv, (0, (0, 0))), some (.iload 4, (0, (0, 0))), none, some (.iload_n 2, (0, (0, 0))), some (.if_icmp .ne 8, (0, (0, 0))), none, none, some (.iload 8, (0, (0, 0))), none, some (.goto 4, (0, (0, 0))), none, none, some (.iconst 2, (0, (0, 0))), some (.invokestatic 151, (115, (4, 1))), none, none, some (.istore 10, (0, (0, 0))), none, some (.bipush 6, (0, (0, 0))), none, some (.aload_n 0, (0, (0, 0))), some (.getfield 26, (8, (7, 1))), none, none, some (.iload 9, (0, (0, 0))), none, some (.iaload, (0, (0, 0))), some (.imul, (0, (0, 0))), some (.aload_n 0, (0, (0, 0))), some (.getfield 26, (8, (7, 1))), none, none, some (.iload 10, (0, (0, 0))), none, some (.iaload, (0, (0, 0))), some (.iadd, (0, (0, 0))), some (.istore 11, (0, (0, 0))), none, some (.aload_n 0, (0, (0, 0))), some (.iload 11, (0, (0, 0))), none, some (.iload 5, (0, (0, 0))), none, some (.invokevirtual 155, (127, (2, 1))), none, none, some (.istore 12, (0, (0, 0))), none, some (.iload 12, (0, (0, 0))), none, some (.bipush 6, (0, (0, 0))), none, some (.if_icmp .ne 6, (0, (0, 0))), none, none, some (.bipush (-2), (0, (0, 0))), none, some (.ireturn, (0, (0, 0))), some (.iload 12, (0, (0, 0))), none, some (.iload 5, (0, (0, 0))), none, some (.if_icmp .ne 15, (0, (0, 0))), none, none, some (.aload_n 0, (0, (0, 0))), some (.getfield 32, (8, (9, 1))), none, none, some (.iload 5, (0, (0, 0))), none, some (.iload 11, (0, (0, 0))), none, some (.iastore, (0, (0, 0))), some (.iinc 5 1, (0, (0, 0))), none, none, some (.aload_n 0, (0, (0, 0))), some (.getfield 35, (8, (10, 1))), none, none, some (.bipush 9, (0, (0, 0))), none, some (.iload 6, (0, (0, 0))), none, some (.imul, (0, (0, 0))), some (.iload 7, (0, (0, 0))), none, some (.iadd, (0, (0, 0))), some (.iload 12, (0, (0, 0))), none, some (.iastore, (0, (0, 0))), some (.aload_n 0, (0, (0, 0))), some (.getfield 38, (8, (11, 1))), none, none, some (.bipush 9, (0, (0, 0))), none, some (.iload 6, (0, (0, 0))), none, some (.imul, (0, (0, 0))), some (.iload 7, (0, (0, 0))), none, some (.iadd, (0, (0, 0))), some (.iload 4, (0, (0, 0))), none, some (.iload_n 1, (0, (0, 0))), some (.if_icmp .ne 13, (0, (0, 0))), none, none, some (.aload_n 0, (0, (0, 0))), some (.getfield 29, (8, (8, 1))), none, none, some (.iload 9, (0, (0, 0))), none, some (.iaload, (0, (0, 0))), some (.goto 10, (0, (0, 0))), none, none, some (.aload_n 0, (0, (0, 0))), some (.getfield 29, (8, (8, 1))), none, none, some (.iload 10, (0, (0, 0))), none, some (.iaload, (0, (0, 0))), some (.iastore, (0, (0, 0))), some (.iinc 7 1, (0, (0, 0))), none, none, some (.goto (-201), (0, (0, 0))), none, none, some (.iinc 6 1, (0, (0, 0))), none, none, some (.goto (-217), (0, (0, 0))), none, none, some (.aload_n 0, (0, (0, 0))), some (.getfield 121, (8, (3, 0))), none, none, some (.bipush 6, (0, (0, 0))), none, some (.if_icmp .ne 6, (0, (0, 0))), none, none, some (.bipush (-3), (0, (0, 0))), none, some (.ireturn, (0, (0, 0))), some (.aload_n 0, (0, (0, 0))), some (.getfield 121, (8, (3, 0))), none, none, some (.istore 6, (0, (0, 0))), none, some (.aload_n 0, (0, (0, 0))), some (.iload 6, (0, (0, 0))), none, some (.iload 5, (0, (0, 0))), none, some (.aload_n 0, (0, (0, 0))), some (.getfield 19, (8, (5, 1))), none, none, some (.iload 4, (0, (0, 0))), none, some (.iaload, (0, (0, 0))), some (.invokevirtual 137, (118, (3, 0))), none, none, some (.iconst 0, (0, (0, 0))), some (.istore 7, (0, (0, 0))), none, some (.iload 7, (0, (0, 0))), none, some (.iload 5, (0, (0, 0))), none, some (.if_icmp .ge 216, (0, (0, 0))), none, none, some (.aload_n 0, (0, (0, 0))), some (.getfield 22, (8, (6, 1))), none, none, some (.bipush 6, (0, (0, 0))), none, some (.iload_n 1, (0, (0, 0))), some (.imul, (0, (0, 0))), some (.aload_n 0, (0, (0, 0))), some (.getfield 32, (8, (9, 1))), none, none, some (.iload 7, (0, (0, 0))), none, some (.iaload, (0, (0, 0))), some (.bipush 6, (0, (0, 0))), none, some (.idiv, (0, (0, 0))), some (.iadd, (0, (0, 0))), some (.baload, (0, (0, 0))), some (.istore 8, (0, (0, 0))), none, some (.aload_n 0, (0, (0, 0))), some (.getfield 22, (8, (6, 1))), none, none, some (.bipush 6, (0, (0, 0))), none, some (.iload_n 2, (0, (0, 0))), some (.imul, (0, (0, 0))), some (.aload_n 0, (0, (0, 0))), some (.getfield 32, (8, (9, 1))), none, none, some (.iload 7, (0, (0, 0))), none, some (.iaload, (0, (0, 0))), some (.bipush 6, (0, (0, 0))), none, some (.irem, (0, (0, 0))), some (.iadd, (0, (0, 0))), some (.baload, (0, (0, 0))), some (.istore 9, (0, (0, 0))), none, some (.aload_n 0, (0, (0, 0))), some (.getfield 22, (8, (6, 1))), none, none, some (.bipush 6, (0, (0, 0))), none, some (.iload 6, (0, (0, 0))), none, some (.imul, (0, (0, 0))), some (.iload 7, (0, (0, 0))), none, some (.iadd, (0, (0, 0))), some (.iload_n 3, (0, (0, 0))), some (.ifCond .ne 21, (0, (0, 0))), none, none, some (.iload 8, (0, (0, 0))), none, some (.ifCond .eq 12, (0, (0, 0))), none, none, some (.iload 9, (0, (0, 0))), none, some (.ifCond .eq 7, (0, (0, 0))), none, none, some (.iconst 1, (0, (0, 0))), some (.goto 42, (0, (0, 0))), none, none, some (.iconst 0, (0, (0, 0))), some (.goto 38, (0, (0, 0))), none, none, some (.iload_n 3, (0, (0, 0))), some (.iconst 1, (0, (0, 0))), some (.if_icmp .ne 21, (0, (0, 0))), none, none, some (.iload 8, (0, (0, 0))), none, some (.ifCond .ne 8, (0, (0, 0))), none, none, some (.iload 9, (0, (0, 0))), none, some (.ifCond .eq 7, (0, (0, 0))), none, none, some (.iconst 1, (0, (0, 0))), some (.goto 19, (0, (0, 0))), none, none, some (.iconst 0, (0, (0, 0))), some (.goto 15, (0, (0, 0))), none, none, some (.iload 8, (0, (0, 0))), none, some (.iload 9, (0, (0, 0))), none, some (.if_icmp .eq 7, (0, (0, 0))), none, none, some (.iconst 1, (0, (0, 0))), some (.goto 4, (0, (0, 0))), none, none, some (.iconst 0, (0, (0, 0))), some (.bastore, (0, (0, 0))), some (.iconst 0, (0, (0, 0))), some (.istore 10, (0, (0, 0))), none, some (.iload 10, (0, (0, 0))), none, some (.bipush 9, (0, (0, 0))), none, some (.if_icmp .ge 86, (0, (0, 0))), none, none, some (.aload_n 0, (0, (0, 0))), some (.iload 4, (0, (0, 0))), none, some (.iload 10, (0, (0, 0))), none, some (.iconst 3, (0, (0, 0))), some (.irem, (0, (0, 0))), some (.invokevirtual 132, (116, (2, 3))), none, none, some (.ifCond .eq 67, (0, (0, 0))), none, none, some (.aload_n 0, (0, (0, 0))), some (.getfield 26, (8, (7, 1))), none, none, some (.bipush 54, (0, (0, 0))), none, some (.iload 6, (0, (0, 0))), none, some (.imul, (0, (0, 0))), some (.bipush 9, (0, (0, 0))), none, some (.iload 7, (0, (0, 0))), none, some (.imul, (0, (0, 0))), some (.iadd, (0, (0, 0))), some (.iload 10, (0, (0, 0))), none, some (.iadd, (0, (0, 0))), some (.aload_n 0, (0, (0, 0))), some (.getfield 35, (8, (10, 1))), none, none, some (.bipush 9, (0, (0, 0))), none, some (.iload 7, (0, (0, 0))), none, some (.imul, (0, (0, 0))), some (.iload 10, (0, (0, 0))), none, some (.iadd, (0, (0, 0))), some (.iaload, (0, (0, 0))), some (.iastore, (0, (0, 0))), some (.aload_n 0, (0, (0, 0))), some (.getfield 29, (8, (8, 1))), none, none, some (.bipush 54, (0, (0, 0))), none, some (.iload 6, (0, (0, 0))), none, some (.imul, (0, (0, 0))), some (.bipush 9, (0, (0, 0))), none, some (.iload 7, (0, (0, 0))), none, some (.imul, (0, (0, 0))), some (.iadd, (0, (0, 0))), some (.iload 10, (0, (0, 0))), none, some (.iadd, (0, (0, 0))), some (.aload_n 0, (0, (0, 0))), some (.getfield 38, (8, (11, 1))), none, none, some (.bipush 9, (0, (0, 0))), none, some (.iload 7, (0, (0, 0))), none, some (.imul, (0, (0, 0))), some (.iload 10, (0, (0, 0))), none, some (.iadd, (0, (0, 0))), some (.iaload, (0, (0, 0))), some (.iastore, (0, (0, 0))), some (.iinc 10 1, (0, (0, 0))), none, none, some (.goto (-87), (0, (0, 0))), none, none, some (.iinc 7 1, (0, (0, 0))), none, none, some (.goto (-217), (0, (0, 0))), none, none, some (.aload_n 0, (0, (0, 0))), some (.dup, (0, (0, 0))), some (.getfield 121, (8, (3, 0))), none, none, some (.iconst 1, (0, (0, 0))), some (.iadd, (0, (0, 0))), some (.putfield 121, (8, (3, 0))), none, none, some (.iload 6, (0, (0, 0))), none, some (.ireturn, (0, (0, 0)))]
def mt_128 : MT := ((yX8_both, (cX8_both, (13, (some .int)))), (8, (tb_128, [(28, []), (51, [0, 1, 2, 3]), (65, [0, 1, 2, 3]), (80, [0, 1, 2, 3, 4, 5, 6]), (90, [0, 1, 2, 3, 4, 5, 6, 7]), (141, [0, 1, 2, 3, 4, 5, 6, 7, 8]), (173, [0, 1, 2, 3, 4, 5, 6, 7, 9]), (237, [0, 1, 2, 3, 4, 5, 6, 7, 9, 10, 12]), (287, [0, 1, 2, 3, 4, 5, 6, 7]), (288, [0, 1, 2, 3, 4, 5, 6, 7]), (336, [0, 1, 2, 3, 4, 5, 6, 7]), (417, [0, 1, 2, 3, 4, 5, 6, 7]), (436, [0, 1, 2, 3, 4, 5, 6, 7]), (456, [0, 1, 2, 3, 4, 5, 6, 7]), (460, [0, 1, 2, 3, 4, 5, 6, 7, 10]), (544, [0, 1, 2, 3, 4, 5, 6, 7, 10])])))
def tb_129 : List (Option IE) := [some (.aload_n 0, (0, (0, 0))), some (.iconst 0, (0, (0, 0))), some (.putfield 159, (8, (12, 0))), none, none, some (.aload_n 0, (0, (0, 0))), some (.bipush (-4), (0, (0, 0))), none, some (.putfield 162, (8, (16, 0))), none, none, some (.iconst 0, (0, (0, 0))), some (.istore_n 1, (0, (0, 0))), some (.iload_n 1, (0, (0, 0))), some (.iconst 2, (0, (0, 0))), some (.if_icmp .ge 24, (0, (0, 0))), none, none, some (.aload_n 0, (0, (0, 0))), some (.getfield 41, (8, (13, 1))), none, none, some (.iload_n 1, (0, (0, 0))), some (.iconst 0, (0, (0, 0))), some (.bastore, (0, (0, 0))), some (.aload_n 0, (0, (0, 0))), some (.getfield 47, (8, (15, 1))), none, none, some (.iload_n 1, (0, (0, 0))), some (.bipush (-4), (0, (0, 0))), none, some (.iastore, (0, (0, 0))), some (.iinc 1 1, (0, (0, 0))), none, none, some (.goto (-23), (0, (0, 0))), none, none, some (.return_, (0, (0, 0)))]
def mt_129 : MT := ((yX8_starts, (cX8_starts, (2, none))), (8, (tb_129, [(13, [0, 1])])))
def tb_130 : List (Option IE) := [some (.aload_n 0, (0, (0, 0))), some (.aload_n 0, (0, (0, 0))), some (.getfield 41, (8, (13, 1))), none, none, some (.iconst 0, (0, (0, 0))), some (.baload, (0, (0, 0))), some (.ifCond .eq 17, (0, (0, 0))), none, none, some (.aload_n 0, (0, (0, 0))), some (.getfield 44, (8, (14, 1))), none, none, some (.iconst 0, (0, (0, 0))), some (.iaload, (0, (0, 0))), some (.iload_n 3, (0, (0, 0))), some (.if_icmp .ne 7, (0, (0, 0))), none, none, some (.iconst 0, (0, (0, 0))), some (.goto 27, (0, (0, 0))), none, none, some (.aload_n 0, (0, (0, 0))), some (.getfield 41, (8, (13, 1))), none, none, some (.iconst 1, (0, (0, 0))), some (.baload, (0, (0, 0))), some (.ifCond .eq 17, (0, (0, 0))), none, none, some (.aload_n 0, (0, (0, 0))), some (.getfield 44, (8, (14, 1))), none, none, some (.iconst 1, (0, (0, 0))), some (.iaload, (0, (0, 0))), some (.iload_n 3, (0, (0, 0))), some (.if_icmp .ne 7, (0, (0, 0))), none, none, some (.iconst 1, (0, (0, 0))), some (.goto 4, (0, (0, 0))), none, none, some (.iconst 2, (0, (0, 0))), some (.putfield 162, (8, (16, 0))), none, none, some (.iload_n 1, (0, (0, 0))), some (.aload_n 0, (0, (0, 0))), some (.getfield 159, (8, (12, 0))), none, none, some (.iload_n 2, (0, (0, 0))), some (.aload_n 0, (0, (0, 0))), some (.getfield 162, (8, (16, 0))), none, none, some (.invokestatic 151, (115, (4, 1))), none, none, some (.istore 5, (0, (0, 0))), none, some (.aload_n 0, (0, (0, 0))), some (.aload_n 0, (0, (0, 0))), some (.getfield 26, (8, (7, 1))), none, none, some (.iload 5, (0, (0, 0))), none, some (.iaload, (0, (0, 0))), some (.putfield 159, (8, (12, 0))), none, none, some (.aload_n 0, (0, (0, 0))), some (.getfield 29, (8, (8, 1))), none, none, some (.iload 5, (0, (0, 0))), none, some (.iaload, (0, (0, 0))), some (.bipush (-4), (0, (0, 0))), none, some (.if_icmp .eq 43, (0, (0, 0))), none, none, some (.aload_n 0, (0, (0, 0))), some (.getfield 41, (8, (13, 1))), none, none, some (.aload_n 0, (0, (0, 0))), some (.getfield 29, (8, (8, 1))), none, none, some (.iload 5, (0, (0, 0))), none, some (.iaload, (0, (0, 0))), some (.iconst 1, (0, (0, 0))), some (.bastore, (0, (0, 0))), some (.aload_n 0, (0, (0, 0))), some (.getfield 44, (8, (14, 1))), none, none, some (.aload_n 0, (0, (0, 0))), some (.getfield 29, (8, (8, 1))), none, none, some (.iload 5, (0, (0, 0))), none, some (.iaload, (0, (0, 0))), some (.iload_n 3, (0, (0, 0))), some (.iastore, (0, (0, 0))), some (.aload_n 0, (0, (0, 0))), some (.getfield 47, (8, (15, 1))), none, none, some (.aload_n 0, (0, (0, 0))), some (.getfield 29, (8, (8, 1))), none, none, some (.iload 5, (0, (0, 0))), none, some (.iaload, (0, (0, 0))), some (.iload 4, (0, (0, 0))), none, some (.iastore, (0, (0, 0))), some (.return_, (0, (0, 0)))]
def mt_130 : MT := ((yX8_goes, (cX8_goes, (6, none))), (8, (tb_130, [(24, [0, 1, 2, 3, 4]), (47, [0, 1, 2, 3, 4]), (48, [0, 1, 2, 3, 4]), (129, [])])))
def tb_131 : List (Option IE) := [some (.aload_n 0, (0, (0, 0))), some (.invokevirtual 165, (129, (0, 0))), none, none, some (.iconst 0, (0, (0, 0))), some (.istore_n 3, (0, (0, 0))), some (.iload_n 3, (0, (0, 0))), some (.iload_n 2, (0, (0, 0))), some (.if_icmp .ge 27, (0, (0, 0))), none, none, some (.aload_n 0, (0, (0, 0))), some (.iload_n 1, (0, (0, 0))), some (.aload_n 0, (0, (0, 0))), some (.getfield 7, (8, (1, 1))), none, none, some (.iload_n 3, (0, (0, 0))), some (.iaload, (0, (0, 0))), some (.aload_n 0, (0, (0, 0))), some (.getfield 13, (8, (2, 1))), none, none, some (.iload_n 3, (0, (0, 0))), some (.iaload, (0, (0, 0))), some (.iload_n 3, (0, (0, 0))), some (.invokevirtual 168, (130, (4, 0))), none, none, some (.iinc 3 1, (0, (0, 0))), none, none, some (.goto (-26), (0, (0, 0))), none, none, some (.return_, (0, (0, 0)))]
def mt_131 : MT := ((yX8_runs, (cX8_runs, (4, none))), (8, (tb_131, [(6, [0, 1, 2, 3])])))
def tb_132 : List (Option IE) := [some (.aload_n 0, (0, (0, 0))), some (.iload_n 1, (0, (0, 0))), some (.invokevirtual 124, (113, (1, 3))), none, none, some (.ifCond .eq 17, (0, (0, 0))), none, none, some (.iload_n 2, (0, (0, 0))), some (.i2l, (0, (0, 0))), some (.lconst 0, (0, (0, 0))), some (.aload_n 0, (0, (0, 0))), some (.getfield 113, (8, (0, 0))), none, none, some (.i2l, (0, (0, 0))), some (.invokestatic 109, (107, (3, 3))), none, none, some (.ifCond .ne 5, (0, (0, 0))), none, none, some (.iconst (-1), (0, (0, 0))), some (.ireturn, (0, (0, 0))), some (.aload_n 0, (0, (0, 0))), some (.iload_n 1, (0, (0, 0))), some (.iload_n 2, (0, (0, 0))), some (.invokevirtual 172, (131, (2, 0))), none, none, some (.aload_n 0, (0, (0, 0))), some (.getfield 22, (8, (6, 1))), none, none, some (.bipush 6, (0, (0, 0))), none, some (.iload_n 1, (0, (0, 0))), some (.imul, (0, (0, 0))), some (.aload_n 0, (0, (0, 0))), some (.getfield 159, (8, (12, 0))), none, none, some (.iadd, (0, (0, 0))), some (.baload, (0, (0, 0))), some (.ifCond .eq 7, (0, (0, 0))), none, none, some (.iconst 1, (0, (0, 0))), some (.goto 4, (0, (0, 0))), none, none, some (.iconst 0, (0, (0, 0))), some (.ireturn, (0, (0, 0)))]
def mt_132 : MT := ((yX8_takes, (cX8_takes, (3, (some .int)))), (8, (tb_132, [(22, []), (52, [])])))
def tb_133 : List (Option IE) := [some (.aload_n 0, (0, (0, 0))), some (.iload_n 1, (0, (0, 0))), some (.invokevirtual 124, (113, (1, 3))), none, none, some (.ifCond .eq 29, (0, (0, 0))), none, none, some (.iload_n 2, (0, (0, 0))), some (.i2l, (0, (0, 0))), some (.lconst 0, (0, (0, 0))), some (.aload_n 0, (0, (0, 0))), some (.getfield 113, (8, (0, 0))), none, none, some (.i2l, (0, (0, 0))), some (.invokestatic 109, (107, (3, 3))), none, none, some (.ifCond .eq 15, (0, (0, 0))), none, none, some (.iload_n 3, (0, (0, 0))), some (.i2l, (0, (0, 0))), some (.lconst 0, (0, (0, 0))), some (.ldc2_w 176, (3, (0, 0))), none, none, some (.invokestatic 109, (107, (3, 3))), none, none, some (.ifCond .ne 5, (0, (0, 0))), none, none, some (.iconst (-1), (0, (0, 0))), some (.ireturn, (0, (0, 0))), some (.aload_n 0, (0, (0, 0))), some (.iload_n 1, (0, (0, 0))), some (.iload_n 2, (0, (0, 0))), some (.invokevirtual 172, (131, (2, 0))), none, none, some (.iload_n 3, (0, (0, 0))), some (.ifCond .ne 10, (0, (0, 0))), none, none, some (.aload_n 0, (0, (0, 0))), some (.getfield 159, (8, (12, 0))), none, none, some (.goto 23, (0, (0, 0))), none, none, some (.iload_n 3, (0, (0, 0))), some (.iconst 3, (0, (0, 0))), some (.if_icmp .ne 10, (0, (0, 0))), none, none, some (.aload_n 0, (0, (0, 0))), some (.getfield 162, (8, (16, 0))), none, none, some (.goto 11, (0, (0, 0))), none, none, some (.aload_n 0, (0, (0, 0))), some (.getfield 47, (8, (15, 1))), none, none, some (.iload_n 3, (0, (0, 0))), some (.iconst 1, (0, (0, 0))), some (.isub, (0, (0, 0))), some (.iaload, (0, (0, 0))), some (.ireturn, (0, (0, 0)))]
def mt_133 : MT := ((yX8_ran, (cX8_ran, (4, (some .int)))), (8, (tb_133, [(34, []), (73, [])])))
def tb_134 : List (Option IE) := [some (.iload_n 1, (0, (0, 0))), some (.istore_n 2, (0, (0, 0))), some (.iconst 3, (0, (0, 0))), some (.istore_n 3, (0, (0, 0))), some (.iload_n 3, (0, (0, 0))), some (.ifCond .lt 22, (0, (0, 0))), none, none, some (.aload_n 0, (0, (0, 0))), some (.getfield 65, (8, (25, 1))), none, none, some (.iload_n 3, (0, (0, 0))), some (.iload_n 2, (0, (0, 0))), some (.iconst 5, (0, (0, 0))), some (.irem, (0, (0, 0))), some (.iastore, (0, (0, 0))), some (.iload_n 2, (0, (0, 0))), some (.iconst 5, (0, (0, 0))), some (.idiv, (0, (0, 0))), some (.istore_n 2, (0, (0, 0))), some (.iinc 3 (-1), (0, (0, 0))), none, none, some (.goto (-20), (0, (0, 0))), none, none, some (.aload_n 0, (0, (0, 0))), some (.iload_n 2, (0, (0, 0))), some (.bipush 6, (0, (0, 0))), none, some (.irem, (0, (0, 0))), some (.putfield 178, (8, (24, 0))), none, none, some (.aload_n 0, (0, (0, 0))), some (.iload_n 2, (0, (0, 0))), some (.bipush 6, (0, (0, 0))), none, some (.idiv, (0, (0, 0))), some (.putfield 181, (8, (23, 0))), none, none, some (.return_, (0, (0, 0)))]
def mt_134 : MT := ((yX8_apart, (cX8_apart, (4, none))), (8, (tb_134, [(4, [0, 2, 3])])))
def tb_135 : List (Option IE) := [some (.iconst 1, (0, (0, 0))), some (.istore_n 1, (0, (0, 0))), some (.bipush 6, (0, (0, 0))), none, some (.aload_n 0, (0, (0, 0))), some (.getfield 181, (8, (23, 0))), none, none, some (.imul, (0, (0, 0))), some (.aload_n 0, (0, (0, 0))), some (.getfield 178, (8, (24, 0))), none, none, some (.iadd, (0, (0, 0))), some (.istore_n 2, (0, (0, 0))), some (.iconst 0, (0, (0, 0))), some (.istore_n 3, (0, (0, 0))), some (.iload_n 3, (0, (0, 0))), some (.iconst 4, (0, (0, 0))), some (.if_icmp .ge 92, (0, (0, 0))), none, none, some (.iconst 0, (0, (0, 0))), some (.istore 4, (0, (0, 0))), none, some (.aload_n 0, (0, (0, 0))), some (.getfield 65, (8, (25, 1))), none, none, some (.iload_n 3, (0, (0, 0))), some (.iaload, (0, (0, 0))), some (.ifCond .le 59, (0, (0, 0))), none, none, some (.iconst 0, (0, (0, 0))), some (.istore 5, (0, (0, 0))), none, some (.iload 5, (0, (0, 0))), none, some (.iload_n 3, (0, (0, 0))), some (.if_icmp .ge 39, (0, (0, 0))), none, none, some (.aload_n 0, (0, (0, 0))), some (.getfield 65, (8, (25, 1))), none, none, some (.iload 5, (0, (0, 0))), none, some (.iaload, (0, (0, 0))), some (.aload_n 0, (0, (0, 0))), some (.getfield 65, (8, (25, 1))), none, none, some (.iload_n 3, (0, (0, 0))), some (.iaload, (0, (0, 0))), some (.if_icmp .ne 13, (0, (0, 0))), none, none, some (.aload_n 0, (0, (0, 0))), some (.getfield 68, (8, (26, 1))), none, none, some (.iload 5, (0, (0, 0))), none, some (.iaload, (0, (0, 0))), some (.goto 5, (0, (0, 0))), none, none, some (.iload 4, (0, (0, 0))), none, some (.istore 4, (0, (0, 0))), none, some (.iinc 5 1, (0, (0, 0))), none, none, some (.goto (-39), (0, (0, 0))), none, none, some (.iload 4, (0, (0, 0))), none, some (.ifCond .ne 9, (0, (0, 0))), none, none, some (.iload_n 1, (0, (0, 0))), some (.istore 4, (0, (0, 0))), none, some (.iinc 1 1, (0, (0, 0))), none, none, some (.aload_n 0, (0, (0, 0))), some (.getfield 68, (8, (26, 1))), none, none, some (.iload_n 3, (0, (0, 0))), some (.iload 4, (0, (0, 0))), none, some (.iastore, (0, (0, 0))), some (.iconst 5, (0, (0, 0))), some (.iload_n 2, (0, (0, 0))), some (.imul, (0, (0, 0))), some (.iload 4, (0, (0, 0))), none, some (.iadd, (0, (0, 0))), some (.istore_n 2, (0, (0, 0))), some (.iinc 3 1, (0, (0, 0))), none, none, some (.goto (-91), (0, (0, 0))), none, none, some (.iload_n 2, (0, (0, 0))), some (.ireturn, (0, (0, 0)))]
def mt_135 : MT := ((yX8_put, (cX8_put, (6, (some .int)))), (8, (tb_135, [(17, [0, 1, 2, 3]), (37, [0, 1, 2, 3, 4, 5]), (71, [0, 1, 2, 3, 5]), (90, [0, 1, 2, 3, 4])])))
def tb_136 : List (Option IE) := [some (.iconst 0, (0, (0, 0))), some (.istore_n 1, (0, (0, 0))), some (.iconst 0, (0, (0, 0))), some (.istore_n 2, (0, (0, 0))), some (.iload_n 2, (0, (0, 0))), some (.iconst 4, (0, (0, 0))), some (.if_icmp .ge 30, (0, (0, 0))), none, none, some (.aload_n 0, (0, (0, 0))), some (.getfield 65, (8, (25, 1))), none, none, some (.iload_n 2, (0, (0, 0))), some (.iaload, (0, (0, 0))), some (.iload_n 1, (0, (0, 0))), some (.if_icmp .le 12, (0, (0, 0))), none, none, some (.aload_n 0, (0, (0, 0))), some (.getfield 65, (8, (25, 1))), none, none, some (.iload_n 2, (0, (0, 0))), some (.iaload, (0, (0, 0))), some (.goto 4, (0, (0, 0))), none, none, some (.iload_n 1, (0, (0, 0))), some (.istore_n 1, (0, (0, 0))), some (.iinc 2 1, (0, (0, 0))), none, none, some (.goto (-29), (0, (0, 0))), none, none, some (.iload_n 1, (0, (0, 0))), some (.ireturn, (0, (0, 0)))]
def mt_136 : MT := ((yX8_most, (cX8_most, (3, (some .int)))), (8, (tb_136, [(4, [0, 1, 2]), (29, [0, 2])])))
def tb_137 : List (Option IE) := [some (.aload_n 0, (0, (0, 0))), some (.getfield 65, (8, (25, 1))), none, none, some (.iload_n 3, (0, (0, 0))), some (.iaload, (0, (0, 0))), some (.iload 5, (0, (0, 0))), none, some (.if_icmp .ne 7, (0, (0, 0))), none, none, some (.iconst 0, (0, (0, 0))), some (.goto 21, (0, (0, 0))), none, none, some (.aload_n 0, (0, (0, 0))), some (.getfield 65, (8, (25, 1))), none, none, some (.iload_n 3, (0, (0, 0))), some (.iconst 1, (0, (0, 0))), some (.iadd, (0, (0, 0))), some (.iaload, (0, (0, 0))), some (.iload 5, (0, (0, 0))), none, some (.if_icmp .ne 7, (0, (0, 0))), none, none, some (.iconst 1, (0, (0, 0))), some (.goto 4, (0, (0, 0))), none, none, some (.iconst 2, (0, (0, 0))), some (.istore 6, (0, (0, 0))), none, some (.iload_n 1, (0, (0, 0))), some (.iload_n 2, (0, (0, 0))), some (.iload 4, (0, (0, 0))), none, some (.iload 6, (0, (0, 0))), none, some (.invokestatic 151, (115, (4, 1))), none, none, some (.istore 7, (0, (0, 0))), none, some (.aload_n 0, (0, (0, 0))), some (.getfield 29, (8, (8, 1))), none, none, some (.iload 7, (0, (0, 0))), none, some (.iaload, (0, (0, 0))), some (.bipush (-4), (0, (0, 0))), none, some (.if_icmp .eq 19, (0, (0, 0))), none, none, some (.aload_n 0, (0, (0, 0))), some (.getfield 65, (8, (25, 1))), none, none, some (.iload_n 3, (0, (0, 0))), some (.aload_n 0, (0, (0, 0))), some (.getfield 29, (8, (8, 1))), none, none, some (.iload 7, (0, (0, 0))), none, some (.iaload, (0, (0, 0))), some (.iadd, (0, (0, 0))), some (.iload 5, (0, (0, 0))), none, some (.iastore, (0, (0, 0))), some (.aload_n 0, (0, (0, 0))), some (.getfield 26, (8, (7, 1))), none, none, some (.iload 7, (0, (0, 0))), none, some (.iaload, (0, (0, 0))), some (.ireturn, (0, (0, 0)))]
def mt_137 : MT := ((yX8_goesOn, (cX8_goesOn, (8, (some .int)))), (8, (tb_137, [(33, [0, 1, 2, 3, 4, 5]), (74, [0, 7])])))
def tb_138 : List (Option IE) := [some (.aload_n 0, (0, (0, 0))), some (.iload_n 3, (0, (0, 0))), some (.invokevirtual 184, (134, (1, 0))), none, none, some (.aload_n 0, (0, (0, 0))), some (.aload_n 0, (0, (0, 0))), some (.iload_n 1, (0, (0, 0))), some (.aload_n 0, (0, (0, 0))), some (.getfield 181, (8, (23, 0))), none, none, some (.iconst 0, (0, (0, 0))), some (.iload 4, (0, (0, 0))), none, some (.bipush 8, (0, (0, 0))), none, some (.idiv, (0, (0, 0))), some (.iload 4, (0, (0, 0))), none, some (.bipush 8, (0, (0, 0))), none, some (.irem, (0, (0, 0))), some (.invokevirtual 188, (137, (5, 1))), none, none, some (.putfield 181, (8, (23, 0))), none, none, some (.iload_n 2, (0, (0, 0))), some (.bipush (-4), (0, (0, 0))), none, some (.if_icmp .eq 27, (0, (0, 0))), none, none, some (.aload_n 0, (0, (0, 0))), some (.aload_n 0, (0, (0, 0))), some (.iload_n 2, (0, (0, 0))), some (.aload_n 0, (0, (0, 0))), some (.getfield 178, (8, (24, 0))), none, none, some (.iconst 2, (0, (0, 0))), some (.iload 4, (0, (0, 0))), none, some (.bipush 8, (0, (0, 0))), none, some (.idiv, (0, (0, 0))), some (.iload 4, (0, (0, 0))), none, some (.bipush 8, (0, (0, 0))), none, some (.irem, (0, (0, 0))), some (.invokevirtual 188, (137, (5, 1))), none, none, some (.putfield 178, (8, (24, 0))), none, none, some (.aload_n 0, (0, (0, 0))), some (.invokevirtual 192, (135, (0, 1))), none, none, some (.ireturn, (0, (0, 0)))]
def mt_138 : MT := ((yX8_behind, (cX8_behind, (5, (some .int)))), (8, (tb_138, [(59, [0])])))
def tb_139 : List (Option IE) := [some (.aload_n 0, (0, (0, 0))), some (.iload_n 1, (0, (0, 0))), some (.invokevirtual 184, (134, (1, 0))), none, none, some (.aload_n 0, (0, (0, 0))), some (.invokevirtual 196, (136, (0, 1))), none, none, some (.ireturn, (0, (0, 0)))]
def mt_139 : MT := ((yX8_labelsIn, (cX8_labelsIn, (2, (some .int)))), (8, (tb_139, [])))
def tb_140 : List (Option IE) := [some (.iconst 0, (0, (0, 0))), some (.istore_n 3, (0, (0, 0))), some (.iload_n 3, (0, (0, 0))), some (.sipush 22500, (0, (0, 0))), none, none, some (.if_icmp .ge 16, (0, (0, 0))), none, none, some (.aload_n 0, (0, (0, 0))), some (.getfield 50, (8, (17, 1))), none, none, some (.iload_n 3, (0, (0, 0))), some (.iconst 0, (0, (0, 0))), some (.bastore, (0, (0, 0))), some (.iinc 3 1, (0, (0, 0))), none, none, some (.goto (-17), (0, (0, 0))), none, none, some (.aload_n 0, (0, (0, 0))), some (.getfield 50, (8, (17, 1))), none, none, some (.iconst 0, (0, (0, 0))), some (.iconst 1, (0, (0, 0))), some (.bastore, (0, (0, 0))), some (.aload_n 0, (0, (0, 0))), some (.getfield 56, (8, (19, 1))), none, none, some (.iconst 0, (0, (0, 0))), some (.iconst 0, (0, (0, 0))), some (.iastore, (0, (0, 0))), some (.aload_n 0, (0, (0, 0))), some (.getfield 59, (8, (20, 1))), none, none, some (.iconst 0, (0, (0, 0))), some (.bipush (-4), (0, (0, 0))), none, some (.iastore, (0, (0, 0))), some (.aload_n 0, (0, (0, 0))), some (.iconst 1, (0, (0, 0))), some (.putfield 199, (8, (22, 0))), none, none, some (.iconst 0, (0, (0, 0))), some (.istore_n 3, (0, (0, 0))), some (.iload_n 3, (0, (0, 0))), some (.aload_n 0, (0, (0, 0))), some (.getfield 199, (8, (22, 0))), none, none, some (.if_icmp .ge 142, (0, (0, 0))), none, none, some (.aload_n 0, (0, (0, 0))), some (.aload_n 0, (0, (0, 0))), some (.getfield 56, (8, (19, 1))), none, none, some (.iload_n 3, (0, (0, 0))), some (.iaload, (0, (0, 0))), some (.invokevirtual 202, (139, (1, 1))), none, none, some (.istore 4, (0, (0, 0))), none, some (.iconst 0, (0, (0, 0))), some (.istore 5, (0, (0, 0))), none, some (.iload 5, (0, (0, 0))), none, some (.iconst 3, (0, (0, 0))), some (.if_icmp .ge 115, (0, (0, 0))), none, none, some (.iconst 1, (0, (0, 0))), some (.istore 6, (0, (0, 0))), none, some (.iload 6, (0, (0, 0))), none, some (.iload 4, (0, (0, 0))), none, some (.iconst 1, (0, (0, 0))), some (.iadd, (0, (0, 0))), some (.if_icmp .gt 97, (0, (0, 0))), none, none, some (.aload_n 0, (0, (0, 0))), some (.iload_n 1, (0, (0, 0))), some (.iload_n 2, (0, (0, 0))), some (.aload_n 0, (0, (0, 0))), some (.getfield 56, (8, (19, 1))), none, none, some (.iload_n 3, (0, (0, 0))), some (.iaload, (0, (0, 0))), some (.bipush 8, (0, (0, 0))), none, some (.iload 5, (0, (0, 0))), none, some (.imul, (0, (0, 0))), some (.iload 6, (0, (0, 0))), none, some (.iadd, (0, (0, 0))), some (.invokevirtual 205, (138, (4, 1))), none, none, some (.istore 7, (0, (0, 0))), none, some (.aload_n 0, (0, (0, 0))), some (.getfield 50, (8, (17, 1))), none, none, some (.iload 7, (0, (0, 0))), none, some (.baload, (0, (0, 0))), some (.ifCond .ne 59, (0, (0, 0))), none, none, some (.aload_n 0, (0, (0, 0))), some (.getfield 50, (8, (17, 1))), none, none, some (.iload 7, (0, (0, 0))), none, some (.iconst 1, (0, (0, 0))), some (.bastore, (0, (0, 0))), some (.aload_n 0, (0, (0, 0))), some (.getfield 56, (8, (19, 1))), none, none, some (.aload_n 0, (0, (0, 0))), some (.getfield 199, (8, (22, 0))), none, none, some (.iload 7, (0, (0, 0))), none, some (.iastore, (0, (0, 0))), some (.aload_n 0, (0, (0, 0))), some (.getfield 59, (8, (20, 1))), none, none, some (.aload_n 0, (0, (0, 0))), some (.getfield 199, (8, (22, 0))), none, none, some (.iload_n 3, (0, (0, 0))), some (.iastore, (0, (0, 0))), some (.aload_n 0, (0, (0, 0))), some (.getfield 62, (8, (21, 1))), none, none, some (.aload_n 0, (0, (0, 0))), some (.getfield 199, (8, (22, 0))), none, none, some (.bipush 8, (0, (0, 0))), none, some (.iload 5, (0, (0, 0))), none, some (.imul, (0, (0, 0))), some (.iload 6, (0, (0, 0))), none, some (.iadd, (0, (0, 0))), some (.iastore, (0, (0, 0))), some (.aload_n 0, (0, (0, 0))), some (.dup, (0, (0, 0))), some (.getfield 199, (8, (22, 0))), none, none, some (.iconst 1, (0, (0, 0))), some (.iadd, (0, (0, 0))), some (.putfield 199, (8, (22, 0))), none, none, some (.iinc 6 1, (0, (0, 0))), none, none, some (.goto (-100), (0, (0, 0))), none, none, some (.iinc 5 1, (0, (0, 0))), none, none, some (.goto (-115), (0, (0, 0))), none, none, some (.iinc 3 1, (0, (0, 0))), none, none, some (.goto (-144), (0, (0, 0))), none, none, some (.return_, (0, (0, 0)))]
def mt_140 : MT := ((yX8_explores, (cX8_explores, (8, none))), (8, (tb_140, [(2, [0, 1, 2, 3]), (51, [0, 1, 2, 3]), (74, [0, 1, 2, 3, 4, 5]), (83, [0, 1, 2, 3, 4, 5, 6]), (180, [0, 1, 2, 3, 4, 5, 6])])))
def tb_141 : List (Option IE) := [some (.aload_n 0, (0, (0, 0))), some (.iload_n 2, (0, (0, 0))), some (.invokevirtual 184, (134, (1, 0))), none, none, some (.aload_n 0, (0, (0, 0))), some (.getfield 22, (8, (6, 1))), none, none, some (.bipush 6, (0, (0, 0))), none, some (.iload_n 1, (0, (0, 0))), some (.imul, (0, (0, 0))), some (.aload_n 0, (0, (0, 0))), some (.getfield 181, (8, (23, 0))), none, none, some (.iadd, (0, (0, 0))), some (.baload, (0, (0, 0))), some (.ireturn, (0, (0, 0)))]
def mt_141 : MT := ((yX8_isGoodA, (cX8_isGoodA, (3, (some .boolean)))), (8, (tb_141, [])))
def tb_142 : List (Option IE) := [some (.aload_n 0, (0, (0, 0))), some (.iload_n 2, (0, (0, 0))), some (.invokevirtual 184, (134, (1, 0))), none, none, some (.aload_n 0, (0, (0, 0))), some (.getfield 22, (8, (6, 1))), none, none, some (.bipush 6, (0, (0, 0))), none, some (.iload_n 1, (0, (0, 0))), some (.imul, (0, (0, 0))), some (.aload_n 0, (0, (0, 0))), some (.getfield 178, (8, (24, 0))), none, none, some (.iadd, (0, (0, 0))), some (.baload, (0, (0, 0))), some (.ireturn, (0, (0, 0)))]
def mt_142 : MT := ((yX8_isGoodB, (cX8_isGoodB, (3, (some .boolean)))), (8, (tb_142, [])))
def tb_143 : List (Option IE) := [some (.aload_n 0, (0, (0, 0))), some (.iload_n 1, (0, (0, 0))), some (.iload_n 2, (0, (0, 0))), some (.invokevirtual 208, (140, (2, 0))), none, none, some (.iconst 0, (0, (0, 0))), some (.istore_n 3, (0, (0, 0))), some (.iload_n 3, (0, (0, 0))), some (.aload_n 0, (0, (0, 0))), some (.getfield 199, (8, (22, 0))), none, none, some (.if_icmp .ge 59, (0, (0, 0))), none, none, some (.iload_n 2, (0, (0, 0))), some (.bipush (-4), (0, (0, 0))), none, some (.if_icmp .ne 20, (0, (0, 0))), none, none, some (.aload_n 0, (0, (0, 0))), some (.iload_n 1, (0, (0, 0))), some (.aload_n 0, (0, (0, 0))), some (.getfield 56, (8, (19, 1))), none, none, some (.iload_n 3, (0, (0, 0))), some (.iaload, (0, (0, 0))), some (.invokevirtual 211, (141, (2, 3))), none, none, some (.ifCond .eq 33, (0, (0, 0))), none, none, some (.goto 28, (0, (0, 0))), none, none, some (.aload_n 0, (0, (0, 0))), some (.iload_n 1, (0, (0, 0))), some (.aload_n 0, (0, (0, 0))), some (.getfield 56, (8, (19, 1))), none, none, some (.iload_n 3, (0, (0, 0))), some (.iaload, (0, (0, 0))), some (.invokevirtual 211, (141, (2, 3))), none, none, some (.aload_n 0, (0, (0, 0))), some (.iload_n 2, (0, (0, 0))), some (.aload_n 0, (0, (0, 0))), some (.getfield 56, (8, (19, 1))), none, none, some (.iload_n 3, (0, (0, 0))), some (.iaload, (0, (0, 0))), some (.invokevirtual 214, (142, (2, 3))), none, none, some (.if_icmp .eq 5, (0, (0, 0))), none, none, some (.iload_n 3, (0, (0, 0))), some (.ireturn, (0, (0, 0))), some (.iinc 3 1, (0, (0, 0))), none, none, some (.goto (-61), (0, (0, 0))), none, none, some (.bipush (-4), (0, (0, 0))), none, some (.ireturn, (0, (0, 0)))]
def mt_143 : MT := ((yX8_wanted, (cX8_wanted, (4, (some .int)))), (8, (tb_143, [(8, [0, 1, 2, 3]), (64, [3]), (66, [0, 1, 2, 3])])))
def tb_144 : List (Option IE) := [some (.iconst 0, (0, (0, 0))), some (.istore_n 2, (0, (0, 0))), some (.iload_n 1, (0, (0, 0))), some (.istore_n 3, (0, (0, 0))), some (.aload_n 0, (0, (0, 0))), some (.getfield 59, (8, (20, 1))), none, none, some (.iload_n 3, (0, (0, 0))), some (.iaload, (0, (0, 0))), some (.bipush (-4), (0, (0, 0))), none, some (.if_icmp .eq 16, (0, (0, 0))), none, none, some (.iinc 2 1, (0, (0, 0))), none, none, some (.aload_n 0, (0, (0, 0))), some (.getfield 59, (8, (20, 1))), none, none, some (.iload_n 3, (0, (0, 0))), some (.iaload, (0, (0, 0))), some (.istore_n 3, (0, (0, 0))), some (.goto (-21), (0, (0, 0))), none, none, some (.iload_n 2, (0, (0, 0))), some (.istore_n 3, (0, (0, 0))), some (.iload_n 1, (0, (0, 0))), some (.istore 4, (0, (0, 0))), none, some (.aload_n 0, (0, (0, 0))), some (.getfield 59, (8, (20, 1))), none, none, some (.iload 4, (0, (0, 0))), none, some (.iaload, (0, (0, 0))), some (.bipush (-4), (0, (0, 0))), none, some (.if_icmp .eq 26, (0, (0, 0))), none, none, some (.iinc 3 (-1), (0, (0, 0))), none, none, some (.aload_n 0, (0, (0, 0))), some (.getfield 71, (8, (27, 1))), none, none, some (.iload_n 3, (0, (0, 0))), some (.iload 4, (0, (0, 0))), none, some (.iastore, (0, (0, 0))), some (.aload_n 0, (0, (0, 0))), some (.getfield 59, (8, (20, 1))), none, none, some (.iload 4, (0, (0, 0))), none, some (.iaload, (0, (0, 0))), some (.istore 4, (0, (0, 0))), none, some (.goto (-32), (0, (0, 0))), none, none, some (.iload_n 2, (0, (0, 0))), some (.ireturn, (0, (0, 0)))]
def mt_144 : MT := ((yX8_lines, (cX8_lines, (5, (some .int)))), (8, (tb_144, [(4, [0, 1, 2, 3]), (33, [0, 2, 3, 4])])))
def tb_145 : List (Option IE) := [some (.iconst 0, (0, (0, 0))), some (.istore 4, (0, (0, 0))), none, some (.iconst 0, (0, (0, 0))), some (.istore 5, (0, (0, 0))), none, some (.iload 5, (0, (0, 0))), none, some (.iload_n 3, (0, (0, 0))), some (.if_icmp .gt 169, (0, (0, 0))), none, none, some (.aload_n 0, (0, (0, 0))), some (.getfield 62, (8, (21, 1))), none, none, some (.aload_n 0, (0, (0, 0))), some (.getfield 71, (8, (27, 1))), none, none, some (.iload 5, (0, (0, 0))), none, some (.iaload, (0, (0, 0))), some (.iaload, (0, (0, 0))), some (.istore 6, (0, (0, 0))), none, some (.aload_n 0, (0, (0, 0))), some (.getfield 56, (8, (19, 1))), none, none, some (.aload_n 0, (0, (0, 0))), some (.getfield 59, (8, (20, 1))), none, none, some (.aload_n 0, (0, (0, 0))), some (.getfield 71, (8, (27, 1))), none, none, some (.iload 5, (0, (0, 0))), none, some (.iaload, (0, (0, 0))), some (.iaload, (0, (0, 0))), some (.iaload, (0, (0, 0))), some (.istore 7, (0, (0, 0))), none, some (.iload 6, (0, (0, 0))), none, some (.bipush 8, (0, (0, 0))), none, some (.irem, (0, (0, 0))), some (.istore 8, (0, (0, 0))), none, some (.aload_n 0, (0, (0, 0))), some (.iload 6, (0, (0, 0))), none, some (.bipush 8, (0, (0, 0))), none, some (.idiv, (0, (0, 0))), some (.putfield 217, (8, (28, 0))), none, none, some (.aload_n 0, (0, (0, 0))), some (.iload 7, (0, (0, 0))), none, some (.invokevirtual 184, (134, (1, 0))), none, none, some (.aload_n 0, (0, (0, 0))), some (.bipush (-4), (0, (0, 0))), none, some (.putfield 220, (8, (29, 0))), none, none, some (.iconst 0, (0, (0, 0))), some (.istore 9, (0, (0, 0))), none, some (.iload 9, (0, (0, 0))), none, some (.iconst 4, (0, (0, 0))), some (.if_icmp .ge 39, (0, (0, 0))), none, none, some (.aload_n 0, (0, (0, 0))), some (.aload_n 0, (0, (0, 0))), some (.getfield 65, (8, (25, 1))), none, none, some (.iload 9, (0, (0, 0))), none, some (.iaload, (0, (0, 0))), some (.iload 8, (0, (0, 0))), none, some (.if_icmp .ne 13, (0, (0, 0))), none, none, some (.aload_n 0, (0, (0, 0))), some (.getfield 74, (8, (30, 1))), none, none, some (.iload 9, (0, (0, 0))), none, some (.iaload, (0, (0, 0))), some (.goto 7, (0, (0, 0))), none, none, some (.aload_n 0, (0, (0, 0))), some (.getfield 220, (8, (29, 0))), none, none, some (.putfield 220, (8, (29, 0))), none, none, some (.iinc 9 1, (0, (0, 0))), none, none, some (.goto (-39), (0, (0, 0))), none, none, some (.aload_n 0, (0, (0, 0))), some (.getfield 220, (8, (29, 0))), none, none, some (.bipush (-4), (0, (0, 0))), none, some (.if_icmp .ne 12, (0, (0, 0))), none, none, some (.aload_n 0, (0, (0, 0))), some (.iload 4, (0, (0, 0))), none, some (.putfield 220, (8, (29, 0))), none, none, some (.iinc 4 1, (0, (0, 0))), none, none, some (.aload_n 0, (0, (0, 0))), some (.iload_n 1, (0, (0, 0))), some (.aload_n 0, (0, (0, 0))), some (.getfield 181, (8, (23, 0))), none, none, some (.iconst 0, (0, (0, 0))), some (.iload 8, (0, (0, 0))), none, some (.invokevirtual 223, (146, (4, 0))), none, none, some (.iload_n 2, (0, (0, 0))), some (.bipush (-4), (0, (0, 0))), none, some (.if_icmp .eq 21, (0, (0, 0))), none, none, some (.aload_n 0, (0, (0, 0))), some (.iload 7, (0, (0, 0))), none, some (.invokevirtual 184, (134, (1, 0))), none, none, some (.aload_n 0, (0, (0, 0))), some (.iload_n 2, (0, (0, 0))), some (.aload_n 0, (0, (0, 0))), some (.getfield 178, (8, (24, 0))), none, none, some (.iconst 2, (0, (0, 0))), some (.iload 8, (0, (0, 0))), none, some (.invokevirtual 223, (146, (4, 0))), none, none, some (.iinc 5 1, (0, (0, 0))), none, none, some (.goto (-169), (0, (0, 0))), none, none, some (.return_, (0, (0, 0)))]
def mt_145 : MT := ((yX8_tells, (cX8_tells, (10, none))), (8, (tb_145, [(6, [0, 1, 2, 3, 4, 5]), (76, [0, 1, 2, 3, 4, 5, 7, 8, 9]), (109, [0, 1, 2, 3, 4, 5, 7, 8, 9]), (136, [0, 1, 2, 3, 4, 5, 7, 8]), (172, [0, 1, 2, 3, 4, 5])])))
def tb_146 : List (Option IE) := [some (.aload_n 0, (0, (0, 0))), some (.getfield 65, (8, (25, 1))), none, none, some (.iload_n 3, (0, (0, 0))), some (.iaload, (0, (0, 0))), some (.iload 4, (0, (0, 0))), none, some (.if_icmp .ne 7, (0, (0, 0))), none, none, some (.iconst 0, (0, (0, 0))), some (.goto 21, (0, (0, 0))), none, none, some (.aload_n 0, (0, (0, 0))), some (.getfield 65, (8, (25, 1))), none, none, some (.iload_n 3, (0, (0, 0))), some (.iconst 1, (0, (0, 0))), some (.iadd, (0, (0, 0))), some (.iaload, (0, (0, 0))), some (.iload 4, (0, (0, 0))), none, some (.if_icmp .ne 7, (0, (0, 0))), none, none, some (.iconst 1, (0, (0, 0))), some (.goto 4, (0, (0, 0))), none, none, some (.iconst 2, (0, (0, 0))), some (.istore 5, (0, (0, 0))), none, some (.aload_n 0, (0, (0, 0))), some (.getfield 29, (8, (8, 1))), none, none, some (.iload_n 1, (0, (0, 0))), some (.iload_n 2, (0, (0, 0))), some (.aload_n 0, (0, (0, 0))), some (.getfield 217, (8, (28, 0))), none, none, some (.iload 5, (0, (0, 0))), none, some (.invokestatic 151, (115, (4, 1))), none, none, some (.iaload, (0, (0, 0))), some (.istore 6, (0, (0, 0))), none, some (.iload 6, (0, (0, 0))), none, some (.bipush (-4), (0, (0, 0))), none, some (.if_icmp .eq 16, (0, (0, 0))), none, none, some (.aload_n 0, (0, (0, 0))), some (.getfield 74, (8, (30, 1))), none, none, some (.iload_n 3, (0, (0, 0))), some (.iload 6, (0, (0, 0))), none, some (.iadd, (0, (0, 0))), some (.aload_n 0, (0, (0, 0))), some (.getfield 220, (8, (29, 0))), none, none, some (.iastore, (0, (0, 0))), some (.return_, (0, (0, 0)))]
def mt_146 : MT := ((yX8_keepsReal, (cX8_keepsReal, (7, none))), (8, (tb_146, [(33, [0, 1, 2, 3]), (73, [])])))
def tb_147 : List (Option IE) := [some (.aload_n 0, (0, (0, 0))), some (.iload_n 1, (0, (0, 0))), some (.iload_n 2, (0, (0, 0))), some (.invokevirtual 226, (143, (2, 1))), none, none, some (.istore_n 3, (0, (0, 0))), some (.iload_n 3, (0, (0, 0))), some (.bipush (-4), (0, (0, 0))), none, some (.if_icmp .ne 8, (0, (0, 0))), none, none, some (.bipush (-4), (0, (0, 0))), none, some (.goto 8, (0, (0, 0))), none, none, some (.aload_n 0, (0, (0, 0))), some (.iload_n 3, (0, (0, 0))), some (.invokevirtual 229, (144, (1, 1))), none, none, some (.ireturn, (0, (0, 0)))]
def mt_147 : MT := ((yX8_lengthOf, (cX8_lengthOf, (4, (some .int)))), (8, (tb_147, [(23, [])])))
def tb_148 : List (Option IE) := [some (.aload_n 0, (0, (0, 0))), some (.iload_n 1, (0, (0, 0))), some (.iload_n 2, (0, (0, 0))), some (.invokevirtual 232, (147, (2, 1))), none, none, some (.istore 5, (0, (0, 0))), none, some (.iload_n 3, (0, (0, 0))), some (.i2l, (0, (0, 0))), some (.lconst 0, (0, (0, 0))), some (.iload 5, (0, (0, 0))), none, some (.iconst 1, (0, (0, 0))), some (.isub, (0, (0, 0))), some (.i2l, (0, (0, 0))), some (.invokestatic 109, (107, (3, 3))), none, none, some (.ifCond .eq 14, (0, (0, 0))), none, none, some (.iload 4, (0, (0, 0))), none, some (.i2l, (0, (0, 0))), some (.lconst 0, (0, (0, 0))), some (.lconst 1, (0, (0, 0))), some (.invokestatic 109, (107, (3, 3))), none, none, some (.ifCond .ne 5, (0, (0, 0))), none, none, some (.iconst (-1), (0, (0, 0))), some (.ireturn, (0, (0, 0))), some (.aload_n 0, (0, (0, 0))), some (.iload_n 1, (0, (0, 0))), some (.iload_n 2, (0, (0, 0))), some (.iload_n 3, (0, (0, 0))), some (.invokevirtual 235, (145, (3, 0))), none, none, some (.iload 4, (0, (0, 0))), none, some (.ifCond .ne 10, (0, (0, 0))), none, none, some (.aload_n 0, (0, (0, 0))), some (.getfield 217, (8, (28, 0))), none, none, some (.goto 7, (0, (0, 0))), none, none, some (.aload_n 0, (0, (0, 0))), some (.getfield 220, (8, (29, 0))), none, none, some (.ireturn, (0, (0, 0)))]
def mt_148 : MT := ((yX8_atOf, (cX8_atOf, (6, (some .int)))), (8, (tb_148, [(33, []), (58, [])])))
def tb_149 : List (Option IE) := [some (.aload_n 0, (0, (0, 0))), some (.iload_n 1, (0, (0, 0))), some (.bipush (-4), (0, (0, 0))), none, some (.invokevirtual 208, (140, (2, 0))), none, none, some (.iconst 0, (0, (0, 0))), some (.istore_n 2, (0, (0, 0))), some (.iload_n 2, (0, (0, 0))), some (.aload_n 0, (0, (0, 0))), some (.getfield 199, (8, (22, 0))), none, none, some (.if_icmp .ge 31, (0, (0, 0))), none, none, some (.aload_n 0, (0, (0, 0))), some (.getfield 53, (8, (18, 1))), none, none, some (.aload_n 0, (0, (0, 0))), some (.getfield 56, (8, (19, 1))), none, none, some (.iload_n 2, (0, (0, 0))), some (.iaload, (0, (0, 0))), some (.aload_n 0, (0, (0, 0))), some (.iload_n 1, (0, (0, 0))), some (.aload_n 0, (0, (0, 0))), some (.getfield 56, (8, (19, 1))), none, none, some (.iload_n 2, (0, (0, 0))), some (.iaload, (0, (0, 0))), some (.invokevirtual 211, (141, (2, 3))), none, none, some (.bastore, (0, (0, 0))), some (.iinc 2 1, (0, (0, 0))), none, none, some (.goto (-33), (0, (0, 0))), none, none, some (.iconst 1, (0, (0, 0))), some (.istore_n 2, (0, (0, 0))), some (.iload_n 2, (0, (0, 0))), some (.ifCond .eq 66, (0, (0, 0))), none, none, some (.iconst 0, (0, (0, 0))), some (.istore_n 2, (0, (0, 0))), some (.iconst 0, (0, (0, 0))), some (.istore_n 3, (0, (0, 0))), some (.iload_n 3, (0, (0, 0))), some (.aload_n 0, (0, (0, 0))), some (.getfield 199, (8, (22, 0))), none, none, some (.if_icmp .ge 51, (0, (0, 0))), none, none, some (.aload_n 0, (0, (0, 0))), some (.getfield 53, (8, (18, 1))), none, none, some (.aload_n 0, (0, (0, 0))), some (.getfield 56, (8, (19, 1))), none, none, some (.iload_n 3, (0, (0, 0))), some (.iaload, (0, (0, 0))), some (.baload, (0, (0, 0))), some (.ifCond .ne 31, (0, (0, 0))), none, none, some (.aload_n 0, (0, (0, 0))), some (.iload_n 1, (0, (0, 0))), some (.aload_n 0, (0, (0, 0))), some (.getfield 56, (8, (19, 1))), none, none, some (.iload_n 3, (0, (0, 0))), some (.iaload, (0, (0, 0))), some (.invokevirtual 238, (150, (2, 3))), none, none, some (.ifCond .eq 17, (0, (0, 0))), none, none, some (.aload_n 0, (0, (0, 0))), some (.getfield 53, (8, (18, 1))), none, none, some (.aload_n 0, (0, (0, 0))), some (.getfield 56, (8, (19, 1))), none, none, some (.iload_n 3, (0, (0, 0))), some (.iaload, (0, (0, 0))), some (.iconst 1, (0, (0, 0))), some (.bastore, (0, (0, 0))), some (.iconst 1, (0, (0, 0))), some (.istore_n 2, (0, (0, 0))), some (.iinc 3 1, (0, (0, 0))), none, none, some (.goto (-53), (0, (0, 0))), none, none, some (.goto (-64), (0, (0, 0))), none, none, some (.return_, (0, (0, 0)))]
def mt_149 : MT := ((yX8_findAlive, (cX8_findAlive, (4, none))), (8, (tb_149, [(9, [0, 1, 2]), (47, [0, 1, 2]), (55, [0, 1, 2, 3]), (105, [0, 1, 2, 3])])))
def tb_150 : List (Option IE) := [some (.aload_n 0, (0, (0, 0))), some (.iload_n 2, (0, (0, 0))), some (.invokevirtual 202, (139, (1, 1))), none, none, some (.istore_n 3, (0, (0, 0))), some (.iconst 0, (0, (0, 0))), some (.istore 4, (0, (0, 0))), none, some (.iconst 0, (0, (0, 0))), some (.istore 5, (0, (0, 0))), none, some (.iload 5, (0, (0, 0))), none, some (.iconst 3, (0, (0, 0))), some (.if_icmp .ge 62, (0, (0, 0))), none, none, some (.iconst 1, (0, (0, 0))), some (.istore 6, (0, (0, 0))), none, some (.iload 6, (0, (0, 0))), none, some (.iload_n 3, (0, (0, 0))), some (.iconst 1, (0, (0, 0))), some (.iadd, (0, (0, 0))), some (.if_icmp .gt 45, (0, (0, 0))), none, none, some (.iload 4, (0, (0, 0))), none, some (.ifCond .ne 27, (0, (0, 0))), none, none, some (.aload_n 0, (0, (0, 0))), some (.getfield 53, (8, (18, 1))), none, none, some (.aload_n 0, (0, (0, 0))), some (.iload_n 1, (0, (0, 0))), some (.bipush (-4), (0, (0, 0))), none, some (.iload_n 2, (0, (0, 0))), some (.bipush 8, (0, (0, 0))), none, some (.iload 5, (0, (0, 0))), none, some (.imul, (0, (0, 0))), some (.iload 6, (0, (0, 0))), none, some (.iadd, (0, (0, 0))), some (.invokevirtual 205, (138, (4, 1))), none, none, some (.baload, (0, (0, 0))), some (.ifCond .eq 7, (0, (0, 0))), none, none, some (.iconst 1, (0, (0, 0))), some (.goto 4, (0, (0, 0))), none, none, some (.iconst 0, (0, (0, 0))), some (.istore 4, (0, (0, 0))), none, some (.iinc 6 1, (0, (0, 0))), none, none, some (.goto (-47), (0, (0, 0))), none, none, some (.iinc 5 1, (0, (0, 0))), none, none, some (.goto (-62), (0, (0, 0))), none, none, some (.iload 4, (0, (0, 0))), none, some (.ireturn, (0, (0, 0)))]
def mt_150 : MT := ((yX8_leadsOn, (cX8_leadsOn, (7, (some .boolean)))), (8, (tb_150, [(12, [0, 1, 2, 3, 4, 5]), (21, [0, 1, 2, 3, 4, 5, 6]), (58, [0, 1, 2, 3, 5, 6]), (63, [0, 1, 2, 3, 5, 6])])))
def tb_151 : List (Option IE) := [some (.aload_n 0, (0, (0, 0))), some (.iload_n 1, (0, (0, 0))), some (.putfield 181, (8, (23, 0))), none, none, some (.aload_n 0, (0, (0, 0))), some (.iconst 0, (0, (0, 0))), some (.putfield 178, (8, (24, 0))), none, none, some (.aload_n 0, (0, (0, 0))), some (.getfield 65, (8, (25, 1))), none, none, some (.iconst 0, (0, (0, 0))), some (.iload_n 2, (0, (0, 0))), some (.ifCond .eq 7, (0, (0, 0))), none, none, some (.iconst 1, (0, (0, 0))), some (.goto 4, (0, (0, 0))), none, none, some (.iconst 0, (0, (0, 0))), some (.iastore, (0, (0, 0))), some (.aload_n 0, (0, (0, 0))), some (.getfield 65, (8, (25, 1))), none, none, some (.iconst 1, (0, (0, 0))), some (.iload 4, (0, (0, 0))), none, some (.ifCond .ne 7, (0, (0, 0))), none, none, some (.iconst 0, (0, (0, 0))), some (.goto 18, (0, (0, 0))), none, none, some (.iload_n 2, (0, (0, 0))), some (.ifCond .eq 13, (0, (0, 0))), none, none, some (.iload_n 3, (0, (0, 0))), some (.iload 5, (0, (0, 0))), none, some (.if_icmp .ne 7, (0, (0, 0))), none, none, some (.iconst 1, (0, (0, 0))), some (.goto 4, (0, (0, 0))), none, none, some (.iconst 2, (0, (0, 0))), some (.iastore, (0, (0, 0))), some (.aload_n 0, (0, (0, 0))), some (.getfield 65, (8, (25, 1))), none, none, some (.iconst 2, (0, (0, 0))), some (.iconst 0, (0, (0, 0))), some (.iastore, (0, (0, 0))), some (.aload_n 0, (0, (0, 0))), some (.getfield 65, (8, (25, 1))), none, none, some (.iconst 3, (0, (0, 0))), some (.iconst 0, (0, (0, 0))), some (.iastore, (0, (0, 0))), some (.aload_n 0, (0, (0, 0))), some (.invokevirtual 192, (135, (0, 1))), none, none, some (.ireturn, (0, (0, 0)))]
def mt_151 : MT := ((yX8_orbitOf, (cX8_orbitOf, (6, (some .int)))), (8, (tb_151, [(24, [0, 2, 3, 4, 5]), (53, [0]), (54, [0])])))
def tb_152 : List (Option IE) := [some (.aload_n 0, (0, (0, 0))), some (.iload_n 1, (0, (0, 0))), some (.invokevirtual 124, (113, (1, 3))), none, none, some (.ifCond .ne 5, (0, (0, 0))), none, none, some (.iconst (-1), (0, (0, 0))), some (.ireturn, (0, (0, 0))), some (.aload_n 0, (0, (0, 0))), some (.iload_n 1, (0, (0, 0))), some (.invokevirtual 241, (149, (1, 0))), none, none, some (.aload_n 0, (0, (0, 0))), some (.invokevirtual 165, (129, (0, 0))), none, none, some (.iconst 0, (0, (0, 0))), some (.istore_n 2, (0, (0, 0))), some (.iload_n 2, (0, (0, 0))), some (.aload_n 0, (0, (0, 0))), some (.getfield 113, (8, (0, 0))), none, none, some (.if_icmp .gt 77, (0, (0, 0))), none, none, some (.aload_n 0, (0, (0, 0))), some (.getfield 53, (8, (18, 1))), none, none, some (.aload_n 0, (0, (0, 0))), some (.aload_n 0, (0, (0, 0))), some (.getfield 159, (8, (12, 0))), none, none, some (.aload_n 0, (0, (0, 0))), some (.getfield 41, (8, (13, 1))), none, none, some (.iconst 0, (0, (0, 0))), some (.baload, (0, (0, 0))), some (.aload_n 0, (0, (0, 0))), some (.getfield 44, (8, (14, 1))), none, none, some (.iconst 0, (0, (0, 0))), some (.iaload, (0, (0, 0))), some (.aload_n 0, (0, (0, 0))), some (.getfield 41, (8, (13, 1))), none, none, some (.iconst 1, (0, (0, 0))), some (.baload, (0, (0, 0))), some (.aload_n 0, (0, (0, 0))), some (.getfield 44, (8, (14, 1))), none, none, some (.iconst 1, (0, (0, 0))), some (.iaload, (0, (0, 0))), some (.invokevirtual 244, (151, (5, 1))), none, none, some (.baload, (0, (0, 0))), some (.ifCond .ne 5, (0, (0, 0))), none, none, some (.iload_n 2, (0, (0, 0))), some (.ireturn, (0, (0, 0))), some (.iload_n 2, (0, (0, 0))), some (.aload_n 0, (0, (0, 0))), some (.getfield 113, (8, (0, 0))), none, none, some (.if_icmp .ge 21, (0, (0, 0))), none, none, some (.aload_n 0, (0, (0, 0))), some (.iload_n 1, (0, (0, 0))), some (.aload_n 0, (0, (0, 0))), some (.getfield 7, (8, (1, 1))), none, none, some (.iload_n 2, (0, (0, 0))), some (.iaload, (0, (0, 0))), some (.aload_n 0, (0, (0, 0))), some (.getfield 13, (8, (2, 1))), none, none, some (.iload_n 2, (0, (0, 0))), some (.iaload, (0, (0, 0))), some (.iload_n 2, (0, (0, 0))), some (.invokevirtual 168, (130, (4, 0))), none, none, some (.iinc 2 1, (0, (0, 0))), none, none, some (.goto (-79), (0, (0, 0))), none, none, some (.bipush (-4), (0, (0, 0))), none, some (.ireturn, (0, (0, 0)))]
def mt_152 : MT := ((yX8_doomed, (cX8_doomed, (3, (some .int)))), (8, (tb_152, [(21, [0, 1, 2]), (97, [0, 1, 2])])))
def tb_153 : List (Option IE) := [some (.aload_n 0, (0, (0, 0))), some (.iload_n 1, (0, (0, 0))), some (.invokevirtual 124, (113, (1, 3))), none, none, some (.ifCond .eq 15, (0, (0, 0))), none, none, some (.iload_n 2, (0, (0, 0))), some (.i2l, (0, (0, 0))), some (.lconst 0, (0, (0, 0))), some (.ldc2_w 107, (2, (0, 0))), none, none, some (.invokestatic 109, (107, (3, 3))), none, none, some (.ifCond .ne 5, (0, (0, 0))), none, none, some (.iconst (-1), (0, (0, 0))), some (.ireturn, (0, (0, 0))), some (.aload_n 0, (0, (0, 0))), some (.iload_n 1, (0, (0, 0))), some (.invokevirtual 241, (149, (1, 0))), none, none, some (.iconst 0, (0, (0, 0))), some (.istore_n 3, (0, (0, 0))), some (.iconst 0, (0, (0, 0))), some (.istore 4, (0, (0, 0))), none, some (.iconst 0, (0, (0, 0))), some (.istore 5, (0, (0, 0))), none, some (.iload 5, (0, (0, 0))), none, some (.aload_n 0, (0, (0, 0))), some (.getfield 199, (8, (22, 0))), none, none, some (.if_icmp .ge 54, (0, (0, 0))), none, none, some (.iload_n 3, (0, (0, 0))), some (.aload_n 0, (0, (0, 0))), some (.getfield 53, (8, (18, 1))), none, none, some (.aload_n 0, (0, (0, 0))), some (.getfield 56, (8, (19, 1))), none, none, some (.iload 5, (0, (0, 0))), none, some (.iaload, (0, (0, 0))), some (.baload, (0, (0, 0))), some (.ifCond .eq 7, (0, (0, 0))), none, none, some (.iconst 0, (0, (0, 0))), some (.goto 4, (0, (0, 0))), none, none, some (.iconst 1, (0, (0, 0))), some (.iadd, (0, (0, 0))), some (.istore_n 3, (0, (0, 0))), some (.aload_n 0, (0, (0, 0))), some (.aload_n 0, (0, (0, 0))), some (.getfield 56, (8, (19, 1))), none, none, some (.iload 5, (0, (0, 0))), none, some (.iaload, (0, (0, 0))), some (.invokevirtual 184, (134, (1, 0))), none, none, some (.iload 4, (0, (0, 0))), none, some (.iconst 1, (0, (0, 0))), some (.aload_n 0, (0, (0, 0))), some (.getfield 181, (8, (23, 0))), none, none, some (.ishl, (0, (0, 0))), some (.ior, (0, (0, 0))), some (.istore 4, (0, (0, 0))), none, some (.iinc 5 1, (0, (0, 0))), none, none, some (.goto (-57), (0, (0, 0))), none, none, some (.iconst 0, (0, (0, 0))), some (.istore 5, (0, (0, 0))), none, some (.iconst 0, (0, (0, 0))), some (.istore 6, (0, (0, 0))), none, some (.iload 6, (0, (0, 0))), none, some (.bipush 6, (0, (0, 0))), none, some (.if_icmp .ge 21, (0, (0, 0))), none, none, some (.iload 5, (0, (0, 0))), none, some (.iload 4, (0, (0, 0))), none, some (.iload 6, (0, (0, 0))), none, some (.ishr, (0, (0, 0))), some (.iconst 1, (0, (0, 0))), some (.iand, (0, (0, 0))), some (.iadd, (0, (0, 0))), some (.istore 5, (0, (0, 0))), none, some (.iinc 6 1, (0, (0, 0))), none, none, some (.goto (-22), (0, (0, 0))), none, none, some (.iload_n 2, (0, (0, 0))), some (.ifCond .ne 10, (0, (0, 0))), none, none, some (.aload_n 0, (0, (0, 0))), some (.getfield 199, (8, (22, 0))), none, none, some (.goto 14, (0, (0, 0))), none, none, some (.iload_n 2, (0, (0, 0))), some (.iconst 1, (0, (0, 0))), some (.if_icmp .ne 7, (0, (0, 0))), none, none, some (.iload_n 3, (0, (0, 0))), some (.goto 5, (0, (0, 0))), none, none, some (.iload 5, (0, (0, 0))), none, some (.ireturn, (0, (0, 0)))]
def mt_153 : MT := ((yX8_orbits, (cX8_orbits, (7, (some .int)))), (8, (tb_153, [(20, []), (35, [0, 2, 3, 4, 5]), (65, [0, 2, 4, 5]), (101, [0, 2, 3, 4, 5, 6]), (148, [])])))
def tb_154 : List (Option IE) := [some (.aload_n 0, (0, (0, 0))), some (.iload_n 1, (0, (0, 0))), some (.invokevirtual 124, (113, (1, 3))), none, none, some (.ifCond .eq 13, (0, (0, 0))), none, none, some (.aload_n 0, (0, (0, 0))), some (.iload_n 1, (0, (0, 0))), some (.bipush (-4), (0, (0, 0))), none, some (.invokevirtual 232, (147, (2, 1))), none, none, some (.goto 4, (0, (0, 0))), none, none, some (.iconst (-1), (0, (0, 0))), some (.ireturn, (0, (0, 0)))]
def mt_154 : MT := ((yX8_shortest, (cX8_shortest, (2, (some .int)))), (8, (tb_154, [(19, [])])))
def tb_155 : List (Option IE) := [some (.aload_n 0, (0, (0, 0))), some (.iload_n 1, (0, (0, 0))), some (.invokevirtual 124, (113, (1, 3))), none, none, some (.ifCond .eq 15, (0, (0, 0))), none, none, some (.aload_n 0, (0, (0, 0))), some (.iload_n 1, (0, (0, 0))), some (.bipush (-4), (0, (0, 0))), none, some (.iload_n 2, (0, (0, 0))), some (.iload_n 3, (0, (0, 0))), some (.invokevirtual 248, (148, (4, 1))), none, none, some (.goto 4, (0, (0, 0))), none, none, some (.iconst (-1), (0, (0, 0))), some (.ireturn, (0, (0, 0)))]
def mt_155 : MT := ((yX8_shortestAt, (cX8_shortestAt, (4, (some .int)))), (8, (tb_155, [(21, [])])))
def tb_156 : List (Option IE) := [some (.aload_n 0, (0, (0, 0))), some (.iload_n 1, (0, (0, 0))), some (.invokevirtual 124, (113, (1, 3))), none, none, some (.ifCond .eq 20, (0, (0, 0))), none, none, some (.aload_n 0, (0, (0, 0))), some (.iload_n 2, (0, (0, 0))), some (.invokevirtual 124, (113, (1, 3))), none, none, some (.ifCond .eq 12, (0, (0, 0))), none, none, some (.aload_n 0, (0, (0, 0))), some (.iload_n 1, (0, (0, 0))), some (.iload_n 2, (0, (0, 0))), some (.invokevirtual 232, (147, (2, 1))), none, none, some (.goto 4, (0, (0, 0))), none, none, some (.iconst (-1), (0, (0, 0))), some (.ireturn, (0, (0, 0)))]
def mt_156 : MT := ((yX8_parts, (cX8_parts, (3, (some .int)))), (8, (tb_156, [(25, []), (26, [])])))
def tb_157 : List (Option IE) := [some (.aload_n 0, (0, (0, 0))), some (.iload_n 1, (0, (0, 0))), some (.invokevirtual 124, (113, (1, 3))), none, none, some (.ifCond .eq 23, (0, (0, 0))), none, none, some (.aload_n 0, (0, (0, 0))), some (.iload_n 2, (0, (0, 0))), some (.invokevirtual 124, (113, (1, 3))), none, none, some (.ifCond .eq 15, (0, (0, 0))), none, none, some (.aload_n 0, (0, (0, 0))), some (.iload_n 1, (0, (0, 0))), some (.iload_n 2, (0, (0, 0))), some (.iload_n 3, (0, (0, 0))), some (.iload 4, (0, (0, 0))), none, some (.invokevirtual 248, (148, (4, 1))), none, none, some (.goto 4, (0, (0, 0))), none, none, some (.iconst (-1), (0, (0, 0))), some (.ireturn, (0, (0, 0)))]
def mt_157 : MT := ((yX8_partsAt, (cX8_partsAt, (5, (some .int)))), (8, (tb_157, [(28, []), (29, [])])))
def tb_158 : List (Option IE) := [some (.aload_n 0, (0, (0, 0))), some (.iload_n 1, (0, (0, 0))), some (.invokevirtual 124, (113, (1, 3))), none, none, some (.ifCond .eq 11, (0, (0, 0))), none, none, some (.aload_n 0, (0, (0, 0))), some (.iload_n 2, (0, (0, 0))), some (.invokevirtual 124, (113, (1, 3))), none, none, some (.ifCond .ne 5, (0, (0, 0))), none, none, some (.iconst (-1), (0, (0, 0))), some (.ireturn, (0, (0, 0))), some (.aload_n 0, (0, (0, 0))), some (.iload_n 1, (0, (0, 0))), some (.iload_n 2, (0, (0, 0))), some (.invokevirtual 208, (140, (2, 0))), none, none, some (.iconst 1, (0, (0, 0))), some (.istore_n 3, (0, (0, 0))), some (.iconst 0, (0, (0, 0))), some (.istore 4, (0, (0, 0))), none, some (.iload 4, (0, (0, 0))), none, some (.aload_n 0, (0, (0, 0))), some (.getfield 199, (8, (22, 0))), none, none, some (.if_icmp .ge 49, (0, (0, 0))), none, none, some (.iload_n 3, (0, (0, 0))), some (.ifCond .eq 37, (0, (0, 0))), none, none, some (.aload_n 0, (0, (0, 0))), some (.iload_n 1, (0, (0, 0))), some (.aload_n 0, (0, (0, 0))), some (.getfield 56, (8, (19, 1))), none, none, some (.iload 4, (0, (0, 0))), none, some (.iaload, (0, (0, 0))), some (.invokevirtual 211, (141, (2, 3))), none, none, some (.ifCond .eq 18, (0, (0, 0))), none, none, some (.aload_n 0, (0, (0, 0))), some (.iload_n 2, (0, (0, 0))), some (.aload_n 0, (0, (0, 0))), some (.getfield 56, (8, (19, 1))), none, none, some (.iload 4, (0, (0, 0))), none, some (.iaload, (0, (0, 0))), some (.invokevirtual 214, (142, (2, 3))), none, none, some (.ifCond .eq 7, (0, (0, 0))), none, none, some (.iconst 1, (0, (0, 0))), some (.goto 4, (0, (0, 0))), none, none, some (.iconst 0, (0, (0, 0))), some (.istore_n 3, (0, (0, 0))), some (.iinc 4 1, (0, (0, 0))), none, none, some (.goto (-52), (0, (0, 0))), none, none, some (.iload_n 3, (0, (0, 0))), some (.ifCond .eq 7, (0, (0, 0))), none, none, some (.iconst 1, (0, (0, 0))), some (.goto 4, (0, (0, 0))), none, none, some (.iconst 0, (0, (0, 0))), some (.ireturn, (0, (0, 0)))]
def mt_158 : MT := ((yX8_within, (cX8_within, (5, (some .int)))), (8, (tb_158, [(16, []), (29, [0, 1, 2, 3, 4]), (72, [0, 1, 2, 4]), (76, [0, 1, 2, 4]), (77, [0, 1, 2, 4]), (93, [])])))
def tb_159 : List (Option IE) := [some (.aload_n 0, (0, (0, 0))), some (.iload_n 1, (0, (0, 0))), some (.invokevirtual 124, (113, (1, 3))), none, none, some (.ifCond .eq 17, (0, (0, 0))), none, none, some (.iload_n 2, (0, (0, 0))), some (.bipush (-4), (0, (0, 0))), none, some (.if_icmp .eq 13, (0, (0, 0))), none, none, some (.aload_n 0, (0, (0, 0))), some (.iload_n 2, (0, (0, 0))), some (.invokevirtual 124, (113, (1, 3))), none, none, some (.ifCond .ne 5, (0, (0, 0))), none, none, some (.iconst (-1), (0, (0, 0))), some (.ireturn, (0, (0, 0))), some (.aload_n 0, (0, (0, 0))), some (.iload_n 1, (0, (0, 0))), some (.iload_n 2, (0, (0, 0))), some (.invokevirtual 232, (147, (2, 1))), none, none, some (.istore_n 3, (0, (0, 0))), some (.iload_n 3, (0, (0, 0))), some (.bipush (-4), (0, (0, 0))), none, some (.if_icmp .ne 6, (0, (0, 0))), none, none, some (.bipush (-4), (0, (0, 0))), none, some (.ireturn, (0, (0, 0))), some (.iload_n 3, (0, (0, 0))), some (.bipush 40, (0, (0, 0))), none, some (.if_icmp .le 6, (0, (0, 0))), none, none, some (.bipush (-3), (0, (0, 0))), none, some (.ireturn, (0, (0, 0))), some (.iconst 0, (0, (0, 0))), some (.istore 4, (0, (0, 0))), none, some (.iload 4, (0, (0, 0))), none, some (.iload_n 3, (0, (0, 0))), some (.if_icmp .ge 39, (0, (0, 0))), none, none, some (.aload_n 0, (0, (0, 0))), some (.iload_n 1, (0, (0, 0))), some (.iload_n 2, (0, (0, 0))), some (.iload 4, (0, (0, 0))), none, some (.invokevirtual 235, (145, (3, 0))), none, none, some (.aload_n 0, (0, (0, 0))), some (.getfield 7, (8, (1, 1))), none, none, some (.iload 4, (0, (0, 0))), none, some (.aload_n 0, (0, (0, 0))), some (.getfield 217, (8, (28, 0))), none, none, some (.iastore, (0, (0, 0))), some (.aload_n 0, (0, (0, 0))), some (.getfield 13, (8, (2, 1))), none, none, some (.iload 4, (0, (0, 0))), none, some (.aload_n 0, (0, (0, 0))), some (.getfield 220, (8, (29, 0))), none, none, some (.iastore, (0, (0, 0))), some (.iinc 4 1, (0, (0, 0))), none, none, some (.goto (-39), (0, (0, 0))), none, none, some (.aload_n 0, (0, (0, 0))), some (.iload_n 3, (0, (0, 0))), some (.putfield 113, (8, (0, 0))), none, none, some (.iload_n 3, (0, (0, 0))), some (.ireturn, (0, (0, 0)))]
def mt_159 : MT := ((yX8_show, (cX8_show, (5, (some .int)))), (8, (tb_159, [(22, []), (24, [0, 1, 2]), (52, [0, 1, 2, 3, 4])])))
def tb_160 : List (Option IE) := [some (.aload_n 0, (0, (0, 0))), some (.aload_n 0, (0, (0, 0))), some (.getfield 77, (8, (32, 1))), none, none, some (.iload_n 1, (0, (0, 0))), some (.iaload, (0, (0, 0))), some (.invokevirtual 241, (149, (1, 0))), none, none, some (.aload_n 0, (0, (0, 0))), some (.getfield 53, (8, (18, 1))), none, none, some (.aload_n 0, (0, (0, 0))), some (.aload_n 0, (0, (0, 0))), some (.getfield 80, (8, (33, 1))), none, none, some (.iload_n 1, (0, (0, 0))), some (.iaload, (0, (0, 0))), some (.aload_n 0, (0, (0, 0))), some (.getfield 83, (8, (34, 1))), none, none, some (.iconst 2, (0, (0, 0))), some (.iload_n 1, (0, (0, 0))), some (.imul, (0, (0, 0))), some (.baload, (0, (0, 0))), some (.aload_n 0, (0, (0, 0))), some (.getfield 86, (8, (35, 1))), none, none, some (.iconst 2, (0, (0, 0))), some (.iload_n 1, (0, (0, 0))), some (.imul, (0, (0, 0))), some (.iaload, (0, (0, 0))), some (.aload_n 0, (0, (0, 0))), some (.getfield 83, (8, (34, 1))), none, none, some (.iconst 2, (0, (0, 0))), some (.iload_n 1, (0, (0, 0))), some (.imul, (0, (0, 0))), some (.iconst 1, (0, (0, 0))), some (.iadd, (0, (0, 0))), some (.baload, (0, (0, 0))), some (.aload_n 0, (0, (0, 0))), some (.getfield 86, (8, (35, 1))), none, none, some (.iconst 2, (0, (0, 0))), some (.iload_n 1, (0, (0, 0))), some (.imul, (0, (0, 0))), some (.iconst 1, (0, (0, 0))), some (.iadd, (0, (0, 0))), some (.iaload, (0, (0, 0))), some (.invokevirtual 244, (151, (5, 1))), none, none, some (.baload, (0, (0, 0))), some (.ifCond .ne 7, (0, (0, 0))), none, none, some (.iconst 1, (0, (0, 0))), some (.goto 4, (0, (0, 0))), none, none, some (.iconst 0, (0, (0, 0))), some (.ireturn, (0, (0, 0)))]
def mt_160 : MT := ((yX8_isDead, (cX8_isDead, (2, (some .boolean)))), (8, (tb_160, [(69, [])])))
def tb_161 : List (Option IE) := [some (.aload_n 0, (0, (0, 0))), some (.iload_n 1, (0, (0, 0))), some (.invokevirtual 124, (113, (1, 3))), none, none, some (.ifCond .ne 5, (0, (0, 0))), none, none, some (.iconst (-1), (0, (0, 0))), some (.ireturn, (0, (0, 0))), some (.aload_n 0, (0, (0, 0))), some (.getfield 141, (8, (31, 0))), none, none, some (.iconst 4, (0, (0, 0))), some (.if_icmp .ne 6, (0, (0, 0))), none, none, some (.bipush (-3), (0, (0, 0))), none, some (.ireturn, (0, (0, 0))), some (.aload_n 0, (0, (0, 0))), some (.getfield 141, (8, (31, 0))), none, none, some (.istore_n 2, (0, (0, 0))), some (.aload_n 0, (0, (0, 0))), some (.getfield 77, (8, (32, 1))), none, none, some (.iload_n 2, (0, (0, 0))), some (.iload_n 1, (0, (0, 0))), some (.iastore, (0, (0, 0))), some (.aload_n 0, (0, (0, 0))), some (.getfield 80, (8, (33, 1))), none, none, some (.iload_n 2, (0, (0, 0))), some (.iconst 0, (0, (0, 0))), some (.iastore, (0, (0, 0))), some (.aload_n 0, (0, (0, 0))), some (.getfield 83, (8, (34, 1))), none, none, some (.iconst 2, (0, (0, 0))), some (.iload_n 2, (0, (0, 0))), some (.imul, (0, (0, 0))), some (.iconst 0, (0, (0, 0))), some (.bastore, (0, (0, 0))), some (.aload_n 0, (0, (0, 0))), some (.getfield 83, (8, (34, 1))), none, none, some (.iconst 2, (0, (0, 0))), some (.iload_n 2, (0, (0, 0))), some (.imul, (0, (0, 0))), some (.iconst 1, (0, (0, 0))), some (.iadd, (0, (0, 0))), some (.iconst 0, (0, (0, 0))), some (.bastore, (0, (0, 0))), some (.aload_n 0, (0, (0, 0))), some (.getfield 89, (8, (36, 1))), none, none, some (.iload_n 2, (0, (0, 0))), some (.iconst 0, (0, (0, 0))), some (.iastore, (0, (0, 0))), some (.aload_n 0, (0, (0, 0))), some (.getfield 92, (8, (37, 1))), none, none, some (.iload_n 2, (0, (0, 0))), some (.iconst 0, (0, (0, 0))), some (.iastore, (0, (0, 0))), some (.aload_n 0, (0, (0, 0))), some (.dup, (0, (0, 0))), some (.getfield 141, (8, (31, 0))), none, none, some (.iconst 1, (0, (0, 0))), some (.iadd, (0, (0, 0))), some (.putfield 141, (8, (31, 0))), none, none, some (.aload_n 0, (0, (0, 0))), some (.getfield 95, (8, (38, 1))), none, none, some (.iload_n 2, (0, (0, 0))), some (.aload_n 0, (0, (0, 0))), some (.iload_n 2, (0, (0, 0))), some (.invokevirtual 251, (160, (1, 3))), none, none, some (.ifCond .eq 7, (0, (0, 0))), none, none, some (.iconst 0, (0, (0, 0))), some (.goto 5, (0, (0, 0))), none, none, some (.bipush (-4), (0, (0, 0))), none, some (.iastore, (0, (0, 0))), some (.iload_n 2, (0, (0, 0))), some (.ireturn, (0, (0, 0)))]
def mt_161 : MT := ((yX8_watch, (cX8_watch, (3, (some .int)))), (8, (tb_161, [(103, [2])])))
def tb_162 : List (Option IE) := [some (.iload_n 1, (0, (0, 0))), some (.i2l, (0, (0, 0))), some (.lconst 0, (0, (0, 0))), some (.aload_n 0, (0, (0, 0))), some (.getfield 141, (8, (31, 0))), none, none, some (.iconst 1, (0, (0, 0))), some (.isub, (0, (0, 0))), some (.i2l, (0, (0, 0))), some (.invokestatic 109, (107, (3, 3))), none, none, some (.ifCond .eq 15, (0, (0, 0))), none, none, some (.iload_n 2, (0, (0, 0))), some (.i2l, (0, (0, 0))), some (.lconst 0, (0, (0, 0))), some (.ldc2_w 107, (2, (0, 0))), none, none, some (.invokestatic 109, (107, (3, 3))), none, none, some (.ifCond .ne 5, (0, (0, 0))), none, none, some (.iconst (-1), (0, (0, 0))), some (.ireturn, (0, (0, 0))), some (.aload_n 0, (0, (0, 0))), some (.getfield 95, (8, (38, 1))), none, none, some (.iload_n 1, (0, (0, 0))), some (.iaload, (0, (0, 0))), some (.bipush (-4), (0, (0, 0))), none, some (.if_icmp .eq 6, (0, (0, 0))), none, none, some (.bipush (-5), (0, (0, 0))), none, some (.ireturn, (0, (0, 0))), some (.aload_n 0, (0, (0, 0))), some (.aload_n 0, (0, (0, 0))), some (.getfield 80, (8, (33, 1))), none, none, some (.iload_n 1, (0, (0, 0))), some (.iaload, (0, (0, 0))), some (.putfield 159, (8, (12, 0))), none, none, some (.iconst 0, (0, (0, 0))), some (.istore 4, (0, (0, 0))), none, some (.iload 4, (0, (0, 0))), none, some (.iconst 2, (0, (0, 0))), some (.if_icmp .ge 45, (0, (0, 0))), none, none, some (.aload_n 0, (0, (0, 0))), some (.getfield 41, (8, (13, 1))), none, none, some (.iload 4, (0, (0, 0))), none, some (.aload_n 0, (0, (0, 0))), some (.getfield 83, (8, (34, 1))), none, none, some (.iconst 2, (0, (0, 0))), some (.iload_n 1, (0, (0, 0))), some (.imul, (0, (0, 0))), some (.iload 4, (0, (0, 0))), none, some (.iadd, (0, (0, 0))), some (.baload, (0, (0, 0))), some (.bastore, (0, (0, 0))), some (.aload_n 0, (0, (0, 0))), some (.getfield 44, (8, (14, 1))), none, none, some (.iload 4, (0, (0, 0))), none, some (.aload_n 0, (0, (0, 0))), some (.getfield 86, (8, (35, 1))), none, none, some (.iconst 2, (0, (0, 0))), some (.iload_n 1, (0, (0, 0))), some (.imul, (0, (0, 0))), some (.iload 4, (0, (0, 0))), none, some (.iadd, (0, (0, 0))), some (.iaload, (0, (0, 0))), some (.iastore, (0, (0, 0))), some (.iinc 4 1, (0, (0, 0))), none, none, some (.goto (-45), (0, (0, 0))), none, none, some (.aload_n 0, (0, (0, 0))), some (.aload_n 0, (0, (0, 0))), some (.getfield 77, (8, (32, 1))), none, none, some (.iload_n 1, (0, (0, 0))), some (.iaload, (0, (0, 0))), some (.iload_n 2, (0, (0, 0))), some (.iload_n 3, (0, (0, 0))), some (.iconst 0, (0, (0, 0))), some (.invokevirtual 168, (130, (4, 0))), none, none, some (.aload_n 0, (0, (0, 0))), some (.getfield 80, (8, (33, 1))), none, none, some (.iload_n 1, (0, (0, 0))), some (.aload_n 0, (0, (0, 0))), some (.getfield 159, (8, (12, 0))), none, none, some (.iastore, (0, (0, 0))), some (.iconst 0, (0, (0, 0))), some (.istore 4, (0, (0, 0))), none, some (.iload 4, (0, (0, 0))), none, some (.iconst 2, (0, (0, 0))), some (.if_icmp .ge 45, (0, (0, 0))), none, none, some (.aload_n 0, (0, (0, 0))), some (.getfield 83, (8, (34, 1))), none, none, some (.iconst 2, (0, (0, 0))), some (.iload_n 1, (0, (0, 0))), some (.imul, (0, (0, 0))), some (.iload 4, (0, (0, 0))), none, some (.iadd, (0, (0, 0))), some (.aload_n 0, (0, (0, 0))), some (.getfield 41, (8, (13, 1))), none, none, some (.iload 4, (0, (0, 0))), none, some (.baload, (0, (0, 0))), some (.bastore, (0, (0, 0))), some (.aload_n 0, (0, (0, 0))), some (.getfield 86, (8, (35, 1))), none, none, some (.iconst 2, (0, (0, 0))), some (.iload_n 1, (0, (0, 0))), some (.imul, (0, (0, 0))), some (.iload 4, (0, (0, 0))), none, some (.iadd, (0, (0, 0))), some (.aload_n 0, (0, (0, 0))), some (.getfield 44, (8, (14, 1))), none, none, some (.iload 4, (0, (0, 0))), none, some (.iaload, (0, (0, 0))), some (.iastore, (0, (0, 0))), some (.iinc 4 1, (0, (0, 0))), none, none, some (.goto (-45), (0, (0, 0))), none, none, some (.aload_n 0, (0, (0, 0))), some (.getfield 89, (8, (36, 1))), none, none, some (.iload_n 1, (0, (0, 0))), some (.dup2, (0, (0, 0))), some (.iaload, (0, (0, 0))), some (.iconst 1, (0, (0, 0))), some (.iadd, (0, (0, 0))), some (.iastore, (0, (0, 0))), some (.aload_n 0, (0, (0, 0))), some (.getfield 22, (8, (6, 1))), none, none, some (.bipush 6, (0, (0, 0))), none, some (.aload_n 0, (0, (0, 0))), some (.getfield 77, (8, (32, 1))), none, none, some (.iload_n 1, (0, (0, 0))), some (.iaload, (0, (0, 0))), some (.imul, (0, (0, 0))), some (.aload_n 0, (0, (0, 0))), some (.getfield 159, (8, (12, 0))), none, none, some (.iadd, (0, (0, 0))), some (.baload, (0, (0, 0))), some (.istore 4, (0, (0, 0))), none, some (.aload_n 0, (0, (0, 0))), some (.getfield 92, (8, (37, 1))), none, none, some (.iload_n 1, (0, (0, 0))), some (.dup2, (0, (0, 0))), some (.iaload, (0, (0, 0))), some (.iload 4, (0, (0, 0))), none, some (.ifCond .eq 7, (0, (0, 0))), none, none, some (.iconst 1, (0, (0, 0))), some (.goto 4, (0, (0, 0))), none, none, some (.iconst 0, (0, (0, 0))), some (.iadd, (0, (0, 0))), some (.iastore, (0, (0, 0))), some (.aload_n 0, (0, (0, 0))), some (.iload_n 1, (0, (0, 0))), some (.invokevirtual 251, (160, (1, 3))), none, none, some (.ifCond .eq 18, (0, (0, 0))), none, none, some (.aload_n 0, (0, (0, 0))), some (.getfield 95, (8, (38, 1))), none, none, some (.iload_n 1, (0, (0, 0))), some (.aload_n 0, (0, (0, 0))), some (.getfield 89, (8, (36, 1))), none, none, some (.iload_n 1, (0, (0, 0))), some (.iaload, (0, (0, 0))), some (.iastore, (0, (0, 0))), some (.bipush (-5), (0, (0, 0))), none, some (.ireturn, (0, (0, 0))), some (.iload 4, (0, (0, 0))), none, some (.ifCond .eq 7, (0, (0, 0))), none, none, some (.iconst 1, (0, (0, 0))), some (.goto 4, (0, (0, 0))), none, none, some (.iconst 0, (0, (0, 0))), some (.ireturn, (0, (0, 0)))]
def mt_162 : MT := ((yX8_see, (cX8_see, (5, (some .int)))), (8, (tb_162, [(28, []), (57, [0, 1, 2, 3, 4]), (131, [0, 1, 4]), (227, [0, 1, 4]), (262, [])])))
def tb_163 : List (Option IE) := [some (.iload_n 1, (0, (0, 0))), some (.i2l, (0, (0, 0))), some (.lconst 0, (0, (0, 0))), some (.aload_n 0, (0, (0, 0))), some (.getfield 141, (8, (31, 0))), none, none, some (.iconst 1, (0, (0, 0))), some (.isub, (0, (0, 0))), some (.i2l, (0, (0, 0))), some (.invokestatic 109, (107, (3, 3))), none, none, some (.ifCond .eq 15, (0, (0, 0))), none, none, some (.iload_n 2, (0, (0, 0))), some (.i2l, (0, (0, 0))), some (.lconst 0, (0, (0, 0))), some (.ldc2_w 176, (3, (0, 0))), none, none, some (.invokestatic 109, (107, (3, 3))), none, none, some (.ifCond .ne 7, (0, (0, 0))), none, none, some (.iconst (-1), (0, (0, 0))), some (.goto 50, (0, (0, 0))), none, none, some (.iload_n 2, (0, (0, 0))), some (.ifCond .ne 12, (0, (0, 0))), none, none, some (.aload_n 0, (0, (0, 0))), some (.getfield 89, (8, (36, 1))), none, none, some (.iload_n 1, (0, (0, 0))), some (.iaload, (0, (0, 0))), some (.goto 37, (0, (0, 0))), none, none, some (.iload_n 2, (0, (0, 0))), some (.iconst 1, (0, (0, 0))), some (.if_icmp .ne 12, (0, (0, 0))), none, none, some (.aload_n 0, (0, (0, 0))), some (.getfield 80, (8, (33, 1))), none, none, some (.iload_n 1, (0, (0, 0))), some (.iaload, (0, (0, 0))), some (.goto 23, (0, (0, 0))), none, none, some (.iload_n 2, (0, (0, 0))), some (.iconst 2, (0, (0, 0))), some (.if_icmp .ne 12, (0, (0, 0))), none, none, some (.aload_n 0, (0, (0, 0))), some (.getfield 92, (8, (37, 1))), none, none, some (.iload_n 1, (0, (0, 0))), some (.iaload, (0, (0, 0))), some (.goto 9, (0, (0, 0))), none, none, some (.aload_n 0, (0, (0, 0))), some (.getfield 95, (8, (38, 1))), none, none, some (.iload_n 1, (0, (0, 0))), some (.iaload, (0, (0, 0))), some (.ireturn, (0, (0, 0)))]
def mt_163 : MT := ((yX8_seen, (cX8_seen, (3, (some .int)))), (8, (tb_163, [(28, []), (79, [])])))
def tb_164 : List (Option IE) := [some (.iload_n 0, (0, (0, 0))), some (.i2l, (0, (0, 0))), some (.lconst 0, (0, (0, 0))), some (.ldc2_w 176, (3, (0, 0))), none, none, some (.invokestatic 109, (107, (3, 3))), none, none, some (.ifCond .eq 19, (0, (0, 0))), none, none, some (.iload_n 1, (0, (0, 0))), some (.i2l, (0, (0, 0))), some (.lconst 0, (0, (0, 0))), some (.ldc2_w 107, (2, (0, 0))), none, none, some (.invokestatic 109, (107, (3, 3))), none, none, some (.ifCond .eq 7, (0, (0, 0))), none, none, some (.iconst 1, (0, (0, 0))), some (.goto 4, (0, (0, 0))), none, none, some (.iconst 0, (0, (0, 0))), some (.ireturn, (0, (0, 0)))]
def mt_164 : MT := ((yX8_isSheet, (cX8_isSheet, (2, (some .boolean)))), (8, (tb_164, [(28, []), (29, [])])))
def tb_165 : List (Option IE) := [some (.iload_n 1, (0, (0, 0))), some (.iload_n 2, (0, (0, 0))), some (.invokestatic 254, (164, (2, 3))), none, none, some (.ifCond .eq 9, (0, (0, 0))), none, none, some (.iload_n 3, (0, (0, 0))), some (.bipush 60, (0, (0, 0))), none, some (.if_icmp .le 5, (0, (0, 0))), none, none, some (.iconst (-1), (0, (0, 0))), some (.ireturn, (0, (0, 0))), some (.iload_n 3, (0, (0, 0))), some (.ifCond .ge 6, (0, (0, 0))), none, none, some (.bipush (-14), (0, (0, 0))), none, some (.ireturn, (0, (0, 0))), some (.aload_n 0, (0, (0, 0))), some (.getfield 98, (8, (39, 1))), none, none, some (.iload_n 1, (0, (0, 0))), some (.iload_n 2, (0, (0, 0))), some (.iastore, (0, (0, 0))), some (.aload_n 0, (0, (0, 0))), some (.getfield 101, (8, (40, 1))), none, none, some (.iload_n 1, (0, (0, 0))), some (.iload_n 3, (0, (0, 0))), some (.iastore, (0, (0, 0))), some (.iconst 0, (0, (0, 0))), some (.istore 4, (0, (0, 0))), none, some (.iload 4, (0, (0, 0))), none, some (.bipush 60, (0, (0, 0))), none, some (.if_icmp .ge 22, (0, (0, 0))), none, none, some (.aload_n 0, (0, (0, 0))), some (.getfield 104, (8, (41, 1))), none, none, some (.bipush 60, (0, (0, 0))), none, some (.iload_n 1, (0, (0, 0))), some (.imul, (0, (0, 0))), some (.iload 4, (0, (0, 0))), none, some (.iadd, (0, (0, 0))), some (.iconst 0, (0, (0, 0))), some (.iastore, (0, (0, 0))), some (.iinc 4 1, (0, (0, 0))), none, none, some (.goto (-23), (0, (0, 0))), none, none, some (.iconst 1, (0, (0, 0))), some (.ireturn, (0, (0, 0)))]
def mt_165 : MT := ((yX8_sheet, (cX8_sheet, (5, (some .int)))), (8, (tb_165, [(14, []), (40, [0, 1, 4])])))
def tb_166 : List (Option IE) := [some (.iload_n 1, (0, (0, 0))), some (.iconst 0, (0, (0, 0))), some (.invokestatic 254, (164, (2, 3))), none, none, some (.ifCond .ne 5, (0, (0, 0))), none, none, some (.iconst (-1), (0, (0, 0))), some (.ireturn, (0, (0, 0))), some (.aload_n 0, (0, (0, 0))), some (.getfield 98, (8, (39, 1))), none, none, some (.iload_n 1, (0, (0, 0))), some (.iaload, (0, (0, 0))), some (.bipush (-4), (0, (0, 0))), none, some (.if_icmp .ne 6, (0, (0, 0))), none, none, some (.bipush (-11), (0, (0, 0))), none, some (.ireturn, (0, (0, 0))), some (.iload_n 2, (0, (0, 0))), some (.i2l, (0, (0, 0))), some (.lconst 0, (0, (0, 0))), some (.aload_n 0, (0, (0, 0))), some (.getfield 101, (8, (40, 1))), none, none, some (.iload_n 1, (0, (0, 0))), some (.iaload, (0, (0, 0))), some (.iconst 1, (0, (0, 0))), some (.isub, (0, (0, 0))), some (.i2l, (0, (0, 0))), some (.invokestatic 109, (107, (3, 3))), none, none, some (.ifCond .ne 6, (0, (0, 0))), none, none, some (.bipush (-12), (0, (0, 0))), none, some (.ireturn, (0, (0, 0))), some (.aload_n 0, (0, (0, 0))), some (.getfield 104, (8, (41, 1))), none, none, some (.bipush 60, (0, (0, 0))), none, some (.iload_n 1, (0, (0, 0))), some (.imul, (0, (0, 0))), some (.iload_n 2, (0, (0, 0))), some (.iadd, (0, (0, 0))), some (.aload_n 0, (0, (0, 0))), some (.getfield 98, (8, (39, 1))), none, none, some (.iload_n 1, (0, (0, 0))), some (.iaload, (0, (0, 0))), some (.ifCond .ne 8, (0, (0, 0))), none, none, some (.iload_n 3, (0, (0, 0))), some (.i2b, (0, (0, 0))), some (.goto 19, (0, (0, 0))), none, none, some (.aload_n 0, (0, (0, 0))), some (.getfield 98, (8, (39, 1))), none, none, some (.iload_n 1, (0, (0, 0))), some (.iaload, (0, (0, 0))), some (.iconst 1, (0, (0, 0))), some (.if_icmp .ne 8, (0, (0, 0))), none, none, some (.iload_n 3, (0, (0, 0))), some (.i2s, (0, (0, 0))), some (.goto 4, (0, (0, 0))), none, none, some (.iload_n 3, (0, (0, 0))), some (.iastore, (0, (0, 0))), some (.iconst 1, (0, (0, 0))), some (.ireturn, (0, (0, 0)))]
def mt_166 : MT := ((yX8_lay, (cX8_lay, (4, (some .int)))), (8, (tb_166, [(85, [])])))
def tb_167 : List (Option IE) := [some (.iload_n 1, (0, (0, 0))), some (.iload_n 2, (0, (0, 0))), some (.invokestatic 254, (164, (2, 3))), none, none, some (.ifCond .eq 16, (0, (0, 0))), none, none, some (.iload 4, (0, (0, 0))), none, some (.i2l, (0, (0, 0))), some (.lconst 0, (0, (0, 0))), some (.ldc2_w 257, (30, (0, 0))), none, none, some (.invokestatic 109, (107, (3, 3))), none, none, some (.ifCond .ne 5, (0, (0, 0))), none, none, some (.iconst (-1), (0, (0, 0))), some (.ireturn, (0, (0, 0))), some (.aload_n 0, (0, (0, 0))), some (.getfield 98, (8, (39, 1))), none, none, some (.iload_n 1, (0, (0, 0))), some (.iaload, (0, (0, 0))), some (.iload_n 2, (0, (0, 0))), some (.if_icmp .eq 22, (0, (0, 0))), none, none, some (.aload_n 0, (0, (0, 0))), some (.getfield 98, (8, (39, 1))), none, none, some (.iload_n 1, (0, (0, 0))), some (.iaload, (0, (0, 0))), some (.bipush (-4), (0, (0, 0))), none, some (.if_icmp .ne 8, (0, (0, 0))), none, none, some (.bipush (-11), (0, (0, 0))), none, some (.goto 5, (0, (0, 0))), none, none, some (.bipush (-13), (0, (0, 0))), none, some (.ireturn, (0, (0, 0))), some (.aload_n 0, (0, (0, 0))), some (.getfield 113, (8, (0, 0))), none, none, some (.istore 5, (0, (0, 0))), none, some (.iconst 0, (0, (0, 0))), some (.istore 6, (0, (0, 0))), none, some (.iconst 0, (0, (0, 0))), some (.istore 7, (0, (0, 0))), none, some (.iload 7, (0, (0, 0))), none, some (.iload 4, (0, (0, 0))), none, some (.if_icmp .ge 105, (0, (0, 0))), none, none, some (.iload 6, (0, (0, 0))), none, some (.ifCond .ne 100, (0, (0, 0))), none, none, some (.iload_n 3, (0, (0, 0))), some (.i2l, (0, (0, 0))), some (.iconst 2, (0, (0, 0))), some (.iload 7, (0, (0, 0))), none, some (.imul, (0, (0, 0))), some (.i2l, (0, (0, 0))), some (.ladd, (0, (0, 0))), some (.lstore 8, (0, (0, 0))), none, some (.lload 8, (0, (0, 0))), none, some (.lconst 0, (0, (0, 0))), some (.lcmp, (0, (0, 0))), some (.ifCond .lt 20, (0, (0, 0))), none, none, some (.lload 8, (0, (0, 0))), none, some (.ldc2_w 107, (2, (0, 0))), none, none, some (.ladd, (0, (0, 0))), some (.aload_n 0, (0, (0, 0))), some (.getfield 101, (8, (40, 1))), none, none, some (.iload_n 1, (0, (0, 0))), some (.iaload, (0, (0, 0))), some (.i2l, (0, (0, 0))), some (.lcmp, (0, (0, 0))), some (.ifCond .le 10, (0, (0, 0))), none, none, some (.bipush (-12), (0, (0, 0))), none, some (.istore 6, (0, (0, 0))), none, some (.goto 53, (0, (0, 0))), none, none, some (.aload_n 0, (0, (0, 0))), some (.aload_n 0, (0, (0, 0))), some (.getfield 104, (8, (41, 1))), none, none, some (.bipush 60, (0, (0, 0))), none, some (.iload_n 1, (0, (0, 0))), some (.imul, (0, (0, 0))), some (.lload 8, (0, (0, 0))), none, some (.l2i, (0, (0, 0))), some (.iadd, (0, (0, 0))), some (.iaload, (0, (0, 0))), some (.aload_n 0, (0, (0, 0))), some (.getfield 104, (8, (41, 1))), none, none, some (.bipush 60, (0, (0, 0))), none, some (.iload_n 1, (0, (0, 0))), some (.imul, (0, (0, 0))), some (.lload 8, (0, (0, 0))), none, some (.l2i, (0, (0, 0))), some (.iadd, (0, (0, 0))), some (.iconst 1, (0, (0, 0))), some (.iadd, (0, (0, 0))), some (.iaload, (0, (0, 0))), some (.invokevirtual 259, (108, (2, 1))), none, none, some (.istore 10, (0, (0, 0))), none, some (.iload 10, (0, (0, 0))), none, some (.ifCond .ge 11, (0, (0, 0))), none, none, some (.bipush (-20), (0, (0, 0))), none, some (.iload 10, (0, (0, 0))), none, some (.iadd, (0, (0, 0))), some (.goto 4, (0, (0, 0))), none, none, some (.iconst 0, (0, (0, 0))), some (.istore 6, (0, (0, 0))), none, some (.iinc 7 1, (0, (0, 0))), none, none, some (.goto (-106), (0, (0, 0))), none, none, some (.aload_n 0, (0, (0, 0))), some (.iload 6, (0, (0, 0))), none, some (.ifCond .ge 8, (0, (0, 0))), none, none, some (.iload 5, (0, (0, 0))), none, some (.goto 7, (0, (0, 0))), none, none, some (.aload_n 0, (0, (0, 0))), some (.getfield 113, (8, (0, 0))), none, none, some (.putfield 113, (8, (0, 0))), none, none, some (.iload 6, (0, (0, 0))), none, some (.ifCond .ge 8, (0, (0, 0))), none, none, some (.iload 6, (0, (0, 0))), none, some (.goto 7, (0, (0, 0))), none, none, some (.aload_n 0, (0, (0, 0))), some (.getfield 113, (8, (0, 0))), none, none, some (.ireturn, (0, (0, 0)))]
def mt_167 : MT := ((yX8_scan, (cX8_scan, (11, (some .int)))), (8, (tb_167, [(21, []), (51, []), (64, [0, 1, 3, 4, 5, 6, 7]), (110, [0, 1, 3, 4, 5, 7]), (165, [0, 1, 3, 4, 5, 7]), (167, [0, 1, 3, 4, 5, 6, 7]), (173, [0, 5, 6]), (188, [0, 6]), (205, [])])))
def tb_168 : List (Option IE) := [some (.iload_n 1, (0, (0, 0))), some (.iconst 3, (0, (0, 0))), some (.if_icmp .ne 42, (0, (0, 0))), none, none, some (.iconst 0, (0, (0, 0))), some (.istore_n 2, (0, (0, 0))), some (.iconst 0, (0, (0, 0))), some (.istore_n 3, (0, (0, 0))), some (.iload_n 3, (0, (0, 0))), some (.aload_n 0, (0, (0, 0))), some (.getfield 141, (8, (31, 0))), none, none, some (.if_icmp .ge 28, (0, (0, 0))), none, none, some (.iload_n 2, (0, (0, 0))), some (.aload_n 0, (0, (0, 0))), some (.getfield 95, (8, (38, 1))), none, none, some (.iload_n 3, (0, (0, 0))), some (.iaload, (0, (0, 0))), some (.bipush (-4), (0, (0, 0))), none, some (.if_icmp .eq 7, (0, (0, 0))), none, none, some (.iconst 1, (0, (0, 0))), some (.goto 4, (0, (0, 0))), none, none, some (.iconst 0, (0, (0, 0))), some (.iadd, (0, (0, 0))), some (.istore_n 2, (0, (0, 0))), some (.iinc 3 1, (0, (0, 0))), none, none, some (.goto (-30), (0, (0, 0))), none, none, some (.iload_n 2, (0, (0, 0))), some (.ireturn, (0, (0, 0))), some (.iload_n 1, (0, (0, 0))), some (.iconst 4, (0, (0, 0))), some (.if_icmp .ne 78, (0, (0, 0))), none, none, some (.iconst 0, (0, (0, 0))), some (.istore_n 2, (0, (0, 0))), some (.iconst 0, (0, (0, 0))), some (.istore_n 3, (0, (0, 0))), some (.iload_n 3, (0, (0, 0))), some (.aload_n 0, (0, (0, 0))), some (.getfield 121, (8, (3, 0))), none, none, some (.if_icmp .ge 64, (0, (0, 0))), none, none, some (.iconst 1, (0, (0, 0))), some (.istore 4, (0, (0, 0))), none, some (.iconst 0, (0, (0, 0))), some (.istore 5, (0, (0, 0))), none, some (.iload 5, (0, (0, 0))), none, some (.iload_n 3, (0, (0, 0))), some (.if_icmp .ge 33, (0, (0, 0))), none, none, some (.iload 4, (0, (0, 0))), none, some (.ifCond .eq 19, (0, (0, 0))), none, none, some (.aload_n 0, (0, (0, 0))), some (.iload_n 3, (0, (0, 0))), some (.iload 5, (0, (0, 0))), none, some (.invokevirtual 226, (143, (2, 1))), none, none, some (.bipush (-4), (0, (0, 0))), none, some (.if_icmp .eq 7, (0, (0, 0))), none, none, some (.iconst 1, (0, (0, 0))), some (.goto 4, (0, (0, 0))), none, none, some (.iconst 0, (0, (0, 0))), some (.istore 4, (0, (0, 0))), none, some (.iinc 5 1, (0, (0, 0))), none, none, some (.goto (-33), (0, (0, 0))), none, none, some (.iload_n 2, (0, (0, 0))), some (.iload 4, (0, (0, 0))), none, some (.ifCond .eq 7, (0, (0, 0))), none, none, some (.iconst 1, (0, (0, 0))), some (.goto 4, (0, (0, 0))), none, none, some (.iconst 0, (0, (0, 0))), some (.iadd, (0, (0, 0))), some (.istore_n 2, (0, (0, 0))), some (.iinc 3 1, (0, (0, 0))), none, none, some (.goto (-66), (0, (0, 0))), none, none, some (.iload_n 2, (0, (0, 0))), some (.ireturn, (0, (0, 0))), some (.iload_n 1, (0, (0, 0))), some (.ifCond .ne 10, (0, (0, 0))), none, none, some (.aload_n 0, (0, (0, 0))), some (.getfield 113, (8, (0, 0))), none, none, some (.goto 28, (0, (0, 0))), none, none, some (.iload_n 1, (0, (0, 0))), some (.iconst 1, (0, (0, 0))), some (.if_icmp .ne 10, (0, (0, 0))), none, none, some (.aload_n 0, (0, (0, 0))), some (.getfield 121, (8, (3, 0))), none, none, some (.goto 16, (0, (0, 0))), none, none, some (.iload_n 1, (0, (0, 0))), some (.iconst 2, (0, (0, 0))), some (.if_icmp .ne 10, (0, (0, 0))), none, none, some (.aload_n 0, (0, (0, 0))), some (.getfield 141, (8, (31, 0))), none, none, some (.goto 4, (0, (0, 0))), none, none, some (.iconst (-1), (0, (0, 0))), some (.ireturn, (0, (0, 0)))]
def mt_168 : MT := ((yX8_count, (cX8_count, (6, (some .int)))), (8, (tb_168, [(9, [0, 2, 3]), (34, [0, 3]), (53, [0, 2, 3]), (67, [0, 2, 3, 4, 5]), (94, [0, 2, 3, 5]), (95, [0, 2, 3, 5]), (114, [0, 3]), (160, [])])))
def tb_169 : List (Option IE) := [some (.new 7, (7, (16, 0))), none, none, some (.dup, (0, (0, 0))), some (.invokespecial 9, (62, (0, 0))), none, none, some (.astore_n 1, (0, (0, 0))), some (.new 10, (8, (42, 0))), none, none, some (.dup, (0, (0, 0))), some (.invokespecial 12, (106, (0, 0))), none, none, some (.astore_n 2, (0, (0, 0))), some (.iconst 0, (0, (0, 0))), some (.istore_n 3, (0, (0, 0))), some (.iload_n 3, (0, (0, 0))), some (.aload_n 0, (0, (0, 0))), some (.arraylength, (0, (0, 0))), some (.bipush 7, (0, (0, 0))), none, some (.isub, (0, (0, 0))), some (.if_icmp .gt 1191, (0, (0, 0))), none, none, some (.aload_n 0, (0, (0, 0))), some (.iload_n 3, (0, (0, 0))), some (.iaload, (0, (0, 0))), some (.bipush 31, (0, (0, 0))), none, some (.iand, (0, (0, 0))), some (.tableswitch 1176 0 28 #[131, 164, 187, 210, 223, 256, 331, 390, 423, 486, 499, 522, 565, 598, 641, 664, 697, 720, 763, 796, 849, 882, 915, 938, 981, 1014, 1057, 1100, 1153], (131, (0, 0))), none, none, none, none, none, none, none, none, none, none, none, none, none, none, none, none, none, none, none, none, none, none, none, none, none, none, none, none, none, none, none, none, none, none, none, none, none, none, none, none, none, none, none, none, none, none, none, none, none, none, none, none, none, none, none, none, none, none, none, none, none, none, none, none, none, none, none, none, none, none, none, none, none, none, none, none, none, none, none, none, none, none, none, none, none, none, none, none, none, none, none, none, none, none, none, none, none, none, none, none, none, none, none, none, none, none, none, none, none, none, none, none, none, none, none, none, none, none, none, none, none, none, none, none, none, none, none, none, none, none, some (.aload_n 1, (0, (0, 0))), some (.aload_n 0, (0, (0, 0))), some (.iload_n 3, (0, (0, 0))), some (.iconst 1, (0, (0, 0))), some (.iadd, (0, (0, 0))), some (.iaload, (0, (0, 0))), some (.aload_n 0, (0, (0, 0))), some (.iload_n 3, (0, (0, 0))), some (.iconst 2, (0, (0, 0))), some (.iadd, (0, (0, 0))), some (.iaload, (0, (0, 0))), some (.invokevirtual 13, (63, (2, 1))), none, none, some (.aload_n 2, (0, (0, 0))), some (.aload_n 0, (0, (0, 0))), some (.iload_n 3, (0, (0, 0))), some (.iconst 1, (0, (0, 0))), some (.iadd, (0, (0, 0))), some (.iaload, (0, (0, 0))), some (.aload_n 0, (0, (0, 0))), some (.iload_n 3, (0, (0, 0))), some (.iconst 2, (0, (0, 0))), some (.iadd, (0, (0, 0))), some (.iaload, (0, (0, 0))), some (.invokevirtual 17, (108, (2, 1))), none, none, some (.if_icmp .eq 1017, (0, (0, 0))), none, none, some (.iconst 0, (0, (0, 0))), some (.ireturn, (0, (0, 0))), some (.aload_n 1, (0, (0, 0))), some (.aload_n 0, (0, (0, 0))), some (.iload_n 3, (0, (0, 0))), some (.iconst 1, (0, (0, 0))), some (.iadd, (0, (0, 0))), some (.iaload, (0, (0, 0))), some (.invokevirtual 18, (64, (1, 1))), none, none, some (.aload_n 2, (0, (0, 0))), some (.aload_n 0, (0, (0, 0))), some (.iload_n 3, (0, (0, 0))), some (.iconst 1, (0, (0, 0))), some (.iadd, (0, (0, 0))), some (.iaload, (0, (0, 0))), some (.invokevirtual 22, (109, (1, 1))), none, none, some (.if_icmp .eq 994, (0, (0, 0))), none, none, some (.iconst 0, (0, (0, 0))), some (.ireturn, (0, (0, 0))), some (.aload_n 1, (0, (0, 0))), some (.aload_n 0, (0, (0, 0))), some (.iload_n 3, (0, (0, 0))), some (.iconst 1, (0, (0, 0))), some (.iadd, (0, (0, 0))), some (.iaload, (0, (0, 0))), some (.invokevirtual 23, (65, (1, 1))), none, none, some (.aload_n 2, (0, (0, 0))), some (.aload_n 0, (0, (0, 0))), some (.iload_n 3, (0, (0, 0))), some (.iconst 1, (0, (0, 0))), some (.iadd, (0, (0, 0))), some (.iaload, (0, (0, 0))), some (.invokevirtual 26, (111, (1, 1))), none, none, some (.if_icmp .eq 971, (0, (0, 0))), none, none, some (.iconst 0, (0, (0, 0))), some (.ireturn, (0, (0, 0))), some (.aload_n 1, (0, (0, 0))), some (.invokevirtual 27, (66, (0, 1))), none, none, some (.aload_n 2, (0, (0, 0))), some (.invokevirtual 31, (112, (0, 1))), none, none, some (.if_icmp .eq 958, (0, (0, 0))), none, none, some (.iconst 0, (0, (0, 0))), some (.ireturn, (0, (0, 0))), some (.aload_n 1, (0, (0, 0))), some (.aload_n 0, (0, (0, 0))), some (.iload_n 3, (0, (0, 0))), some (.iconst 1, (0, (0, 0))), some (.iadd, (0, (0, 0))), some (.iaload, (0, (0, 0))), some (.aload_n 0, (0, (0, 0))), some (.iload_n 3, (0, (0, 0))), some (.iconst 2, (0, (0, 0))), some (.iadd, (0, (0, 0))), some (.iaload, (0, (0, 0))), some (.invokevirtual 32, (67, (2, 1))), none, none, some (.aload_n 2, (0, (0, 0))), some (.aload_n 0, (0, (0, 0))), some (.iload_n 3, (0, (0, 0))), some (.iconst 1, (0, (0, 0))), some (.iadd, (0, (0, 0))), some (.iaload, (0, (0, 0))), some (.aload_n 0, (0, (0, 0))), some (.iload_n 3, (0, (0, 0))), some (.iconst 2, (0, (0, 0))), some (.iadd, (0, (0, 0))), some (.iaload, (0, (0, 0))), some (.invokevirtual 35, (119, (2, 1))), none, none, some (.if_icmp .eq 925, (0, (0, 0))), none, none, some (.iconst 0, (0, (0, 0))), some (.ireturn, (0, (0, 0))), some (.aload_n 1, (0, (0, 0))), some (.aload_n 0, (0, (0, 0))), some (.iload_n 3, (0, (0, 0))), some (.iconst 1, (0, (0, 0))), some (.iadd, (0, (0, 0))), some (.iaload, (0, (0, 0))), some (.aload_n 0, (0, (0, 0))), some (.iload_n 3, (0, (0, 0))), some (.iconst 2, (0, (0, 0))), some (.iadd, (0, (0, 0))), some (.iaload, (0, (0, 0))), some (.aload_n 0, (0, (0, 0))), some (.iload_n 3, (0, (0, 0))), some (.iconst 3, (0, (0, 0))), some (.iadd, (0, (0, 0))), some (.iaload, (0, (0, 0))), some (.aload_n 0, (0, (0, 0))), some (.iload_n 3, (0, (0, 0))), some (.iconst 4, (0, (0, 0))), some (.iadd, (0, (0, 0))), some (.iaload, (0, (0, 0))), some (.aload_n 0, (0, (0, 0))), some (.iload_n 3, (0, (0, 0))), some (.iconst 5, (0, (0, 0))), some (.iadd, (0, (0, 0))), some (.iaload, (0, (0, 0))), some (.aload_n 0, (0, (0, 0))), some (.iload_n 3, (0, (0, 0))), some (.bipush 6, (0, (0, 0))), none, some (.iadd, (0, (0, 0))), some (.iaload, (0, (0, 0))), some (.invokevirtual 36, (68, (6, 1))), none, none, some (.aload_n 2, (0, (0, 0))), some (.aload_n 0, (0, (0, 0))), some (.iload_n 3, (0, (0, 0))), some (.iconst 1, (0, (0, 0))), some (.iadd, (0, (0, 0))), some (.iaload, (0, (0, 0))), some (.aload_n 0, (0, (0, 0))), some (.iload_n 3, (0, (0, 0))), some (.iconst 2, (0, (0, 0))), some (.iadd, (0, (0, 0))), some (.iaload, (0, (0, 0))), some (.aload_n 0, (0, (0, 0))), some (.iload_n 3, (0, (0, 0))), some (.iconst 3, (0, (0, 0))), some (.iadd, (0, (0, 0))), some (.iaload, (0, (0, 0))), some (.aload_n 0, (0, (0, 0))), some (.iload_n 3, (0, (0, 0))), some (.iconst 4, (0, (0, 0))), some (.iadd, (0, (0, 0))), some (.iaload, (0, (0, 0))), some (.aload_n 0, (0, (0, 0))), some (.iload_n 3, (0, (0, 0))), some (.iconst 5, (0, (0, 0))), some (.iadd, (0, (0, 0))), some (.iaload, (0, (0, 0))), some (.aload_n 0, (0, (0, 0))), some (.iload_n 3, (0, (0, 0))), some (.bipush 6, (0, (0, 0))), none, some (.iadd, (0, (0, 0))), some (.iaload, (0, (0, 0))), some (.invokevirtual 40, (121, (6, 1))), none, none, some (.if_icmp .eq 850, (0, (0, 0))), none, none, some (.iconst 0, (0, (0, 0))), some (.ireturn, (0, (0, 0))), some (.aload_n 1, (0, (0, 0))), some (.aload_n 0, (0, (0, 0))), some (.iload_n 3, (0, (0, 0))), some (.iconst 1, (0, (0, 0))), some (.iadd, (0, (0, 0))), some (.iaload, (0, (0, 0))), some (.aload_n 0, (0, (0, 0))), some (.iload_n 3, (0, (0, 0))), some (.iconst 2, (0, (0, 0))), some (.iadd, (0, (0, 0))), some (.iaload, (0, (0, 0))), some (.aload_n 0, (0, (0, 0))), some (.iload_n 3, (0, (0, 0))), some (.iconst 3, (0, (0, 0))), some (.iadd, (0, (0, 0))), some (.iaload, (0, (0, 0))), some (.ifCond .eq 7, (0, (0, 0))), none, none, some (.iconst 1, (0, (0, 0))), some (.goto 4, (0, (0, 0))), none, none, some (.iconst 0, (0, (0, 0))), some (.invokevirtual 41, (69, (3, 1))), none, none, some (.aload_n 2, (0, (0, 0))), some (.aload_n 0, (0, (0, 0))), some (.iload_n 3, (0, (0, 0))), some (.iconst 1, (0, (0, 0))), some (.iadd, (0, (0, 0))), some (.iaload, (0, (0, 0))), some (.aload_n 0, (0, (0, 0))), some (.iload_n 3, (0, (0, 0))), some (.iconst 2, (0, (0, 0))), some (.iadd, (0, (0, 0))), some (.iaload, (0, (0, 0))), some (.aload_n 0, (0, (0, 0))), some (.iload_n 3, (0, (0, 0))), some (.iconst 3, (0, (0, 0))), some (.iadd, (0, (0, 0))), some (.iaload, (0, (0, 0))), some (.ifCond .eq 7, (0, (0, 0))), none, none, some (.iconst 1, (0, (0, 0))), some (.goto 4, (0, (0, 0))), none, none, some (.iconst 0, (0, (0, 0))), some (.invokevirtual 45, (122, (3, 1))), none, none, some (.if_icmp .eq 791, (0, (0, 0))), none, none, some (.iconst 0, (0, (0, 0))), some (.ireturn, (0, (0, 0))), some (.aload_n 1, (0, (0, 0))), some (.aload_n 0, (0, (0, 0))), some (.iload_n 3, (0, (0, 0))), some (.iconst 1, (0, (0, 0))), some (.iadd, (0, (0, 0))), some (.iaload, (0, (0, 0))), some (.aload_n 0, (0, (0, 0))), some (.iload_n 3, (0, (0, 0))), some (.iconst 2, (0, (0, 0))), some (.iadd, (0, (0, 0))), some (.iaload, (0, (0, 0))), some (.invokevirtual 46, (70, (2, 1))), none, none, some (.aload_n 2, (0, (0, 0))), some (.aload_n 0, (0, (0, 0))), some (.iload_n 3, (0, (0, 0))), some (.iconst 1, (0, (0, 0))), some (.iadd, (0, (0, 0))), some (.iaload, (0, (0, 0))), some (.aload_n 0, (0, (0, 0))), some (.iload_n 3, (0, (0, 0))), some (.iconst 2, (0, (0, 0))), some (.iadd, (0, (0, 0))), some (.iaload, (0, (0, 0))), some (.invokevirtual 49, (123, (2, 1))), none, none, some (.if_icmp .eq 758, (0, (0, 0))), none, none, some (.iconst 0, (0, (0, 0))), some (.ireturn, (0, (0, 0))), some (.aload_n 1, (0, (0, 0))), some (.aload_n 0, (0, (0, 0))), some (.iload_n 3, (0, (0, 0))), some (.iconst 1, (0, (0, 0))), some (.iadd, (0, (0, 0))), some (.iaload, (0, (0, 0))), some (.aload_n 0, (0, (0, 0))), some (.iload_n 3, (0, (0, 0))), some (.iconst 2, (0, (0, 0))), some (.iadd, (0, (0, 0))), some (.iaload, (0, (0, 0))), some (.aload_n 0, (0, (0, 0))), some (.iload_n 3, (0, (0, 0))), some (.iconst 3, (0, (0, 0))), some (.iadd, (0, (0, 0))), some (.iaload, (0, (0, 0))), some (.aload_n 0, (0, (0, 0))), some (.iload_n 3, (0, (0, 0))), some (.iconst 4, (0, (0, 0))), some (.iadd, (0, (0, 0))), some (.iaload, (0, (0, 0))), some (.aload_n 0, (0, (0, 0))), some (.iload_n 3, (0, (0, 0))), some (.iconst 5, (0, (0, 0))), some (.iadd, (0, (0, 0))), some (.iaload, (0, (0, 0))), some (.invokevirtual 50, (71, (5, 1))), none, none, some (.aload_n 2, (0, (0, 0))), some (.aload_n 0, (0, (0, 0))), some (.iload_n 3, (0, (0, 0))), some (.iconst 1, (0, (0, 0))), some (.iadd, (0, (0, 0))), some (.iaload, (0, (0, 0))), some (.aload_n 0, (0, (0, 0))), some (.iload_n 3, (0, (0, 0))), some (.iconst 2, (0, (0, 0))), some (.iadd, (0, (0, 0))), some (.iaload, (0, (0, 0))), some (.aload_n 0, (0, (0, 0))), some (.iload_n 3, (0, (0, 0))), some (.iconst 3, (0, (0, 0))), some (.iadd, (0, (0, 0))), some (.iaload, (0, (0, 0))), some (.aload_n 0, (0, (0, 0))), some (.iload_n 3, (0, (0, 0))), some (.iconst 4, (0, (0, 0))), some (.iadd, (0, (0, 0))), some (.iaload, (0, (0, 0))), some (.aload_n 0, (0, (0, 0))), some (.iload_n 3, (0, (0, 0))), some (.iconst 5, (0, (0, 0))), some (.iadd, (0, (0, 0))), some (.iaload, (0, (0, 0))), some (.invokevirtual 54, (124, (5, 1))), none, none, some (.if_icmp .eq 695, (0, (0, 0))), none, none, some (.iconst 0, (0, (0, 0))), some (.ireturn, (0, (0, 0))), some (.aload_n 1, (0, (0, 0))), some (.invokevirtual 55, (72, (0, 1))), none, none, some (.aload_n 2, (0, (0, 0))), some (.invokevirtual 58, (125, (0, 1))), none, none, some (.if_icmp .eq 682, (0, (0, 0))), none, none, some (.iconst 0, (0, (0, 0))), some (.ireturn, (0, (0, 0))), some (.aload_n 1, (0, (0, 0))), some (.aload_n 0, (0, (0, 0))), some (.iload_n 3, (0, (0, 0))), some (.iconst 1, (0, (0, 0))), some (.iadd, (0, (0, 0))), some (.iaload, (0, (0, 0))), some (.invokevirtual 59, (73, (1, 1))), none, none, some (.aload_n 2, (0, (0, 0))), some (.aload_n 0, (0, (0, 0))), some (.iload_n 3, (0, (0, 0))), some (.iconst 1, (0, (0, 0))), some (.iadd, (0, (0, 0))), some (.iaload, (0, (0, 0))), some (.invokevirtual 62, (126, (1, 1))), none, none, some (.if_icmp .eq 659, (0, (0, 0))), none, none, some (.iconst 0, (0, (0, 0))), some (.ireturn, (0, (0, 0))), some (.aload_n 1, (0, (0, 0))), some (.aload_n 0, (0, (0, 0))), some (.iload_n 3, (0, (0, 0))), some (.iconst 1, (0, (0, 0))), some (.iadd, (0, (0, 0))), some (.iaload, (0, (0, 0))), some (.aload_n 0, (0, (0, 0))), some (.iload_n 3, (0, (0, 0))), some (.iconst 2, (0, (0, 0))), some (.iadd, (0, (0, 0))), some (.iaload, (0, (0, 0))), some (.aload_n 0, (0, (0, 0))), some (.iload_n 3, (0, (0, 0))), some (.iconst 3, (0, (0, 0))), some (.iadd, (0, (0, 0))), some (.iaload, (0, (0, 0))), some (.invokevirtual 63, (74, (3, 1))), none, none, some (.aload_n 2, (0, (0, 0))), some (.aload_n 0, (0, (0, 0))), some (.iload_n 3, (0, (0, 0))), some (.iconst 1, (0, (0, 0))), some (.iadd, (0, (0, 0))), some (.iaload, (0, (0, 0))), some (.aload_n 0, (0, (0, 0))), some (.iload_n 3, (0, (0, 0))), some (.iconst 2, (0, (0, 0))), some (.iadd, (0, (0, 0))), some (.iaload, (0, (0, 0))), some (.aload_n 0, (0, (0, 0))), some (.iload_n 3, (0, (0, 0))), some (.iconst 3, (0, (0, 0))), some (.iadd, (0, (0, 0))), some (.iaload, (0, (0, 0))), some (.invokevirtual 67, (128, (3, 1))), none, none, some (.if_icmp .eq 616, (0, (0, 0))), none, none, some (.iconst 0, (0, (0, 0))), some (.ireturn, (0, (0, 0))), some (.aload_n 1, (0, (0, 0))), some (.aload_n 0, (0, (0, 0))), some (.iload_n 3, (0, (0, 0))), some (.iconst 1, (0, (0, 0))), some (.iadd, (0, (0, 0))), some (.iaload, (0, (0, 0))), some (.aload_n 0, (0, (0, 0))), some (.iload_n 3, (0, (0, 0))), some (.iconst 2, (0, (0, 0))), some (.iadd, (0, (0, 0))), some (.iaload, (0, (0, 0))), some (.invokevirtual 68, (79, (2, 1))), none, none, some (.aload_n 2, (0, (0, 0))), some (.aload_n 0, (0, (0, 0))), some (.iload_n 3, (0, (0, 0))), some (.iconst 1, (0, (0, 0))), some (.iadd, (0, (0, 0))), some (.iaload, (0, (0, 0))), some (.aload_n 0, (0, (0, 0))), some (.iload_n 3, (0, (0, 0))), some (.iconst 2, (0, (0, 0))), some (.iadd, (0, (0, 0))), some (.iaload, (0, (0, 0))), some (.invokevirtual 71, (132, (2, 1))), none, none, some (.if_icmp .eq 583, (0, (0, 0))), none, none, some (.iconst 0, (0, (0, 0))), some (.ireturn, (0, (0, 0))), some (.aload_n 1, (0, (0, 0))), some (.aload_n 0, (0, (0, 0))), some (.iload_n 3, (0, (0, 0))), some (.iconst 1, (0, (0, 0))), some (.iadd, (0, (0, 0))), some (.iaload, (0, (0, 0))), some (.aload_n 0, (0, (0, 0))), some (.iload_n 3, (0, (0, 0))), some (.iconst 2, (0, (0, 0))), some (.iadd, (0, (0, 0))), some (.iaload, (0, (0, 0))), some (.aload_n 0, (0, (0, 0))), some (.iload_n 3, (0, (0, 0))), some (.iconst 3, (0, (0, 0))), some (.iadd, (0, (0, 0))), some (.iaload, (0, (0, 0))), some (.invokevirtual 72, (80, (3, 1))), none, none, some (.aload_n 2, (0, (0, 0))), some (.aload_n 0, (0, (0, 0))), some (.iload_n 3, (0, (0, 0))), some (.iconst 1, (0, (0, 0))), some (.iadd, (0, (0, 0))), some (.iaload, (0, (0, 0))), some (.aload_n 0, (0, (0, 0))), some (.iload_n 3, (0, (0, 0))), some (.iconst 2, (0, (0, 0))), some (.iadd, (0, (0, 0))), some (.iaload, (0, (0, 0))), some (.aload_n 0, (0, (0, 0))), some (.iload_n 3, (0, (0, 0))), some (.iconst 3, (0, (0, 0))), some (.iadd, (0, (0, 0))), some (.iaload, (0, (0, 0))), some (.invokevirtual 75, (133, (3, 1))), none, none, some (.if_icmp .eq 540, (0, (0, 0))), none, none, some (.iconst 0, (0, (0, 0))), some (.ireturn, (0, (0, 0))), some (.aload_n 1, (0, (0, 0))), some (.aload_n 0, (0, (0, 0))), some (.iload_n 3, (0, (0, 0))), some (.iconst 1, (0, (0, 0))), some (.iadd, (0, (0, 0))), some (.iaload, (0, (0, 0))), some (.invokevirtual 76, (81, (1, 1))), none, none, some (.aload_n 2, (0, (0, 0))), some (.aload_n 0, (0, (0, 0))), some (.iload_n 3, (0, (0, 0))), some (.iconst 1, (0, (0, 0))), some (.iadd, (0, (0, 0))), some (.iaload, (0, (0, 0))), some (.invokevirtual 79, (152, (1, 1))), none, none, some (.if_icmp .eq 517, (0, (0, 0))), none, none, some (.iconst 0, (0, (0, 0))), some (.ireturn, (0, (0, 0))), some (.aload_n 1, (0, (0, 0))), some (.aload_n 0, (0, (0, 0))), some (.iload_n 3, (0, (0, 0))), some (.iconst 1, (0, (0, 0))), some (.iadd, (0, (0, 0))), some (.iaload, (0, (0, 0))), some (.aload_n 0, (0, (0, 0))), some (.iload_n 3, (0, (0, 0))), some (.iconst 2, (0, (0, 0))), some (.iadd, (0, (0, 0))), some (.iaload, (0, (0, 0))), some (.invokevirtual 80, (84, (2, 1))), none, none, some (.aload_n 2, (0, (0, 0))), some (.aload_n 0, (0, (0, 0))), some (.iload_n 3, (0, (0, 0))), some (.iconst 1, (0, (0, 0))), some (.iadd, (0, (0, 0))), some (.iaload, (0, (0, 0))), some (.aload_n 0, (0, (0, 0))), some (.iload_n 3, (0, (0, 0))), some (.iconst 2, (0, (0, 0))), some (.iadd, (0, (0, 0))), some (.iaload, (0, (0, 0))), some (.invokevirtual 83, (153, (2, 1))), none, none, some (.if_icmp .eq 484, (0, (0, 0))), none, none, some (.iconst 0, (0, (0, 0))), some (.ireturn, (0, (0, 0))), some (.aload_n 1, (0, (0, 0))), some (.aload_n 0, (0, (0, 0))), some (.iload_n 3, (0, (0, 0))), some (.iconst 1, (0, (0, 0))), some (.iadd, (0, (0, 0))), some (.iaload, (0, (0, 0))), some (.invokevirtual 84, (85, (1, 1))), none, none, some (.aload_n 2, (0, (0, 0))), some (.aload_n 0, (0, (0, 0))), some (.iload_n 3, (0, (0, 0))), some (.iconst 1, (0, (0, 0))), some (.iadd, (0, (0, 0))), some (.iaload, (0, (0, 0))), some (.invokevirtual 87, (154, (1, 1))), none, none, some (.if_icmp .eq 461, (0, (0, 0))), none, none, some (.iconst 0, (0, (0, 0))), some (.ireturn, (0, (0, 0))), some (.aload_n 1, (0, (0, 0))), some (.aload_n 0, (0, (0, 0))), some (.iload_n 3, (0, (0, 0))), some (.iconst 1, (0, (0, 0))), some (.iadd, (0, (0, 0))), some (.iaload, (0, (0, 0))), some (.aload_n 0, (0, (0, 0))), some (.iload_n 3, (0, (0, 0))), some (.iconst 2, (0, (0, 0))), some (.iadd, (0, (0, 0))), some (.iaload, (0, (0, 0))), some (.aload_n 0, (0, (0, 0))), some (.iload_n 3, (0, (0, 0))), some (.iconst 3, (0, (0, 0))), some (.iadd, (0, (0, 0))), some (.iaload, (0, (0, 0))), some (.invokevirtual 88, (86, (3, 1))), none, none, some (.aload_n 2, (0, (0, 0))), some (.aload_n 0, (0, (0, 0))), some (.iload_n 3, (0, (0, 0))), some (.iconst 1, (0, (0, 0))), some (.iadd, (0, (0, 0))), some (.iaload, (0, (0, 0))), some (.aload_n 0, (0, (0, 0))), some (.iload_n 3, (0, (0, 0))), some (.iconst 2, (0, (0, 0))), some (.iadd, (0, (0, 0))), some (.iaload, (0, (0, 0))), some (.aload_n 0, (0, (0, 0))), some (.iload_n 3, (0, (0, 0))), some (.iconst 3, (0, (0, 0))), some (.iadd, (0, (0, 0))), some (.iaload, (0, (0, 0))), some (.invokevirtual 91, (155, (3, 1))), none, none, some (.if_icmp .eq 418, (0, (0, 0))), none, none, some (.iconst 0, (0, (0, 0))), some (.ireturn, (0, (0, 0))), some (.aload_n 1, (0, (0, 0))), some (.aload_n 0, (0, (0, 0))), some (.iload_n 3, (0, (0, 0))), some (.iconst 1, (0, (0, 0))), some (.iadd, (0, (0, 0))), some (.iaload, (0, (0, 0))), some (.aload_n 0, (0, (0, 0))), some (.iload_n 3, (0, (0, 0))), some (.iconst 2, (0, (0, 0))), some (.iadd, (0, (0, 0))), some (.iaload, (0, (0, 0))), some (.invokevirtual 92, (87, (2, 1))), none, none, some (.aload_n 2, (0, (0, 0))), some (.aload_n 0, (0, (0, 0))), some (.iload_n 3, (0, (0, 0))), some (.iconst 1, (0, (0, 0))), some (.iadd, (0, (0, 0))), some (.iaload, (0, (0, 0))), some (.aload_n 0, (0, (0, 0))), some (.iload_n 3, (0, (0, 0))), some (.iconst 2, (0, (0, 0))), some (.iadd, (0, (0, 0))), some (.iaload, (0, (0, 0))), some (.invokevirtual 95, (156, (2, 1))), none, none, some (.if_icmp .eq 385, (0, (0, 0))), none, none, some (.iconst 0, (0, (0, 0))), some (.ireturn, (0, (0, 0))), some (.aload_n 1, (0, (0, 0))), some (.aload_n 0, (0, (0, 0))), some (.iload_n 3, (0, (0, 0))), some (.iconst 1, (0, (0, 0))), some (.iadd, (0, (0, 0))), some (.iaload, (0, (0, 0))), some (.aload_n 0, (0, (0, 0))), some (.iload_n 3, (0, (0, 0))), some (.iconst 2, (0, (0, 0))), some (.iadd, (0, (0, 0))), some (.iaload, (0, (0, 0))), some (.aload_n 0, (0, (0, 0))), some (.iload_n 3, (0, (0, 0))), some (.iconst 3, (0, (0, 0))), some (.iadd, (0, (0, 0))), some (.iaload, (0, (0, 0))), some (.aload_n 0, (0, (0, 0))), some (.iload_n 3, (0, (0, 0))), some (.iconst 4, (0, (0, 0))), some (.iadd, (0, (0, 0))), some (.iaload, (0, (0, 0))), some (.invokevirtual 96, (88, (4, 1))), none, none, some (.aload_n 2, (0, (0, 0))), some (.aload_n 0, (0, (0, 0))), some (.iload_n 3, (0, (0, 0))), some (.iconst 1, (0, (0, 0))), some (.iadd, (0, (0, 0))), some (.iaload, (0, (0, 0))), some (.aload_n 0, (0, (0, 0))), some (.iload_n 3, (0, (0, 0))), some (.iconst 2, (0, (0, 0))), some (.iadd, (0, (0, 0))), some (.iaload, (0, (0, 0))), some (.aload_n 0, (0, (0, 0))), some (.iload_n 3, (0, (0, 0))), some (.iconst 3, (0, (0, 0))), some (.iadd, (0, (0, 0))), some (.iaload, (0, (0, 0))), some (.aload_n 0, (0, (0, 0))), some (.iload_n 3, (0, (0, 0))), some (.iconst 4, (0, (0, 0))), some (.iadd, (0, (0, 0))), some (.iaload, (0, (0, 0))), some (.invokevirtual 100, (157, (4, 1))), none, none, some (.if_icmp .eq 332, (0, (0, 0))), none, none, some (.iconst 0, (0, (0, 0))), some (.ireturn, (0, (0, 0))), some (.aload_n 1, (0, (0, 0))), some (.aload_n 0, (0, (0, 0))), some (.iload_n 3, (0, (0, 0))), some (.iconst 1, (0, (0, 0))), some (.iadd, (0, (0, 0))), some (.iaload, (0, (0, 0))), some (.aload_n 0, (0, (0, 0))), some (.iload_n 3, (0, (0, 0))), some (.iconst 2, (0, (0, 0))), some (.iadd, (0, (0, 0))), some (.iaload, (0, (0, 0))), some (.invokevirtual 101, (89, (2, 1))), none, none, some (.aload_n 2, (0, (0, 0))), some (.aload_n 0, (0, (0, 0))), some (.iload_n 3, (0, (0, 0))), some (.iconst 1, (0, (0, 0))), some (.iadd, (0, (0, 0))), some (.iaload, (0, (0, 0))), some (.aload_n 0, (0, (0, 0))), some (.iload_n 3, (0, (0, 0))), some (.iconst 2, (0, (0, 0))), some (.iadd, (0, (0, 0))), some (.iaload, (0, (0, 0))), some (.invokevirtual 104, (158, (2, 1))), none, none, some (.if_icmp .eq 299, (0, (0, 0))), none, none, some (.iconst 0, (0, (0, 0))), some (.ireturn, (0, (0, 0))), some (.aload_n 1, (0, (0, 0))), some (.aload_n 0, (0, (0, 0))), some (.iload_n 3, (0, (0, 0))), some (.iconst 1, (0, (0, 0))), some (.iadd, (0, (0, 0))), some (.iaload, (0, (0, 0))), some (.aload_n 0, (0, (0, 0))), some (.iload_n 3, (0, (0, 0))), some (.iconst 2, (0, (0, 0))), some (.iadd, (0, (0, 0))), some (.iaload, (0, (0, 0))), some (.invokevirtual 105, (90, (2, 1))), none, none, some (.aload_n 2, (0, (0, 0))), some (.aload_n 0, (0, (0, 0))), some (.iload_n 3, (0, (0, 0))), some (.iconst 1, (0, (0, 0))), some (.iadd, (0, (0, 0))), some (.iaload, (0, (0, 0))), some (.aload_n 0, (0, (0, 0))), some (.iload_n 3, (0, (0, 0))), some (.iconst 2, (0, (0, 0))), some (.iadd, (0, (0, 0))), some (.iaload, (0, (0, 0))), some (.invokevirtual 108, (159, (2, 1))), none, none, some (.if_icmp .eq 266, (0, (0, 0))), none, none, some (.iconst 0, (0, (0, 0))), some (.ireturn, (0, (0, 0))), some (.aload_n 1, (0, (0, 0))), some (.aload_n 0, (0, (0, 0))), some (.iload_n 3, (0, (0, 0))), some (.iconst 1, (0, (0, 0))), some (.iadd, (0, (0, 0))), some (.iaload, (0, (0, 0))), some (.invokevirtual 109, (93, (1, 1))), none, none, some (.aload_n 2, (0, (0, 0))), some (.aload_n 0, (0, (0, 0))), some (.iload_n 3, (0, (0, 0))), some (.iconst 1, (0, (0, 0))), some (.iadd, (0, (0, 0))), some (.iaload, (0, (0, 0))), some (.invokevirtual 112, (161, (1, 1))), none, none, some (.if_icmp .eq 243, (0, (0, 0))), none, none, some (.iconst 0, (0, (0, 0))), some (.ireturn, (0, (0, 0))), some (.aload_n 1, (0, (0, 0))), some (.aload_n 0, (0, (0, 0))), some (.iload_n 3, (0, (0, 0))), some (.iconst 1, (0, (0, 0))), some (.iadd, (0, (0, 0))), some (.iaload, (0, (0, 0))), some (.aload_n 0, (0, (0, 0))), some (.iload_n 3, (0, (0, 0))), some (.iconst 2, (0, (0, 0))), some (.iadd, (0, (0, 0))), some (.iaload, (0, (0, 0))), some (.aload_n 0, (0, (0, 0))), some (.iload_n 3, (0, (0, 0))), some (.iconst 3, (0, (0, 0))), some (.iadd, (0, (0, 0))), some (.iaload, (0, (0, 0))), some (.invokevirtual 113, (94, (3, 1))), none, none, some (.aload_n 2, (0, (0, 0))), some (.aload_n 0, (0, (0, 0))), some (.iload_n 3, (0, (0, 0))), some (.iconst 1, (0, (0, 0))), some (.iadd, (0, (0, 0))), some (.iaload, (0, (0, 0))), some (.aload_n 0, (0, (0, 0))), some (.iload_n 3, (0, (0, 0))), some (.iconst 2, (0, (0, 0))), some (.iadd, (0, (0, 0))), some (.iaload, (0, (0, 0))), some (.aload_n 0, (0, (0, 0))), some (.iload_n 3, (0, (0, 0))), some (.iconst 3, (0, (0, 0))), some (.iadd, (0, (0, 0))), some (.iaload, (0, (0, 0))), some (.invokevirtual 116, (162, (3, 1))), none, none, some (.if_icmp .eq 200, (0, (0, 0))), none, none, some (.iconst 0, (0, (0, 0))), some (.ireturn, (0, (0, 0))), some (.aload_n 1, (0, (0, 0))), some (.aload_n 0, (0, (0, 0))), some (.iload_n 3, (0, (0, 0))), some (.iconst 1, (0, (0, 0))), some (.iadd, (0, (0, 0))), some (.iaload, (0, (0, 0))), some (.aload_n 0, (0, (0, 0))), some (.iload_n 3, (0, (0, 0))), some (.iconst 2, (0, (0, 0))), some (.iadd, (0, (0, 0))), some (.iaload, (0, (0, 0))), some (.invokevirtual 117, (95, (2, 1))), none, none, some (.aload_n 2, (0, (0, 0))), some (.aload_n 0, (0, (0, 0))), some (.iload_n 3, (0, (0, 0))), some (.iconst 1, (0, (0, 0))), some (.iadd, (0, (0, 0))), some (.iaload, (0, (0, 0))), some (.aload_n 0, (0, (0, 0))), some (.iload_n 3, (0, (0, 0))), some (.iconst 2, (0, (0, 0))), some (.iadd, (0, (0, 0))), some (.iaload, (0, (0, 0))), some (.invokevirtual 120, (163, (2, 1))), none, none, some (.if_icmp .eq 167, (0, (0, 0))), none, none, some (.iconst 0, (0, (0, 0))), some (.ireturn, (0, (0, 0))), some (.aload_n 1, (0, (0, 0))), some (.aload_n 0, (0, (0, 0))), some (.iload_n 3, (0, (0, 0))), some (.iconst 1, (0, (0, 0))), some (.iadd, (0, (0, 0))), some (.iaload, (0, (0, 0))), some (.aload_n 0, (0, (0, 0))), some (.iload_n 3, (0, (0, 0))), some (.iconst 2, (0, (0, 0))), some (.iadd, (0, (0, 0))), some (.iaload, (0, (0, 0))), some (.aload_n 0, (0, (0, 0))), some (.iload_n 3, (0, (0, 0))), some (.iconst 3, (0, (0, 0))), some (.iadd, (0, (0, 0))), some (.iaload, (0, (0, 0))), some (.invokevirtual 121, (97, (3, 1))), none, none, some (.aload_n 2, (0, (0, 0))), some (.aload_n 0, (0, (0, 0))), some (.iload_n 3, (0, (0, 0))), some (.iconst 1, (0, (0, 0))), some (.iadd, (0, (0, 0))), some (.iaload, (0, (0, 0))), some (.aload_n 0, (0, (0, 0))), some (.iload_n 3, (0, (0, 0))), some (.iconst 2, (0, (0, 0))), some (.iadd, (0, (0, 0))), some (.iaload, (0, (0, 0))), some (.aload_n 0, (0, (0, 0))), some (.iload_n 3, (0, (0, 0))), some (.iconst 3, (0, (0, 0))), some (.iadd, (0, (0, 0))), some (.iaload, (0, (0, 0))), some (.invokevirtual 124, (165, (3, 1))), none, none, some (.if_icmp .eq 124, (0, (0, 0))), none, none, some (.iconst 0, (0, (0, 0))), some (.ireturn, (0, (0, 0))), some (.aload_n 1, (0, (0, 0))), some (.aload_n 0, (0, (0, 0))), some (.iload_n 3, (0, (0, 0))), some (.iconst 1, (0, (0, 0))), some (.iadd, (0, (0, 0))), some (.iaload, (0, (0, 0))), some (.aload_n 0, (0, (0, 0))), some (.iload_n 3, (0, (0, 0))), some (.iconst 2, (0, (0, 0))), some (.iadd, (0, (0, 0))), some (.iaload, (0, (0, 0))), some (.aload_n 0, (0, (0, 0))), some (.iload_n 3, (0, (0, 0))), some (.iconst 3, (0, (0, 0))), some (.iadd, (0, (0, 0))), some (.iaload, (0, (0, 0))), some (.invokevirtual 125, (98, (3, 1))), none, none, some (.aload_n 2, (0, (0, 0))), some (.aload_n 0, (0, (0, 0))), some (.iload_n 3, (0, (0, 0))), some (.iconst 1, (0, (0, 0))), some (.iadd, (0, (0, 0))), some (.iaload, (0, (0, 0))), some (.aload_n 0, (0, (0, 0))), some (.iload_n 3, (0, (0, 0))), some (.iconst 2, (0, (0, 0))), some (.iadd, (0, (0, 0))), some (.iaload, (0, (0, 0))), some (.aload_n 0, (0, (0, 0))), some (.iload_n 3, (0, (0, 0))), some (.iconst 3, (0, (0, 0))), some (.iadd, (0, (0, 0))), some (.iaload, (0, (0, 0))), some (.invokevirtual 128, (166, (3, 1))), none, none, some (.if_icmp .eq 81, (0, (0, 0))), none, none, some (.iconst 0, (0, (0, 0))), some (.ireturn, (0, (0, 0))), some (.aload_n 1, (0, (0, 0))), some (.aload_n 0, (0, (0, 0))), some (.iload_n 3, (0, (0, 0))), some (.iconst 1, (0, (0, 0))), some (.iadd, (0, (0, 0))), some (.iaload, (0, (0, 0))), some (.aload_n 0, (0, (0, 0))), some (.iload_n 3, (0, (0, 0))), some (.iconst 2, (0, (0, 0))), some (.iadd, (0, (0, 0))), some (.iaload, (0, (0, 0))), some (.aload_n 0, (0, (0, 0))), some (.iload_n 3, (0, (0, 0))), some (.iconst 3, (0, (0, 0))), some (.iadd, (0, (0, 0))), some (.iaload, (0, (0, 0))), some (.aload_n 0, (0, (0, 0))), some (.iload_n 3, (0, (0, 0))), some (.iconst 4, (0, (0, 0))), some (.iadd, (0, (0, 0))), some (.iaload, (0, (0, 0))), some (.invokevirtual 129, (99, (4, 1))), none, none, some (.aload_n 2, (0, (0, 0))), some (.aload_n 0, (0, (0, 0))), some (.iload_n 3, (0, (0, 0))), some (.iconst 1, (0, (0, 0))), some (.iadd, (0, (0, 0))), some (.iaload, (0, (0, 0))), some (.aload_n 0, (0, (0, 0))), some (.iload_n 3, (0, (0, 0))), some (.iconst 2, (0, (0, 0))), some (.iadd, (0, (0, 0))), some (.iaload, (0, (0, 0))), some (.aload_n 0, (0, (0, 0))), some (.iload_n 3, (0, (0, 0))), some (.iconst 3, (0, (0, 0))), some (.iadd, (0, (0, 0))), some (.iaload, (0, (0, 0))), some (.aload_n 0, (0, (0, 0))), some (.iload_n 3, (0, (0, 0))), some (.iconst 4, (0, (0, 0))), some (.iadd, (0, (0, 0))), some (.iaload, (0, (0, 0))), some (.invokevirtual 132, (167, (4, 1))), none, none, some (.if_icmp .eq 28, (0, (0, 0))), none, none, some (.iconst 0, (0, (0, 0))), some (.ireturn, (0, (0, 0))), some (.aload_n 1, (0, (0, 0))), some (.aload_n 0, (0, (0, 0))), some (.iload_n 3, (0, (0, 0))), some (.iconst 1, (0, (0, 0))), some (.iadd, (0, (0, 0))), some (.iaload, (0, (0, 0))), some (.invokevirtual 133, (102, (1, 1))), none, none, some (.aload_n 2, (0, (0, 0))), some (.aload_n 0, (0, (0, 0))), some (.iload_n 3, (0, (0, 0))), some (.iconst 1, (0, (0, 0))), some (.iadd, (0, (0, 0))), some (.iaload, (0, (0, 0))), some (.invokevirtual 136, (168, (1, 1))), none, none, some (.if_icmp .eq 5, (0, (0, 0))), none, none, some (.iconst 0, (0, (0, 0))), some (.ireturn, (0, (0, 0))), some (.iinc 3 7, (0, (0, 0))), none, none, some (.goto (-1194), (0, (0, 0))), none, none, some (.iconst 1, (0, (0, 0))), some (.ireturn, (0, (0, 0)))]
def mt_169 : MT := ((yL_law, (cL_law, (4, ret))), (9, (tb_169, [(18, [0, 1, 2, 3]), (388, [0, 1, 2, 3]), (415, [0, 1, 2, 3]), (1209, [0, 1, 2, 3])])))
def mtab : List MT := [mt_0, mt_1, mt_2, mt_3, mt_4, mt_5, mt_6, mt_7, mt_8, mt_9, mt_10, mt_11, mt_12, mt_13, mt_14, mt_15, mt_16, mt_17, mt_18, mt_19, mt_20, mt_21, mt_22, mt_23, mt_24, mt_25, mt_26, mt_27, mt_28, mt_29, mt_30, mt_31, mt_32, mt_33, mt_34, mt_35, mt_36, mt_37, mt_38, mt_39, mt_40, mt_41, mt_42, mt_43, mt_44, mt_45, mt_46, mt_47, mt_48, mt_49, mt_50, mt_51, mt_52, mt_53, mt_54, mt_55, mt_56, mt_57, mt_58, mt_59, mt_60, mt_61, mt_62, mt_63, mt_64, mt_65, mt_66, mt_67, mt_68, mt_69, mt_70, mt_71, mt_72, mt_73, mt_74, mt_75, mt_76, mt_77, mt_78, mt_79, mt_80, mt_81, mt_82, mt_83, mt_84, mt_85, mt_86, mt_87, mt_88, mt_89, mt_90, mt_91, mt_92, mt_93, mt_94, mt_95, mt_96, mt_97, mt_98, mt_99, mt_100, mt_101, mt_102, mt_103, mt_104, mt_105, mt_106, mt_107, mt_108, mt_109, mt_110, mt_111, mt_112, mt_113, mt_114, mt_115, mt_116, mt_117, mt_118, mt_119, mt_120, mt_121, mt_122, mt_123, mt_124, mt_125, mt_126, mt_127, mt_128, mt_129, mt_130, mt_131, mt_132, mt_133, mt_134, mt_135, mt_136, mt_137, mt_138, mt_139, mt_140, mt_141, mt_142, mt_143, mt_144, mt_145, mt_146, mt_147, mt_148, mt_149, mt_150, mt_151, mt_152, mt_153, mt_154, mt_155, mt_156, mt_157, mt_158, mt_159, mt_160, mt_161, mt_162, mt_163, mt_164, mt_165, mt_166, mt_167, mt_168, mt_169]
def flT : List (Nat × Nat × Nat × Nat) := [(0, 9, 0, 0), (0, 15, 0, 1), (0, 18, 0, 2), (0, 22, 0, 3), (0, 26, 0, 4), (0, 29, 0, 5), (0, 33, 0, 6), (0, 36, 0, 7), (1, 9, 1, 0), (1, 15, 1, 1), (1, 19, 0, 4), (1, 53, 0, 3), (1, 60, 0, 0), (1, 63, 0, 1), (2, 9, 2, 2), (2, 21, 2, 0), (2, 25, 2, 1), (3, 9, 3, 0), (3, 15, 3, 1), (3, 19, 3, 2), (3, 22, 3, 3), (3, 25, 3, 4), (3, 38, 0, 1), (3, 45, 0, 0), (4, 9, 4, 0), (4, 15, 4, 1), (4, 19, 4, 2), (5, 11, 5, 0), (5, 15, 5, 1), (5, 18, 5, 2), (5, 21, 5, 3), (5, 24, 5, 4), (5, 28, 5, 5), (5, 31, 5, 6), (5, 34, 5, 7), (5, 37, 5, 8), (5, 40, 5, 9), (5, 43, 5, 10), (5, 46, 5, 11), (5, 49, 5, 12), (5, 52, 5, 13), (5, 55, 5, 14), (5, 59, 5, 15), (5, 65, 5, 16), (5, 69, 5, 17), (5, 109, 0, 0), (5, 110, 0, 1), (5, 127, 2, 0), (5, 132, 2, 2), (5, 135, 2, 1), (5, 141, 3, 1), (5, 168, 0, 7), (6, 12, 6, 0), (6, 18, 6, 1), (6, 22, 6, 2), (6, 26, 6, 3), (6, 44, 3, 4), (6, 47, 3, 0), (7, 14, 7, 0), (7, 20, 7, 1), (7, 24, 7, 2), (7, 30, 7, 3), (7, 34, 7, 4), (7, 39, 7, 5), (7, 44, 7, 6), (7, 51, 7, 7), (7, 58, 7, 8), (7, 65, 7, 9), (7, 69, 7, 10), (7, 72, 7, 11), (7, 76, 7, 12), (7, 79, 7, 13), (7, 82, 7, 14), (7, 85, 7, 15), (7, 98, 2, 2), (7, 134, 0, 5), (7, 151, 0, 3), (7, 154, 0, 4), (7, 160, 0, 0), (7, 164, 0, 1), (7, 179, 3, 0), (7, 182, 3, 2), (7, 185, 3, 3), (7, 197, 2, 0), (7, 200, 2, 1), (7, 207, 0, 7), (7, 252, 6, 0), (7, 253, 3, 4), (7, 256, 6, 2), (7, 259, 6, 3), (7, 277, 4, 1), (7, 284, 4, 0), (8, 7, 8, 1), (8, 13, 8, 2), (8, 16, 8, 4), (8, 19, 8, 5), (8, 22, 8, 6), (8, 26, 8, 7), (8, 29, 8, 8), (8, 32, 8, 9), (8, 35, 8, 10), (8, 38, 8, 11), (8, 41, 8, 13), (8, 44, 8, 14), (8, 47, 8, 15), (8, 50, 8, 17), (8, 53, 8, 18), (8, 56, 8, 19), (8, 59, 8, 20), (8, 62, 8, 21), (8, 65, 8, 25), (8, 68, 8, 26), (8, 71, 8, 27), (8, 74, 8, 30), (8, 77, 8, 32), (8, 80, 8, 33), (8, 83, 8, 34), (8, 86, 8, 35), (8, 89, 8, 36), (8, 92, 8, 37), (8, 95, 8, 38), (8, 98, 8, 39), (8, 101, 8, 40), (8, 104, 8, 41), (8, 113, 8, 0), (8, 121, 8, 3), (8, 141, 8, 31), (8, 159, 8, 12), (8, 162, 8, 16), (8, 178, 8, 24), (8, 181, 8, 23), (8, 199, 8, 22), (8, 217, 8, 28), (8, 220, 8, 29)]
def mlT : List (Nat × Nat × Nat) := [(0, 39, 1), (0, 49, 3), (0, 53, 15), (0, 56, 12), (1, 30, 1), (1, 34, 19), (1, 38, 18), (1, 42, 7), (1, 46, 20), (1, 49, 8), (1, 56, 4), (1, 66, 6), (3, 28, 31), (3, 32, 4), (3, 41, 30), (3, 48, 33), (3, 52, 12), (3, 56, 40), (4, 22, 37), (5, 72, 42), (5, 75, 43), (5, 79, 45), (5, 83, 7), (5, 89, 44), (5, 93, 46), (5, 97, 47), (5, 101, 48), (5, 105, 4), (5, 113, 49), (5, 122, 50), (5, 124, 51), (5, 138, 28), (5, 144, 29), (5, 148, 41), (5, 151, 55), (5, 155, 56), (5, 159, 10), (5, 162, 40), (5, 165, 11), (5, 177, 57), (6, 29, 28), (6, 32, 32), (6, 36, 60), (6, 40, 29), (6, 50, 7), (7, 11, 21), (7, 43, 0), (7, 90, 24), (7, 94, 23), (7, 101, 22), (7, 104, 25), (7, 108, 76), (7, 112, 1), (7, 116, 77), (7, 120, 75), (7, 124, 3), (7, 127, 5), (7, 130, 4), (7, 137, 6), (7, 141, 78), (7, 144, 7), (7, 147, 8), (7, 157, 9), (7, 167, 2), (7, 171, 17), (7, 175, 82), (7, 188, 83), (7, 191, 28), (7, 193, 32), (7, 203, 29), (7, 210, 54), (7, 214, 13), (7, 217, 14), (7, 220, 91), (7, 223, 92), (7, 227, 41), (7, 231, 26), (7, 235, 52), (7, 239, 53), (7, 243, 59), (7, 245, 96), (7, 249, 61), (7, 262, 101), (7, 266, 35), (7, 267, 36), (7, 271, 37), (7, 274, 38), (7, 280, 100), (7, 287, 103), (7, 290, 104), (7, 293, 60), (7, 296, 105), (8, 109, 107), (8, 117, 110), (8, 124, 113), (8, 128, 114), (8, 132, 116), (8, 137, 118), (8, 144, 117), (8, 148, 120), (8, 151, 115), (8, 155, 127), (8, 165, 129), (8, 168, 130), (8, 172, 131), (8, 184, 134), (8, 188, 137), (8, 192, 135), (8, 196, 136), (8, 202, 139), (8, 205, 138), (8, 208, 140), (8, 211, 141), (8, 214, 142), (8, 223, 146), (8, 226, 143), (8, 229, 144), (8, 232, 147), (8, 235, 145), (8, 238, 150), (8, 241, 149), (8, 244, 151), (8, 248, 148), (8, 251, 160), (8, 254, 164), (8, 259, 108), (9, 9, 62), (9, 12, 106), (9, 13, 63), (9, 17, 108), (9, 18, 64), (9, 22, 109), (9, 23, 65), (9, 26, 111), (9, 27, 66), (9, 31, 112), (9, 32, 67), (9, 35, 119), (9, 36, 68), (9, 40, 121), (9, 41, 69), (9, 45, 122), (9, 46, 70), (9, 49, 123), (9, 50, 71), (9, 54, 124), (9, 55, 72), (9, 58, 125), (9, 59, 73), (9, 62, 126), (9, 63, 74), (9, 67, 128), (9, 68, 79), (9, 71, 132), (9, 72, 80), (9, 75, 133), (9, 76, 81), (9, 79, 152), (9, 80, 84), (9, 83, 153), (9, 84, 85), (9, 87, 154), (9, 88, 86), (9, 91, 155), (9, 92, 87), (9, 95, 156), (9, 96, 88), (9, 100, 157), (9, 101, 89), (9, 104, 158), (9, 105, 90), (9, 108, 159), (9, 109, 93), (9, 112, 161), (9, 113, 94), (9, 116, 162), (9, 117, 95), (9, 120, 163), (9, 121, 97), (9, 124, 165), (9, 125, 98), (9, 128, 166), (9, 129, 99), (9, 132, 167), (9, 133, 102), (9, 136, 168)]
def nlT : List (Nat × Nat × Nat) := [(5, 64, 27), (6, 11, 27), (7, 50, 16), (7, 57, 27), (7, 64, 39), (7, 88, 58), (7, 89, 34)]
def klT : List (Nat × Nat × Nat) := [(5, 62, 3), (6, 9, 3), (7, 7, 2), (7, 18, 0), (7, 28, 6), (7, 37, 4), (7, 48, 1), (7, 55, 3), (7, 62, 5), (9, 7, 7), (9, 10, 8)]
def qlT : List (Nat × Nat × Nat) := [(7, 18, 2), (7, 28, 3), (7, 37, 4)]
def llT : List (Nat × Nat × Nat) := [(8, 107, 2), (8, 135, 6), (8, 176, 3), (8, 257, 30)]
def xlT : List (Nat × Nat × Nat) := [(1, 24, 1001), (2, 15, 1001), (2, 28, 1002), (5, 172, 1002)]
def olT : List (Nat × Nat) := [(0, 3), (1, 3), (2, 3), (3, 3), (4, 3), (5, 5), (6, 3), (7, 1), (8, 1)]
def alT : List (Nat × Nat) := [(0, 43), (2, 31), (5, 116)]
end
section
/-! ===== am: a small machine of our own. Heap: a function of addresses; top address; slots made so far ===== -/
abbrev AC : Type := (Nat × (Nat × (Nat → Int32))) ⊕ ((Nat × (Nat × (Nat → Option Nat))) ⊕ (Nat × List Value))
abbrev AH : Type := (Nat → Option AC) × (Nat × Nat)
abbrev RV : Type := Option Value × AH
abbrev aI (t n : Nat) (f : Nat → Int32) : AC := .inl (t, (n, f))
abbrev aQ (t n : Nat) (g : Nat → Option Nat) : AC := .inr (.inl (t, (n, g)))
abbrev oB (ci : Nat) (fs : List Value) : AC := .inr (.inr (ci, fs))
def hS (h : AH) (a : Nat) (e : AC) : AH := (fun q => if q = a then some e else h.1 q, h.2)
def hN (h : AH) (e : AC) (n : Nat) : AH := (fun q => if q = h.2.1 then some e else h.1 q, (h.2.1 + 1, h.2.2 + n))
/-- objects' fields when new -/
def dfl (ci : Nat) : List Value := match ci with
  | 0 => [.null, .null, .null, .int 0, .int 0, .int 0, .null, .int 0]
  | 1 => [.null, .int 0]
  | 2 => [.null, .null, .int 0]
  | 3 => [.int 0, .null, .null, .int 0, .int 0]
  | 4 => [.null, .int 0, .int 0]
  | 5 => [.null, .null, .null, .null, .int 0, .int 0, .int 0, .int 0, .null, .null, .null, .null, .null, .null, .null, .null, .null, .null]
  | 6 => [.null, .null, .int 0, .int 0]
  | 7 => [.null, .null, .int 0, .null, .int 0, .null, .null, .null, .null, .null, .null, .int 0, .int 0, .int 0, .int 0, .int 0]
  | 8 => [.int 0, .null, .null, .int 0, .null, .null, .null, .null, .null, .null, .null, .null, .int 0, .null, .null, .null, .int 0, .null, .null, .null, .null, .null, .int 0, .int 0, .int 0, .null, .null, .null, .int 0, .int 0, .null, .int 0, .null, .null, .null, .null, .null, .null, .null, .null, .null, .null]
  | _ => []
/-- the class of an array of references, by its tag -/
def qcl (t : Nat) : Nat := match t with
  | 2 => 0
  | 3 => 6
  | _ => 4
def pI (st : List Value) (f : Int32 → List Value → Option RV) : Option RV := match st with
  | .int x :: r => f x r
  | _ => none
def pL (st : List Value) (f : Int64 → List Value → Option RV) : Option RV := match st with
  | .long x :: r => f x r
  | _ => none
def pR (st : List Value) (f : Nat → List Value → Option RV) : Option RV := match st with
  | .ref x :: r => f x r
  | _ => none
/-- a reference or null -/
def pQ (st : List Value) (fn : List Value → Option RV) (fr : Nat → List Value → Option RV) : Option RV := match st with
  | .ref x :: r => fr x r
  | .null :: r => fn r
  | _ => none
def gLI (L : List (Option Value)) (i : Nat) (f : Int32 → Option RV) : Option RV := match L[i]? with
  | some (some (.int x)) => f x
  | _ => none
def gLL (L : List (Option Value)) (i : Nat) (f : Int64 → Option RV) : Option RV := match L[i]? with
  | some (some (.long x)) => f x
  | _ => none
def gLQ (L : List (Option Value)) (i : Nat) (fn : Option RV) (fr : Nat → Option RV) : Option RV := match L[i]? with
  | some (some (.ref x)) => fr x
  | some (some .null) => fn
  | _ => none
/-- no long stands just ahead -/
def noL (L : List (Option Value)) (i : Nat) : Bool := match i with
  | 0 => true
  | j + 1 => match L[j]? with
    | some (some (.long _)) => false
    | some (some (.double _)) => false
    | _ => true
def sL (L : List (Option Value)) (i : Nat) (v : Value) (f : List (Option Value) → Option RV) : Option RV :=
  bif Nat.blt i L.length && noL L i then f (L.set i (some v)) else none
def sLL (L : List (Option Value)) (i : Nat) (v : Value) (f : List (Option Value) → Option RV) : Option RV :=
  bif Nat.blt (i + 1) L.length && noL L i then f ((L.set i (some v)).set (i + 1) none) else none
def jmp (pc : Nat) (off : Int) (f : Nat → Option RV) : Option RV := match (pc : Int) + off with
  | .ofNat t => f t
  | .negSucc _ => none
def gfI (h : AH) (a ci k : Nat) (f : Int32 → Option RV) : Option RV := match h.1 a with
  | some (.inr (.inr (c, fs))) => if c = ci then (match fs[k]? with
    | some (.int x) => f x
    | _ => none) else none
  | _ => none
def gfQ (h : AH) (a ci k : Nat) (fn : Option RV) (fr : Nat → Option RV) : Option RV := match h.1 a with
  | some (.inr (.inr (c, fs))) => if c = ci then (match fs[k]? with
    | some (.ref x) => fr x
    | some .null => fn
    | _ => none) else none
  | _ => none
def pfV (h : AH) (a ci k : Nat) (v : Value) (f : AH → Option RV) : Option RV := match h.1 a with
  | some (.inr (.inr (c, fs))) => if c = ci ∧ k < fs.length then f (hS h a (oB c (fs.set k v))) else none
  | _ => none
def isZ (x : Int32) (f : Option RV) : Option RV := if x = 0 ∨ x = 1 then f else none
def ldI (h : AH) (a : Nat) (i : Int32) (f : Int32 → Option RV) : Option RV := match h.1 a with
  | some (.inl (t, (n, g))) => if t = 1 ∨ (i < 0 ∨ n ≤ i.toNatClampNeg) then none else f (g i.toNatClampNeg)
  | _ => none
def ldZ (h : AH) (a : Nat) (i : Int32) (f : Int32 → Option RV) : Option RV := match h.1 a with
  | some (.inl (t, (n, g))) => if ¬ t = 1 ∨ (i < 0 ∨ n ≤ i.toNatClampNeg) then none else f (g i.toNatClampNeg)
  | _ => none
def ldQ (h : AH) (a : Nat) (i : Int32) (fn : Option RV) (fr : Nat → Option RV) : Option RV := match h.1 a with
  | some (.inr (.inl (_, (n, g)))) => if i < 0 ∨ n ≤ i.toNatClampNeg then none else (match g i.toNatClampNeg with
    | some b => fr b
    | none => fn)
  | _ => none
def stI (h : AH) (a : Nat) (i x : Int32) (f : AH → Option RV) : Option RV := match h.1 a with
  | some (.inl (t, (n, g))) => if ¬ t = 0 ∨ (i < 0 ∨ n ≤ i.toNatClampNeg) then none else f (hS h a (aI t n (upd g i.toNatClampNeg x)))
  | _ => none
def stZ (h : AH) (a : Nat) (i x : Int32) (f : AH → Option RV) : Option RV := match h.1 a with
  | some (.inl (t, (n, g))) => if ¬ t = 1 ∨ (i < 0 ∨ n ≤ i.toNatClampNeg) then none else f (hS h a (aI t n (upd g i.toNatClampNeg (vp_nar .boolean x))))
  | _ => none
def isO (h : AH) (a ci : Nat) (f : Option RV) : Option RV := match h.1 a with
  | some (.inr (.inr (c, _))) => if c = ci then f else none
  | _ => none
def stQ (h : AH) (a : Nat) (i : Int32) (v : Nat) (f : AH → Option RV) : Option RV := match h.1 a with
  | some (.inr (.inl (t, (n, g)))) => if i < 0 ∨ n ≤ i.toNatClampNeg then none else isO h v (qcl t) (f (hS h a (aQ t n (va_up g i.toNatClampNeg (some v)))))
  | _ => none
def lnA (h : AH) (a : Nat) (f : Int32 → Option RV) : Option RV := match h.1 a with
  | some (.inl (_, (n, _))) => f (Int32.ofNat n)
  | some (.inr (.inl (_, (n, _)))) => f (Int32.ofNat n)
  | _ => none
def cpA (h : AH) (s : Nat) (sp : Int32) (d : Nat) (dp n : Int32) (f : AH → Option RV) : Option RV := match h.1 s with
  | some (.inl (t0, (n0, g0))) => (match h.1 d with
    | some (.inl (t1, (n1, g1))) => if s = d ∨ ¬ t0 = 0 ∨ ¬ t1 = 0 ∨ sp < 0 ∨ dp < 0 ∨ n < 0 ∨ n0 < sp.toNatClampNeg + n.toNatClampNeg ∨ n1 < dp.toNatClampNeg + n.toNatClampNeg then none
        else f (hS h d (aI t1 n1 (va_cpy g0 g1 sp.toNatClampNeg dp.toNatClampNeg n.toNatClampNeg)))
    | _ => none)
  | _ => none
/-- a result that is void, an int, a reference or null -/
def rV (q : RV) (f : AH → Option RV) : Option RV := match q.1 with
  | none => f q.2
  | _ => none
def rI (q : RV) (f : Int32 → AH → Option RV) : Option RV := match q.1 with
  | some (.int x) => f x q.2
  | _ => none
def rQ (q : RV) (fn : AH → Option RV) (fr : Nat → AH → Option RV) : Option RV := match q.1 with
  | some (.ref x) => fr x q.2
  | some .null => fn q.2
  | _ => none
def roomOk (rest : List Value) : Bool := Nat.ble (rest.map fun v => v.category).sum 8
abbrev Kt : Type := Nat → List (Option Value) → List Value → AH → Option RV
/-- what comes behind a call -/
def aft (k : Nat) (q : RV) (pc : Nat) (L : List (Option Value)) (rest : List Value) (K : Kt) : Option RV := match k with
  | 0 => rV q fun h => K (pc + 3) L rest h
  | 2 => rQ q (fun h => K (pc + 3) L (.null :: rest) h) (fun a h => K (pc + 3) L (.ref a :: rest) h)
  | _ => rI q fun x h => K (pc + 3) L (.int x :: rest) h
def cmpC (c : ClassFile.Cond) (x y : Int32) (t f : Option RV) : Option RV := match c with
  | .eq => if x = y then t else f
  | .ne => if x = y then f else t
  | .lt => if x < y then t else f
  | .ge => if y ≤ x then t else f
  | .gt => if y < x then t else f
  | .le => if x ≤ y then t else f
def swt (x : Int32) (lo : Int) (offs : List Int) (f : Int → Option RV) (dflt : Option RV) : Option RV := match offs with
  | [] => dflt
  | o :: r => if x.toInt = lo then f o else swt x (lo + 1) r f dflt
abbrev Ct : Type := Nat → List Value → AH → Option RV
def clsOf (y : Nat) : Nat := match mtab[y]? with
  | some q => q.2.1
  | none => 99
/-- one instruction -/
def stp (c : Ct) (dd : Bool) (rt : Option FieldType) (i : Instr) (r : Nat × (Nat × Nat)) (pc : Nat) (L : List (Option Value)) (st : List Value) (h : AH) (K : Kt) : Option RV := match i with
  | .aconst_null => K (pc + 1) L (.null :: st) h
  | .iconst n => K (pc + 1) L (.int (Int32.ofInt n) :: st) h
  | .bipush n => K (pc + 2) L (.int (Int8.ofInt n).toInt32 :: st) h
  | .sipush n => K (pc + 3) L (.int (Int16.ofInt n).toInt32 :: st) h
  | .lconst n => K (pc + 1) L (.long (Int64.ofNat n.val) :: st) h
  | .ldc2_w _ => K (pc + 3) L (.long (Int64.ofNat r.1) :: st) h
  | .iload_n k => gLI L k.val fun x => K (pc + 1) L (.int x :: st) h
  | .iload k => gLI L k fun x => K (pc + 2) L (.int x :: st) h
  | .lload_n k => gLL L k.val fun x => K (pc + 1) L (.long x :: st) h
  | .lload k => gLL L k fun x => K (pc + 2) L (.long x :: st) h
  | .aload_n k => gLQ L k.val (K (pc + 1) L (.null :: st) h) fun x => K (pc + 1) L (.ref x :: st) h
  | .aload k => gLQ L k (K (pc + 2) L (.null :: st) h) fun x => K (pc + 2) L (.ref x :: st) h
  | .istore_n k => pI st fun x r => sL L k.val (.int x) fun L => K (pc + 1) L r h
  | .istore k => pI st fun x r => sL L k (.int x) fun L => K (pc + 2) L r h
  | .lstore k => pL st fun x r => sLL L k (.long x) fun L => K (pc + 2) L r h
  | .astore_n k => pQ st (fun r => sL L k.val .null fun L => K (pc + 1) L r h) fun x r => sL L k.val (.ref x) fun L => K (pc + 1) L r h
  | .astore k => pQ st (fun r => sL L k .null fun L => K (pc + 2) L r h) fun x r => sL L k (.ref x) fun L => K (pc + 2) L r h
  | .iinc k n => gLI L k fun x => sL L k (.int (x + Int32.ofInt n)) fun L => K (pc + 3) L st h
  | .iadd => pI st fun y r => pI r fun x r => K (pc + 1) L (.int (x + y) :: r) h
  | .isub => pI st fun y r => pI r fun x r => K (pc + 1) L (.int (x - y) :: r) h
  | .imul => pI st fun y r => pI r fun x r => K (pc + 1) L (.int (x * y) :: r) h
  | .iand => pI st fun y r => pI r fun x r => K (pc + 1) L (.int (x &&& y) :: r) h
  | .ior => pI st fun y r => pI r fun x r => K (pc + 1) L (.int (x ||| y) :: r) h
  | .ishl => pI st fun y r => pI r fun x r => K (pc + 1) L (.int (x <<< (y &&& 31)) :: r) h
  | .ishr => pI st fun y r => pI r fun x r => K (pc + 1) L (.int (x >>> (y &&& 31)) :: r) h
  | .idiv => pI st fun y r => pI r fun x r => if y = 0 then none else K (pc + 1) L (.int (x / y) :: r) h
  | .irem => pI st fun y r => pI r fun x r => if y = 0 then none else K (pc + 1) L (.int (x - x / y * y) :: r) h
  | .i2l => pI st fun x r => K (pc + 1) L (.long x.toInt64 :: r) h
  | .l2i => pL st fun x r => K (pc + 1) L (.int x.toInt32 :: r) h
  | .i2b => pI st fun x r => K (pc + 1) L (.int x.toInt8.toInt32 :: r) h
  | .i2s => pI st fun x r => K (pc + 1) L (.int x.toInt16.toInt32 :: r) h
  | .ladd => pL st fun y r => pL r fun x r => K (pc + 1) L (.long (x + y) :: r) h
  | .lcmp => pL st fun y r => pL r fun x r => K (pc + 1) L (.int (lg_cmp x y) :: r) h
  | .dup => pQ st (fun _ => none) fun x r => K (pc + 1) L (.ref x :: .ref x :: r) h
  | .dup2 => pI st fun x r => pR r fun a r => K (pc + 1) L (.int x :: .ref a :: .int x :: .ref a :: r) h
  | .pop => pI st fun _ r => K (pc + 1) L r h
  | .goto off => jmp pc off fun t => K t L st h
  | .if_icmp cd off => pI st fun y r => pI r fun x r => jmp pc off fun t => cmpC cd x y (K t L r h) (K (pc + 3) L r h)
  | .ifCond cd off => pI st fun x r => jmp pc off fun t => cmpC cd x 0 (K t L r h) (K (pc + 3) L r h)
  | .ifnull off => jmp pc off fun t => pQ st (fun r => K t L r h) fun _ r => K (pc + 3) L r h
  | .ifnonnull off => jmp pc off fun t => pQ st (fun r => K (pc + 3) L r h) fun _ r => K t L r h
  | .tableswitch d lo hi offs => pI st fun x s => bif (hi - lo + 1 == (offs.toList.length : Int)) then swt x lo offs.toList (fun o => jmp pc o fun t => K t L s h) (jmp pc d fun t => K t L s h) else none
  | .getfield _ => pR st fun a s => (match r.2.2 with
    | 1 => gfQ h a r.1 r.2.1 none fun b => K (pc + 3) L (.ref b :: s) h
    | 4 => gfQ h a r.1 r.2.1 (K (pc + 3) L (.null :: s) h) fun b => K (pc + 3) L (.ref b :: s) h
    | _ => gfI h a r.1 r.2.1 fun x => K (pc + 3) L (.int x :: s) h)
  | .putfield _ => (match r.2.2 with
    | 1 => pQ st (fun s => pR s fun a s => pfV h a r.1 r.2.1 .null fun h => K (pc + 3) L s h) fun b s => pR s fun a s => pfV h a r.1 r.2.1 (.ref b) fun h => K (pc + 3) L s h
    | 0 => pI st fun x s => pR s fun a s => pfV h a r.1 r.2.1 (.int x) fun h => K (pc + 3) L s h
    | _ => pI st fun x s => pR s fun a s => isZ x (pfV h a r.1 r.2.1 (.int x) fun h => K (pc + 3) L s h))
  | .iaload => pI st fun i s => pR s fun a s => ldI h a i fun x => K (pc + 1) L (.int x :: s) h
  | .baload => pI st fun i s => pR s fun a s => ldZ h a i fun x => K (pc + 1) L (.int x :: s) h
  | .aaload => pI st fun i s => pR s fun a s => ldQ h a i none fun b => K (pc + 1) L (.ref b :: s) h
  | .iastore => pI st fun x s => pI s fun i s => pR s fun a s => stI h a i x fun h => K (pc + 1) L s h
  | .bastore => pI st fun x s => pI s fun i s => pR s fun a s => stZ h a i x fun h => K (pc + 1) L s h
  | .aastore => pR st fun v s => pI s fun i s => pR s fun a s => stQ h a i v fun h => K (pc + 1) L s h
  | .arraylength => pR st fun a s => lnA h a fun n => K (pc + 1) L (.int n :: s) h
  | .new _ => K (pc + 3) L (.ref h.2.1 :: st) (hN h (oB r.1 (dfl r.1)) (dfl r.1).length)
  | .newarray ty => pI st fun n s => if n < 0 ∨ 100000 < n.toNatClampNeg then none else (match ty with
    | .int => K (pc + 2) L (.ref h.2.1 :: s) (hN h (aI 0 n.toNatClampNeg fun _ => 0) n.toNatClampNeg)
    | .boolean => K (pc + 2) L (.ref h.2.1 :: s) (hN h (aI 1 n.toNatClampNeg fun _ => 0) n.toNatClampNeg)
    | _ => none)
  | .anewarray _ => pI st fun n s => if n < 0 ∨ 100000 < n.toNatClampNeg then none else K (pc + 3) L (.ref h.2.1 :: s) (hN h (aQ r.1 n.toNatClampNeg fun _ => none) n.toNatClampNeg)
  | .invokevirtual _ => pR (st.drop r.2.1) fun b rest => bif roomOk rest then isO h b (clsOf r.1) ((c r.1 (.ref b :: (st.take r.2.1).reverse) h).bind fun q => aft r.2.2 q pc L rest K) else none
  | .invokespecial _ => bif Nat.beq r.1 1000 then (pR st fun _ rest => bif roomOk rest && dd then K (pc + 3) L rest h else none)
    else pR (st.drop r.2.1) fun b rest => bif roomOk rest then (c r.1 (.ref b :: (st.take r.2.1).reverse) h).bind fun q => aft r.2.2 q pc L rest K else none
  | .invokestatic _ => bif Nat.beq r.1 1000 then (pI st fun n s => pI s fun dp s => pR s fun d s => pI s fun sp s => pR s fun a s => bif roomOk s && dd then cpA h a sp d dp n fun h => K (pc + 3) L s h else none)
    else bif Nat.beq r.1 1001 then (pI st fun y s => pI s fun x s => bif roomOk s && dd then K (pc + 3) L (.int (if x < y then y else x) :: s) h else none)
    else bif Nat.beq r.1 1002 then (pI st fun y s => pI s fun x s => bif roomOk s && dd then K (pc + 3) L (.int (if y < x then y else x) :: s) h else none)
    else bif Nat.ble r.2.1 st.length && roomOk (st.drop r.2.1) then (c r.1 (st.take r.2.1).reverse h).bind fun q => aft r.2.2 q pc L (st.drop r.2.1) K else none
  | .ireturn => pI st fun x s => (match s with
    | [] => (match rt with
      | some .boolean => isZ x (some (some (.int x), h))
      | some .int => some (some (.int x), h)
      | _ => none)
    | _ => none)
  | .areturn => (match rt with
    | some (.object _) => pQ st (fun s => (match s with
      | [] => some (some .null, h)
      | _ => none)) fun a s => (match s with
      | [] => some (some (.ref a), h)
      | _ => none)
    | _ => none)
  | .return_ => (match rt with
    | none => (match st with
      | [] => some (none, h)
      | _ => none)
    | _ => none)
  | _ => none
/-- dead locals are forgotten where ways meet -/
def msk (mk : List (Nat × List Nat)) (pc : Nat) (L : List (Option Value)) : List (Option Value) := match mk.lookup pc with
  | some lv => L.zipIdx.map fun q => bif lv.elem q.2 then q.1 else none
  | none => L
def rAt (c : Ct) (dd : Bool) (q : MT) : Nat → Nat → List (Option Value) → List Value → AH → Option RV
  | 0, _, _, _, _ => none
  | n + 1, pc, L, st, h => match q.2.2.1[pc]? with
    | some (some (i, r)) => stp c dd q.1.2.2.2 i r pc L st h fun pc L st h => rAt c dd q n pc (msk q.2.2.2 pc L) st h
    | _ => none
end
section
/-! ===== what an instruction may do with what comes behind it; runs without fuel ===== -/
def leH (h h' : AH) : Prop := h.2.1 ≤ h'.2.1 ∧ h.2.2 ≤ h'.2.2
theorem leH_rf (h : AH) : leH h h := ⟨Nat.le_refl _, Nat.le_refl _⟩
theorem leH_tr {a b c : AH} (h1 : leH a b) (h2 : leH b c) : leH a c := ⟨Nat.le_trans h1.1 h2.1, Nat.le_trans h1.2 h2.2⟩
theorem leH_S (h : AH) (a : Nat) (e : AC) : leH h (hS h a e) := leH_rf _
theorem leH_N (h : AH) (e : AC) (n : Nat) : leH h (hN h e n) := ⟨Nat.le_succ _, Nat.le_add_right _ _⟩
def Gd (h : AH) (F : Kt → Option RV) : Prop := ∀ (K : Kt) (res : RV), F K = some res → (leH h res.2 ∧ ∀ K', F K' = some res) ∨ ∃ (pc : Nat) (L : List (Option Value)) (st : List Value) (h' : AH), K pc L st h' = some res ∧ leH h h' ∧ ∀ K' : Kt, K' pc L st h' = some res → F K' = some res
theorem Gd_K {h : AH} (pc : Nat) (L : List (Option Value)) (st : List Value) {h' : AH} (hg : leH h h') : Gd h (fun K => K pc L st h') := fun _ _ hs => Or.inr ⟨pc, L, st, h', hs, hg, fun _ q => q⟩
theorem Gd_no {h : AH} : Gd h (fun _ => none) := fun _ _ hs => by cases hs
theorem Gd_ret {h : AH} (q : RV) (hg : leH h q.2) : Gd h (fun _ => some q) := fun _ res hs => Or.inl ⟨by cases hs; exact hg, fun _ => hs⟩
theorem Gd_ite {h : AH} {p : Prop} [Decidable p] {F G : Kt → Option RV} (h1 : Gd h F) (h2 : Gd h G) : Gd h (fun K => if p then F K else G K) := by
  by_cases hp : p
  · simp only [if_pos hp]; exact h1
  · simp only [if_neg hp]; exact h2
theorem Gd_cond {h : AH} {b : Bool} {F G : Kt → Option RV} (h1 : Gd h F) (h2 : Gd h G) : Gd h (fun K => bif b then F K else G K) := by
  cases b
  · exact h2
  · exact h1
theorem Gd_pI {h : AH} {st : List Value} {F : Int32 → List Value → Kt → Option RV} (hf : ∀ x r, Gd h (F x r)) : Gd h (fun K => pI st fun x r => F x r K) := by
  cases st with
  | nil => exact Gd_no
  | cons v r => cases v <;> first | exact hf _ _ | exact Gd_no
theorem Gd_pL {h : AH} {st : List Value} {F : Int64 → List Value → Kt → Option RV} (hf : ∀ x r, Gd h (F x r)) : Gd h (fun K => pL st fun x r => F x r K) := by
  cases st with
  | nil => exact Gd_no
  | cons v r => cases v <;> first | exact hf _ _ | exact Gd_no
theorem Gd_pR {h : AH} {st : List Value} {F : Nat → List Value → Kt → Option RV} (hf : ∀ x r, Gd h (F x r)) : Gd h (fun K => pR st fun x r => F x r K) := by
  cases st with
  | nil => exact Gd_no
  | cons v r => cases v <;> first | exact hf _ _ | exact Gd_no
theorem Gd_pQ {h : AH} {st : List Value} {G : List Value → Kt → Option RV} {F : Nat → List Value → Kt → Option RV} (hg : ∀ r, Gd h (G r)) (hf : ∀ x r, Gd h (F x r)) : Gd h (fun K => pQ st (fun r => G r K) fun x r => F x r K) := by
  cases st with
  | nil => exact Gd_no
  | cons v r => cases v <;> first | exact hf _ _ | exact hg _ | exact Gd_no
theorem Gd_gLI {h : AH} {L : List (Option Value)} {i : Nat} {F : Int32 → Kt → Option RV} (hf : ∀ x, Gd h (F x)) : Gd h (fun K => gLI L i fun x => F x K) := by
  unfold gLI
  generalize L[i]? = o
  rcases o with _ | _ | v
  · exact Gd_no
  · exact Gd_no
  · cases v <;> first | exact hf _ | exact Gd_no
theorem Gd_gLL {h : AH} {L : List (Option Value)} {i : Nat} {F : Int64 → Kt → Option RV} (hf : ∀ x, Gd h (F x)) : Gd h (fun K => gLL L i fun x => F x K) := by
  unfold gLL
  generalize L[i]? = o
  rcases o with _ | _ | v
  · exact Gd_no
  · exact Gd_no
  · cases v <;> first | exact hf _ | exact Gd_no
theorem Gd_gLQ {h : AH} {L : List (Option Value)} {i : Nat} {G : Kt → Option RV} {F : Nat → Kt → Option RV} (hg : Gd h G) (hf : ∀ x, Gd h (F x)) : Gd h (fun K => gLQ L i (G K) fun x => F x K) := by
  unfold gLQ
  generalize L[i]? = o
  rcases o with _ | _ | v
  · exact Gd_no
  · exact Gd_no
  · cases v <;> first | exact hf _ | exact hg | exact Gd_no
theorem Gd_sL {h : AH} {L : List (Option Value)} {i : Nat} {v : Value} {F : List (Option Value) → Kt → Option RV} (hf : ∀ L, Gd h (F L)) : Gd h (fun K => sL L i v fun L => F L K) := Gd_cond (hf _) Gd_no
theorem Gd_sLL {h : AH} {L : List (Option Value)} {i : Nat} {v : Value} {F : List (Option Value) → Kt → Option RV} (hf : ∀ L, Gd h (F L)) : Gd h (fun K => sLL L i v fun L => F L K) := Gd_cond (hf _) Gd_no
theorem Gd_jmp {h : AH} {pc : Nat} {off : Int} {F : Nat → Kt → Option RV} (hf : ∀ t, Gd h (F t)) : Gd h (fun K => jmp pc off fun t => F t K) := by
  unfold jmp
  generalize (pc : Int) + off = o
  cases o
  · exact hf _
  · exact Gd_no
theorem Gd_cmpC {h : AH} {cd : ClassFile.Cond} {x y : Int32} {F G : Kt → Option RV} (hf : Gd h F) (hg : Gd h G) : Gd h (fun K => cmpC cd x y (F K) (G K)) := by
  cases cd
  · exact Gd_ite hf hg
  · exact Gd_ite hg hf
  · exact Gd_ite hf hg
  · exact Gd_ite hf hg
  · exact Gd_ite hf hg
  · exact Gd_ite hf hg
theorem Gd_swt {h : AH} {x : Int32} {F : Int → Kt → Option RV} {G : Kt → Option RV} (hf : ∀ o, Gd h (F o)) (hg : Gd h G) : ∀ (offs : List Int) (lo : Int), Gd h (fun K => swt x lo offs (fun o => F o K) (G K))
  | [], _ => hg
  | _ :: r, lo => Gd_ite (hf _) (Gd_swt hf hg r (lo + 1))
theorem Gd_gfI {h : AH} {a ci k : Nat} {F : Int32 → Kt → Option RV} (hf : ∀ x, Gd h (F x)) : Gd h (fun K => gfI h a ci k fun x => F x K) := by
  unfold gfI
  rcases h.1 a with _ | (⟨t, n, g⟩ | ⟨t, n, g⟩ | ⟨c, fs⟩)
  · exact Gd_no
  · exact Gd_no
  · exact Gd_no
  · refine Gd_ite ?_ Gd_no
    generalize fs[k]? = o
    rcases o with _ | v
    · exact Gd_no
    · cases v <;> first | exact hf _ | exact Gd_no
theorem Gd_gfQ {h : AH} {a ci k : Nat} {G : Kt → Option RV} {F : Nat → Kt → Option RV} (hg : Gd h G) (hf : ∀ x, Gd h (F x)) : Gd h (fun K => gfQ h a ci k (G K) fun x => F x K) := by
  unfold gfQ
  rcases h.1 a with _ | (⟨t, n, g⟩ | ⟨t, n, g⟩ | ⟨c, fs⟩)
  · exact Gd_no
  · exact Gd_no
  · exact Gd_no
  · refine Gd_ite ?_ Gd_no
    generalize fs[k]? = o
    rcases o with _ | v
    · exact Gd_no
    · cases v <;> first | exact hf _ | exact hg | exact Gd_no
theorem Gd_pfV {h : AH} {a ci k : Nat} {v : Value} {F : AH → Kt → Option RV} (hf : ∀ h', leH h h' → Gd h (F h')) : Gd h (fun K => pfV h a ci k v fun x => F x K) := by
  unfold pfV
  rcases h.1 a with _ | (⟨t, n, g⟩ | ⟨t, n, g⟩ | ⟨c, fs⟩)
  · exact Gd_no
  · exact Gd_no
  · exact Gd_no
  · exact Gd_ite (hf _ (leH_S _ _ _)) Gd_no
theorem Gd_isZ {h : AH} {x : Int32} {F : Kt → Option RV} (hf : Gd h F) : Gd h (fun K => isZ x (F K)) := Gd_ite hf Gd_no
theorem Gd_ldI {h : AH} {a : Nat} {i : Int32} {F : Int32 → Kt → Option RV} (hf : ∀ x, Gd h (F x)) : Gd h (fun K => ldI h a i fun x => F x K) := by
  unfold ldI
  rcases h.1 a with _ | (⟨t, n, g⟩ | ⟨t, n, g⟩ | ⟨c, fs⟩)
  · exact Gd_no
  · exact Gd_ite Gd_no (hf _)
  · exact Gd_no
  · exact Gd_no
theorem Gd_ldZ {h : AH} {a : Nat} {i : Int32} {F : Int32 → Kt → Option RV} (hf : ∀ x, Gd h (F x)) : Gd h (fun K => ldZ h a i fun x => F x K) := by
  unfold ldZ
  rcases h.1 a with _ | (⟨t, n, g⟩ | ⟨t, n, g⟩ | ⟨c, fs⟩)
  · exact Gd_no
  · exact Gd_ite Gd_no (hf _)
  · exact Gd_no
  · exact Gd_no
theorem Gd_ldQ {h : AH} {a : Nat} {i : Int32} {G : Kt → Option RV} {F : Nat → Kt → Option RV} (hg : Gd h G) (hf : ∀ x, Gd h (F x)) : Gd h (fun K => ldQ h a i (G K) fun x => F x K) := by
  unfold ldQ
  rcases h.1 a with _ | (⟨t, n, g⟩ | ⟨t, n, g⟩ | ⟨c, fs⟩)
  · exact Gd_no
  · exact Gd_no
  · refine Gd_ite Gd_no ?_
    generalize g i.toNatClampNeg = o
    cases o
    · exact hg
    · exact hf _
  · exact Gd_no
theorem Gd_stI {h : AH} {a : Nat} {i x : Int32} {F : AH → Kt → Option RV} (hf : ∀ h', leH h h' → Gd h (F h')) : Gd h (fun K => stI h a i x fun x => F x K) := by
  unfold stI
  rcases h.1 a with _ | (⟨t, n, g⟩ | ⟨t, n, g⟩ | ⟨c, fs⟩)
  · exact Gd_no
  · exact Gd_ite Gd_no (hf _ (leH_S _ _ _))
  · exact Gd_no
  · exact Gd_no
theorem Gd_stZ {h : AH} {a : Nat} {i x : Int32} {F : AH → Kt → Option RV} (hf : ∀ h', leH h h' → Gd h (F h')) : Gd h (fun K => stZ h a i x fun x => F x K) := by
  unfold stZ
  rcases h.1 a with _ | (⟨t, n, g⟩ | ⟨t, n, g⟩ | ⟨c, fs⟩)
  · exact Gd_no
  · exact Gd_ite Gd_no (hf _ (leH_S _ _ _))
  · exact Gd_no
  · exact Gd_no
theorem Gd_isO {h : AH} {a ci : Nat} {F : Kt → Option RV} (hf : Gd h F) : Gd h (fun K => isO h a ci (F K)) := by
  unfold isO
  rcases h.1 a with _ | (⟨t, n, g⟩ | ⟨t, n, g⟩ | ⟨c, fs⟩)
  · exact Gd_no
  · exact Gd_no
  · exact Gd_no
  · exact Gd_ite hf Gd_no
theorem Gd_stQ {h : AH} {a : Nat} {i : Int32} {v : Nat} {F : AH → Kt → Option RV} (hf : ∀ h', leH h h' → Gd h (F h')) : Gd h (fun K => stQ h a i v fun x => F x K) := by
  unfold stQ
  rcases h.1 a with _ | (⟨t, n, g⟩ | ⟨t, n, g⟩ | ⟨c, fs⟩)
  · exact Gd_no
  · exact Gd_no
  · exact Gd_ite Gd_no (Gd_isO (hf _ (leH_S _ _ _)))
  · exact Gd_no
theorem Gd_lnA {h : AH} {a : Nat} {F : Int32 → Kt → Option RV} (hf : ∀ x, Gd h (F x)) : Gd h (fun K => lnA h a fun x => F x K) := by
  unfold lnA
  rcases h.1 a with _ | (⟨t, n, g⟩ | ⟨t, n, g⟩ | ⟨c, fs⟩)
  · exact Gd_no
  · exact hf _
  · exact hf _
  · exact Gd_no
theorem Gd_cpA {h : AH} {s d : Nat} {sp dp n : Int32} {F : AH → Kt → Option RV} (hf : ∀ h', leH h h' → Gd h (F h')) : Gd h (fun K => cpA h s sp d dp n fun x => F x K) := by
  unfold cpA
  rcases h.1 s with _ | (⟨t, n, g⟩ | ⟨t, n, g⟩ | ⟨c, fs⟩)
  · exact Gd_no
  · rcases h.1 d with _ | (⟨t2, n2, g2⟩ | ⟨t2, n2, g2⟩ | ⟨c2, fs2⟩)
    · exact Gd_no
    · exact Gd_ite Gd_no (hf _ (leH_S _ _ _))
    · exact Gd_no
    · exact Gd_no
  · exact Gd_no
  · exact Gd_no
theorem Gd_aft {h : AH} {k : Nat} {q : RV} {pc : Nat} {L : List (Option Value)} {rest : List Value} (hq : leH h q.2) : Gd h (fun K => aft k q pc L rest K) := by
  obtain ⟨v, h'⟩ := q
  match k with
  | 0 => rcases v with _ | v
         · exact Gd_K _ _ _ hq
         · exact Gd_no
  | 1 => rcases v with _ | v
         · exact Gd_no
         · cases v <;> first | exact Gd_K _ _ _ hq | exact Gd_no
  | 2 => rcases v with _ | v
         · exact Gd_no
         · cases v <;> first | exact Gd_K _ _ _ hq | exact Gd_no
  | k + 3 => rcases v with _ | v
             · exact Gd_no
             · cases v <;> first | exact Gd_K _ _ _ hq | exact Gd_no
theorem Gd_bind {h : AH} {o : Option RV} {F : RV → Kt → Option RV} (hf : ∀ q, o = some q → Gd h (F q)) : Gd h (fun K => o.bind fun q => F q K) := by
  cases o with
  | none => exact Gd_no
  | some q => exact hf q rfl
set_option maxHeartbeats 4000000 in
theorem Gd_stp {c : Ct} (hc : ∀ y a h q, c y a h = some q → leH h q.2) (dd : Bool) (rt : Option FieldType) (i : Instr) (r : Nat × (Nat × Nat)) (pc : Nat) (L : List (Option Value)) (st : List Value) (h : AH) : Gd h (stp c dd rt i r pc L st h) := by
  have rf := leH_rf h
  cases i with
  | aconst_null => exact Gd_K _ _ _ rf
  | iconst n => exact Gd_K _ _ _ rf
  | bipush n => exact Gd_K _ _ _ rf
  | sipush n => exact Gd_K _ _ _ rf
  | lconst n => exact Gd_K _ _ _ rf
  | ldc2_w n => exact Gd_K _ _ _ rf
  | iload_n k => exact Gd_gLI fun _ => Gd_K _ _ _ rf
  | iload k => exact Gd_gLI fun _ => Gd_K _ _ _ rf
  | lload_n k => exact Gd_gLL fun _ => Gd_K _ _ _ rf
  | lload k => exact Gd_gLL fun _ => Gd_K _ _ _ rf
  | aload_n k => exact Gd_gLQ (Gd_K _ _ _ rf) fun _ => Gd_K _ _ _ rf
  | aload k => exact Gd_gLQ (Gd_K _ _ _ rf) fun _ => Gd_K _ _ _ rf
  | istore_n k => exact Gd_pI fun _ _ => Gd_sL fun _ => Gd_K _ _ _ rf
  | istore k => exact Gd_pI fun _ _ => Gd_sL fun _ => Gd_K _ _ _ rf
  | lstore k => exact Gd_pL fun _ _ => Gd_sLL fun _ => Gd_K _ _ _ rf
  | astore_n k => exact Gd_pQ (fun _ => Gd_sL fun _ => Gd_K _ _ _ rf) fun _ _ => Gd_sL fun _ => Gd_K _ _ _ rf
  | astore k => exact Gd_pQ (fun _ => Gd_sL fun _ => Gd_K _ _ _ rf) fun _ _ => Gd_sL fun _ => Gd_K _ _ _ rf
  | iinc k n => exact Gd_gLI fun _ => Gd_sL fun _ => Gd_K _ _ _ rf
  | iadd => exact Gd_pI fun _ _ => Gd_pI fun _ _ => Gd_K _ _ _ rf
  | isub => exact Gd_pI fun _ _ => Gd_pI fun _ _ => Gd_K _ _ _ rf
  | imul => exact Gd_pI fun _ _ => Gd_pI fun _ _ => Gd_K _ _ _ rf
  | iand => exact Gd_pI fun _ _ => Gd_pI fun _ _ => Gd_K _ _ _ rf
  | ior => exact Gd_pI fun _ _ => Gd_pI fun _ _ => Gd_K _ _ _ rf
  | ishl => exact Gd_pI fun _ _ => Gd_pI fun _ _ => Gd_K _ _ _ rf
  | ishr => exact Gd_pI fun _ _ => Gd_pI fun _ _ => Gd_K _ _ _ rf
  | idiv => exact Gd_pI fun _ _ => Gd_pI fun _ _ => Gd_ite Gd_no (Gd_K _ _ _ rf)
  | irem => exact Gd_pI fun _ _ => Gd_pI fun _ _ => Gd_ite Gd_no (Gd_K _ _ _ rf)
  | i2l => exact Gd_pI fun _ _ => Gd_K _ _ _ rf
  | l2i => exact Gd_pL fun _ _ => Gd_K _ _ _ rf
  | i2b => exact Gd_pI fun _ _ => Gd_K _ _ _ rf
  | i2s => exact Gd_pI fun _ _ => Gd_K _ _ _ rf
  | ladd => exact Gd_pL fun _ _ => Gd_pL fun _ _ => Gd_K _ _ _ rf
  | lcmp => exact Gd_pL fun _ _ => Gd_pL fun _ _ => Gd_K _ _ _ rf
  | dup => exact Gd_pQ (fun _ => Gd_no) fun _ _ => Gd_K _ _ _ rf
  | dup2 => exact Gd_pI fun _ _ => Gd_pR fun _ _ => Gd_K _ _ _ rf
  | pop => exact Gd_pI fun _ _ => Gd_K _ _ _ rf
  | goto off => exact Gd_jmp fun _ => Gd_K _ _ _ rf
  | if_icmp cd off => exact Gd_pI fun _ _ => Gd_pI fun _ _ => Gd_jmp fun _ => Gd_cmpC (Gd_K _ _ _ rf) (Gd_K _ _ _ rf)
  | ifCond cd off => exact Gd_pI fun _ _ => Gd_jmp fun _ => Gd_cmpC (Gd_K _ _ _ rf) (Gd_K _ _ _ rf)
  | ifnull off => exact Gd_jmp fun _ => Gd_pQ (fun _ => Gd_K _ _ _ rf) fun _ _ => Gd_K _ _ _ rf
  | ifnonnull off => exact Gd_jmp fun _ => Gd_pQ (fun _ => Gd_K _ _ _ rf) fun _ _ => Gd_K _ _ _ rf
  | tableswitch d lo hi offs => exact Gd_pI fun _ _ => Gd_cond (Gd_swt (fun _ => Gd_jmp fun _ => Gd_K _ _ _ rf) (Gd_jmp fun _ => Gd_K _ _ _ rf) _ _) Gd_no
  | getfield n =>
    obtain ⟨r1, r2, r3⟩ := r
    match r3 with
    | 0 => exact Gd_pR fun _ _ => Gd_gfI fun _ => Gd_K _ _ _ rf
    | 1 => exact Gd_pR fun _ _ => Gd_gfQ Gd_no fun _ => Gd_K _ _ _ rf
    | 2 => exact Gd_pR fun _ _ => Gd_gfI fun _ => Gd_K _ _ _ rf
    | 3 => exact Gd_pR fun _ _ => Gd_gfI fun _ => Gd_K _ _ _ rf
    | 4 => exact Gd_pR fun _ _ => Gd_gfQ (Gd_K _ _ _ rf) fun _ => Gd_K _ _ _ rf
    | k + 5 => exact Gd_pR fun _ _ => Gd_gfI fun _ => Gd_K _ _ _ rf
  | putfield n =>
    obtain ⟨r1, r2, r3⟩ := r
    match r3 with
    | 0 => exact Gd_pI fun _ _ => Gd_pR fun _ _ => Gd_pfV fun _ hl => Gd_K _ _ _ hl
    | 1 => exact Gd_pQ (fun _ => Gd_pR fun _ _ => Gd_pfV fun _ hl => Gd_K _ _ _ hl) fun _ _ => Gd_pR fun _ _ => Gd_pfV fun _ hl => Gd_K _ _ _ hl
    | k + 2 => exact Gd_pI fun _ _ => Gd_pR fun _ _ => Gd_isZ (Gd_pfV fun _ hl => Gd_K _ _ _ hl)
  | iaload => exact Gd_pI fun _ _ => Gd_pR fun _ _ => Gd_ldI fun _ => Gd_K _ _ _ rf
  | baload => exact Gd_pI fun _ _ => Gd_pR fun _ _ => Gd_ldZ fun _ => Gd_K _ _ _ rf
  | aaload => exact Gd_pI fun _ _ => Gd_pR fun _ _ => Gd_ldQ Gd_no fun _ => Gd_K _ _ _ rf
  | iastore => exact Gd_pI fun _ _ => Gd_pI fun _ _ => Gd_pR fun _ _ => Gd_stI fun _ hl => Gd_K _ _ _ hl
  | bastore => exact Gd_pI fun _ _ => Gd_pI fun _ _ => Gd_pR fun _ _ => Gd_stZ fun _ hl => Gd_K _ _ _ hl
  | aastore => exact Gd_pR fun _ _ => Gd_pI fun _ _ => Gd_pR fun _ _ => Gd_stQ fun _ hl => Gd_K _ _ _ hl
  | arraylength => exact Gd_pR fun _ _ => Gd_lnA fun _ => Gd_K _ _ _ rf
  | new n => exact Gd_K _ _ _ (leH_N _ _ _)
  | newarray ty =>
    refine Gd_pI fun _ _ => Gd_ite Gd_no ?_
    cases ty <;> first | exact Gd_K _ _ _ (leH_N _ _ _) | exact Gd_no
  | anewarray n => exact Gd_pI fun _ _ => Gd_ite Gd_no (Gd_K _ _ _ (leH_N _ _ _))
  | invokevirtual n => exact Gd_pR fun _ _ => Gd_cond (Gd_isO (Gd_bind fun q hq => Gd_aft (hc _ _ _ _ hq))) Gd_no
  | invokespecial n => exact Gd_cond (Gd_pR fun _ _ => Gd_cond (Gd_K _ _ _ rf) Gd_no) (Gd_pR fun _ _ => Gd_cond (Gd_bind fun q hq => Gd_aft (hc _ _ _ _ hq)) Gd_no)
  | invokestatic n => exact Gd_cond (Gd_pI fun _ _ => Gd_pI fun _ _ => Gd_pR fun _ _ => Gd_pI fun _ _ => Gd_pR fun _ _ => Gd_cond (Gd_cpA fun _ hl => Gd_K _ _ _ hl) Gd_no) (Gd_cond (Gd_pI fun _ _ => Gd_pI fun _ _ => Gd_cond (Gd_K _ _ _ rf) Gd_no) (Gd_cond (Gd_pI fun _ _ => Gd_pI fun _ _ => Gd_cond (Gd_K _ _ _ rf) Gd_no) (Gd_cond (Gd_bind fun q hq => Gd_aft (hc _ _ _ _ hq)) Gd_no)))
  | ireturn =>
    refine Gd_pI fun x s => ?_
    cases s with
    | nil =>
      cases rt with
      | none => exact Gd_no
      | some t => cases t <;> first | exact Gd_isZ (Gd_ret _ rf) | exact Gd_ret _ rf | exact Gd_no
    | cons v s => exact Gd_no
  | areturn =>
    cases rt with
    | none => exact Gd_no
    | some t =>
      cases t <;> first | exact Gd_no | skip
      refine Gd_pQ (fun s => ?_) fun x s => ?_
      · cases s
        · exact Gd_ret _ rf
        · exact Gd_no
      · cases s
        · exact Gd_ret _ rf
        · exact Gd_no
  | return_ =>
    cases rt with
    | none =>
      cases st
      · exact Gd_ret _ rf
      · exact Gd_no
    | some t => exact Gd_no
  | _ => exact Gd_no
/-- more fuel gives the same -/
theorem rAt_mono {c : Ct} (hc : ∀ y a h q, c y a h = some q → leH h q.2) {dd : Bool} {q : MT} : ∀ (n : Nat) (pc : Nat) (L : List (Option Value)) (st : List Value) (h : AH) (res : RV), rAt c dd q n pc L st h = some res → rAt c dd q (n + 1) pc L st h = some res ∧ leH h res.2
  | 0, _, _, _, _, _, hs => by cases hs
  | n + 1, pc, L, st, h, res, hs => by
    unfold rAt at hs ⊢
    generalize q.2.2.1[pc]? = o at hs ⊢
    rcases o with _ | _ | ⟨i, r⟩
    · cases hs
    · cases hs
    · rcases Gd_stp hc dd q.1.2.2.2 i r pc L st h _ _ hs with ⟨h1, h2⟩ | ⟨pc', L', st', h', k1, k2, k3⟩
      · exact ⟨h2 _, h1⟩
      · obtain ⟨m1, m2⟩ := rAt_mono hc n _ _ _ _ _ k1
        exact ⟨k3 _ m1, leH_tr k2 m2⟩
theorem rAt_add {c : Ct} (hc : ∀ y a h q, c y a h = some q → leH h q.2) {dd : Bool} {q : MT} {n : Nat} (k : Nat) {pc : Nat} {L : List (Option Value)} {st : List Value} {h : AH} {res : RV} (hs : rAt c dd q n pc L st h = some res) : rAt c dd q (n + k) pc L st h = some res := by
  induction k with
  | zero => exact hs
  | succ k ih => exact (rAt_mono hc _ _ _ _ _ _ ih).1
/-- the limit of runs with more and more fuel -/
noncomputable def lim (f : Nat → Option RV) : Option RV := @dite (Option RV) (∃ r n, f n = some r) (Classical.propDecidable _) (fun h => some (Classical.choose h)) (fun _ => none)
theorem lim_some {f : Nat → Option RV} (hf : ∀ n k r, f n = some r → f (n + k) = some r) {r : RV} : lim f = some r ↔ ∃ n, f n = some r := by
  unfold lim
  by_cases h : ∃ r n, f n = some r
  · rw [dif_pos h]
    have hs := Classical.choose_spec h
    constructor
    · intro e
      rw [← Option.some.inj e]
      exact hs
    · rintro ⟨n, hn⟩
      obtain ⟨k, hk⟩ := hs
      have e1 := hf n k r hn
      have e2 := hf k n _ hk
      rw [Nat.add_comm] at e2
      rw [e1] at e2
      exact e2.symm
  · rw [dif_neg h]
    constructor
    · intro e; cases e
    · rintro ⟨n, hn⟩
      exact absurd ⟨r, n, hn⟩ h
noncomputable def rn (c : Ct) (dd : Bool) (q : MT) (pc : Nat) (L : List (Option Value)) (st : List Value) (h : AH) : Option RV := lim fun n => rAt c dd q n pc L st h
theorem rn_some {c : Ct} (hc : ∀ y a h q, c y a h = some q → leH h q.2) {dd : Bool} {q : MT} {pc : Nat} {L : List (Option Value)} {st : List Value} {h : AH} {res : RV} : rn c dd q pc L st h = some res ↔ ∃ n, rAt c dd q n pc L st h = some res := lim_some (f := fun n => rAt c dd q n pc L st h) fun _ k _ hs => rAt_add hc k hs
theorem opt_ext {a b : Option RV} (h : ∀ r, a = some r ↔ b = some r) : a = b := by
  cases a with
  | none =>
    cases b with
    | none => rfl
    | some r => exact ((h r).mpr rfl)
  | some r => exact ((h r).mp rfl).symm
/-- one instruction of a run -/
theorem rn_step {c : Ct} (hc : ∀ y a h q, c y a h = some q → leH h q.2) {dd : Bool} {q : MT} {pc : Nat} {L : List (Option Value)} {st : List Value} {h : AH} {i : Instr} {r : Nat × (Nat × Nat)} (hi : q.2.2.1[pc]? = some (some (i, r))) :
    rn c dd q pc L st h = stp c dd q.1.2.2.2 i r pc L st h fun pc L st h => rn c dd q pc (msk q.2.2.2 pc L) st h := by
  refine opt_ext fun res => ?_
  rw [rn_some hc]
  constructor
  · rintro ⟨n, hn⟩
    cases n with
    | zero => cases hn
    | succ n =>
      unfold rAt at hn
      rw [hi] at hn
      rcases Gd_stp hc dd q.1.2.2.2 i r pc L st h _ _ hn with ⟨h1, h2⟩ | ⟨pc', L', st', h', k1, k2, k3⟩
      · exact h2 _
      · exact k3 _ ((rn_some hc).mpr ⟨n, k1⟩)
  · intro hs
    rcases Gd_stp hc dd q.1.2.2.2 i r pc L st h _ _ hs with ⟨h1, h2⟩ | ⟨pc', L', st', h', k1, k2, k3⟩
    · refine ⟨1, ?_⟩
      unfold rAt
      rw [hi]
      exact h2 _
    · obtain ⟨n, hn⟩ := (rn_some hc).mp k1
      refine ⟨n + 1, ?_⟩
      unfold rAt
      rw [hi]
      exact k3 _ hn
def entL (nL : Nat) (args : List Value) : List (Option Value) :=
  let l := args.flatMap fun v => bif Nat.beq v.category 2 then [some v, none] else [some v]
  l ++ List.replicate (nL - l.length) none
/-- the call of method y at depth d -/
noncomputable def call : Nat → Ct
  | 0 => fun _ _ _ => none
  | d + 1 => fun y args h => match mtab[y]? with
    | some q => bif Nat.ble (entL q.1.2.2.1 args).length q.1.2.2.1 then rn (call d) (Nat.blt 0 d) q 0 (entL q.1.2.2.1 args) [] h else none
    | none => none
theorem call_le : ∀ (d : Nat) (y : Nat) (a : List Value) (h : AH) (q : RV), call d y a h = some q → leH h q.2
  | 0, _, _, _, _, hs => by cases hs
  | d + 1, y, a, h, q, hs => by
    unfold call at hs
    generalize mtab[y]? = o at hs
    cases o with
    | none => cases hs
    | some m =>
      dsimp only at hs
      generalize Nat.ble (entL m.1.2.2.1 a).length m.1.2.2.1 = b at hs
      cases b with
      | false => cases hs
      | true =>
        obtain ⟨n, hn⟩ := (rn_some (call_le d)).mp hs
        exact (rAt_mono (call_le d) _ _ _ _ _ _ hn).2
/-- a run at depth d -/
noncomputable def run (d : Nat) (q : MT) (pc : Nat) (L : List (Option Value)) (st : List Value) (h : AH) : Option RV := rn (call d) (Nat.blt 0 d) q pc L st h
theorem run_step {d : Nat} {q : MT} {pc : Nat} {L : List (Option Value)} {st : List Value} {h : AH} (i : Instr) (r : Nat × (Nat × Nat)) (hi : q.2.2.1[pc]? = some (some (i, r))) :
    run d q pc L st h = stp (call d) (Nat.blt 0 d) q.1.2.2.2 i r pc L st h fun pc L st h => run d q pc (msk q.2.2.2 pc L) st h := rn_step (call_le d) hi
end
section
/-! ===== the words of the tables that the program needs ===== -/
def gtbl : List Cond := lw_tbl.filter goodWord
theorem gt_in {w : Cond} (h : w ∈ gtbl) : w ∈ lw_tbl := (List.mem_filter.mp h).1
theorem gt_good {w : Cond} (h : w ∈ gtbl) : goodWord w = true := (List.mem_filter.mp h).2
theorem gt_of {w : Cond} {i : Nat} (h : lw_tbl[i]? = some w) (hg : goodWord w = true) : w ∈ gtbl := List.mem_filter.mpr ⟨List.mem_of_getElem? h, hg⟩
theorem gt_list (ws : List Cond) (ps : List Nat) (hp : ws = ps.filterMap (fun i => lw_tbl[i]?)) (h : ws.all goodWord = true) : ∀ w ∈ ws, w ∈ gtbl := by
  intro w hw
  have h1 := List.all_eq_true.mp h w hw
  rw [hp] at hw
  obtain ⟨i, -, hi⟩ := List.mem_filterMap.mp hw
  exact gt_of hi h1
theorem gt_gtbl {ws : List Cond} (h : ∀ w ∈ ws, w ∈ gtbl) : GoodIn gtbl ws := fun w hw => ⟨h w hw, good_of_word (gt_good (h w hw))⟩
set_option maxRecDepth 20000 in
theorem lay_0 : ∀ w ∈ u_ws RX0 TX0 8, w ∈ gtbl := gt_list _ [146, 148, 150, 152, 154, 156, 158, 160] (by decide +kernel) (by decide +kernel)
set_option maxRecDepth 20000 in
theorem lay_1 : ∀ w ∈ u_ws RX1 TX1 2, w ∈ gtbl := gt_list _ [172, 174] (by decide +kernel) (by decide +kernel)
set_option maxRecDepth 20000 in
theorem lay_2 : ∀ w ∈ u_ws RX2 TX2 3, w ∈ gtbl := gt_list _ [100, 102, 104] (by decide +kernel) (by decide +kernel)
set_option maxRecDepth 20000 in
theorem lay_3 : ∀ w ∈ u_ws RX3 TX3 5, w ∈ gtbl := gt_list _ [195, 197, 199, 201, 203] (by decide +kernel) (by decide +kernel)
set_option maxRecDepth 20000 in
theorem lay_4 : ∀ w ∈ u_ws RX4 TX4 3, w ∈ gtbl := gt_list _ [302, 304, 306] (by decide +kernel) (by decide +kernel)
set_option maxRecDepth 20000 in
theorem lay_5 : ∀ w ∈ u_ws RX5 TX5 18, w ∈ gtbl := gt_list _ [232, 234, 236, 238, 240, 242, 244, 246, 248, 250, 252, 254, 256, 258, 260, 262, 264, 266] (by decide +kernel) (by decide +kernel)
set_option maxRecDepth 20000 in
theorem lay_6 : ∀ w ∈ u_ws RX6 TX6 4, w ∈ gtbl := gt_list _ [283, 285, 287, 289] (by decide +kernel) (by decide +kernel)
set_option maxRecDepth 20000 in
theorem lay_7 : ∀ w ∈ u_ws RX7 TX7 16, w ∈ gtbl := gt_list _ [325, 327, 329, 331, 333, 335, 337, 339, 341, 343, 345, 347, 349, 351, 353, 355] (by decide +kernel) (by decide +kernel)
set_option maxRecDepth 20000 in
theorem lay_8 : ∀ w ∈ u_ws RX8 TX8 42, w ∈ gtbl := gt_list _ [822, 824, 826, 828, 830, 832, 834, 836, 838, 840, 842, 844, 846, 848, 850, 852, 854, 856, 858, 860, 862, 864, 866, 868, 870, 872, 874, 876, 878, 880, 882, 884, 886, 888, 890, 892, 894, 896, 898, 900, 902, 904] (by decide +kernel) (by decide +kernel)
def tyT (ci : Nat) : Nat → FieldType := match ci with
  | 0 => tyX0
  | 1 => tyX1
  | 2 => tyX2
  | 3 => tyX3
  | 4 => tyX4
  | 5 => tyX5
  | 6 => tyX6
  | 7 => tyX7
  | _ => tyX8
theorem cls_ok : ∀ (ci : Nat) (q : vw_C), cls9[ci]? = some q → (∀ w ∈ u_ws q.1 q.2.1 q.2.2, w ∈ gtbl) ∧ (∀ k, k < q.2.2 → parseFieldDescriptor (q.2.1 k).2.2.1 = some (tyT ci k)) ∧ (∀ a, a < q.2.2 → ∀ b, b < q.2.2 → a ≠ b → (q.2.1 a).2.1 ≠ (q.2.1 b).2.1)
  | 0, q, h => by cases h; exact ⟨lay_0, tyX0_ok, nmX0⟩
  | 1, q, h => by cases h; exact ⟨lay_1, tyX1_ok, nmX1⟩
  | 2, q, h => by cases h; exact ⟨lay_2, tyX2_ok, nmX2⟩
  | 3, q, h => by cases h; exact ⟨lay_3, tyX3_ok, nmX3⟩
  | 4, q, h => by cases h; exact ⟨lay_4, tyX4_ok, nmX4⟩
  | 5, q, h => by cases h; exact ⟨lay_5, tyX5_ok, nmX5⟩
  | 6, q, h => by cases h; exact ⟨lay_6, tyX6_ok, nmX6⟩
  | 7, q, h => by cases h; exact ⟨lay_7, tyX7_ok, nmX7⟩
  | 8, q, h => by cases h; exact ⟨lay_8, tyX8_ok, nmX8⟩
  | n + 9, q, h => by simp [cls9] at h
def flP : List ((Nat × Nat × Nat × Nat) × Nat) := [((0, 9, 0, 0), 123), ((0, 15, 0, 1), 128), ((0, 18, 0, 2), 133), ((0, 22, 0, 3), 134), ((0, 26, 0, 4), 137), ((0, 29, 0, 5), 140), ((0, 33, 0, 6), 142), ((0, 36, 0, 7), 143), ((1, 9, 1, 0), 170), ((1, 15, 1, 1), 171), ((1, 19, 0, 4), 138), ((1, 53, 0, 3), 135), ((1, 60, 0, 0), 125), ((1, 63, 0, 1), 130), ((2, 9, 2, 2), 97), ((2, 21, 2, 0), 91), ((2, 25, 2, 1), 94), ((3, 9, 3, 0), 183), ((3, 15, 3, 1), 186), ((3, 19, 3, 2), 188), ((3, 22, 3, 3), 190), ((3, 25, 3, 4), 192), ((3, 38, 0, 1), 129), ((3, 45, 0, 0), 124), ((4, 9, 4, 0), 297), ((4, 15, 4, 1), 299), ((4, 19, 4, 2), 301), ((5, 11, 5, 0), 214), ((5, 15, 5, 1), 215), ((5, 18, 5, 2), 216), ((5, 21, 5, 3), 217), ((5, 24, 5, 4), 218), ((5, 28, 5, 5), 219), ((5, 31, 5, 6), 220), ((5, 34, 5, 7), 221), ((5, 37, 5, 8), 222), ((5, 40, 5, 9), 223), ((5, 43, 5, 10), 224), ((5, 46, 5, 11), 225), ((5, 49, 5, 12), 226), ((5, 52, 5, 13), 227), ((5, 55, 5, 14), 228), ((5, 59, 5, 15), 229), ((5, 65, 5, 16), 230), ((5, 69, 5, 17), 231), ((5, 109, 0, 0), 126), ((5, 110, 0, 1), 131), ((5, 127, 2, 0), 92), ((5, 132, 2, 2), 99), ((5, 135, 2, 1), 95), ((5, 141, 3, 1), 187), ((5, 168, 0, 7), 144), ((6, 12, 6, 0), 276), ((6, 18, 6, 1), 278), ((6, 22, 6, 2), 279), ((6, 26, 6, 3), 281), ((6, 44, 3, 4), 193), ((6, 47, 3, 0), 184), ((7, 14, 7, 0), 309), ((7, 20, 7, 1), 310), ((7, 24, 7, 2), 311), ((7, 30, 7, 3), 312), ((7, 34, 7, 4), 313), ((7, 39, 7, 5), 314), ((7, 44, 7, 6), 315), ((7, 51, 7, 7), 316), ((7, 58, 7, 8), 317), ((7, 65, 7, 9), 318), ((7, 69, 7, 10), 319), ((7, 72, 7, 11), 320), ((7, 76, 7, 12), 321), ((7, 79, 7, 13), 322), ((7, 82, 7, 14), 323), ((7, 85, 7, 15), 324), ((7, 98, 2, 2), 98), ((7, 134, 0, 5), 141), ((7, 151, 0, 3), 136), ((7, 154, 0, 4), 139), ((7, 160, 0, 0), 127), ((7, 164, 0, 1), 132), ((7, 179, 3, 0), 185), ((7, 182, 3, 2), 189), ((7, 185, 3, 3), 191), ((7, 197, 2, 0), 93), ((7, 200, 2, 1), 96), ((7, 207, 0, 7), 145), ((7, 252, 6, 0), 277), ((7, 253, 3, 4), 194), ((7, 256, 6, 2), 280), ((7, 259, 6, 3), 282), ((7, 277, 4, 1), 300), ((7, 284, 4, 0), 298), ((8, 7, 8, 1), 781), ((8, 13, 8, 2), 782), ((8, 16, 8, 4), 784), ((8, 19, 8, 5), 785), ((8, 22, 8, 6), 786), ((8, 26, 8, 7), 787), ((8, 29, 8, 8), 788), ((8, 32, 8, 9), 789), ((8, 35, 8, 10), 790), ((8, 38, 8, 11), 791), ((8, 41, 8, 13), 793), ((8, 44, 8, 14), 794), ((8, 47, 8, 15), 795), ((8, 50, 8, 17), 797), ((8, 53, 8, 18), 798), ((8, 56, 8, 19), 799), ((8, 59, 8, 20), 800), ((8, 62, 8, 21), 801), ((8, 65, 8, 25), 805), ((8, 68, 8, 26), 806), ((8, 71, 8, 27), 807), ((8, 74, 8, 30), 810), ((8, 77, 8, 32), 812), ((8, 80, 8, 33), 813), ((8, 83, 8, 34), 814), ((8, 86, 8, 35), 815), ((8, 89, 8, 36), 816), ((8, 92, 8, 37), 817), ((8, 95, 8, 38), 818), ((8, 98, 8, 39), 819), ((8, 101, 8, 40), 820), ((8, 104, 8, 41), 821), ((8, 113, 8, 0), 780), ((8, 121, 8, 3), 783), ((8, 141, 8, 31), 811), ((8, 159, 8, 12), 792), ((8, 162, 8, 16), 796), ((8, 178, 8, 24), 804), ((8, 181, 8, 23), 803), ((8, 199, 8, 22), 802), ((8, 217, 8, 28), 808), ((8, 220, 8, 29), 809)]
def flw (q : Nat × Nat × Nat × Nat) : Cond := match cls9[q.2.2.1]? with
  | some r => Cond.fieldLink (cnm q.1) q.2.1 (r.2.1 q.2.2.2).1 (r.2.1 q.2.2.2).2.1 (r.2.1 q.2.2.2).2.2.1
  | none => Cond.tt
def flk (q : Nat × Nat × Nat × Nat) : Bool := match cls9[q.2.2.1]? with
  | some r => Nat.blt q.2.2.2 r.2.2
  | none => false
set_option maxRecDepth 20000 in
theorem fl_eq : flP.map (fun x => x.1) = flT := by decide +kernel
set_option maxRecDepth 20000 in
theorem fl_ok : ∀ x ∈ flP, lw_tbl[x.2]? = some (flw x.1) ∧ goodWord (flw x.1) = true ∧ flk x.1 = true := by decide +kernel
def mkd : List Nat := [2, 0, 0, 0, 0, 0, 0, 0, 0, 0, 0, 0, 0, 0, 0, 0, 2, 0, 0, 0, 1, 2, 0, 0, 0, 0, 0, 2, 0, 0, 0, 0, 0, 0, 2, 0, 0, 0, 0, 2, 1, 0, 0, 0, 1, 0, 0, 0, 0, 0, 0, 0, 0, 0, 0, 0, 0, 0, 2, 0, 0, 0, 2, 0, 0, 0, 0, 0, 0, 0, 0, 0, 0, 0, 0, 0, 0, 0, 0, 0, 0, 0, 0, 0, 0, 0, 0, 0, 0, 0, 0, 0, 0, 0, 0, 0, 0, 0, 0, 0, 0, 0, 0, 0, 0, 0, 2, 1, 0, 0, 0, 0, 0, 0, 0, 1, 0, 0, 0, 0, 0, 0, 0, 0, 0, 0, 0, 0, 0, 0, 0, 0, 0, 0, 0, 0, 0, 0, 0, 0, 0, 0, 0, 0, 0, 0, 0, 0, 0, 0, 0, 0, 0, 0, 0, 0, 0, 0, 0, 0, 0, 0, 0, 0, 1, 0, 0, 0, 0, 9]
def mnm (y : Nat) : MethodName := match mtab[y]? with
  | some q => q.1.1
  | none => ⟨"", "", ""⟩
theorem tb_in1 {w : Cond} (h : w ∈ tables_1_1) : w ∈ lw_tbl := List.mem_append_right _ (List.mem_append_left _ h)
theorem tb_in2 {w : Cond} (h : w ∈ tables_1_2) : w ∈ lw_tbl := List.mem_append_right _ (List.mem_append_right _ (List.mem_append_left _ h))
theorem tb_in3 {w : Cond} (h : w ∈ tables_1_3) : w ∈ lw_tbl := List.mem_append_right _ (List.mem_append_right _ (List.mem_append_right _ (List.mem_append_left _ h)))
theorem tb_in4 {w : Cond} (h : w ∈ tables_1_4) : w ∈ lw_tbl := List.mem_append_right _ (List.mem_append_right _ (List.mem_append_right _ (List.mem_append_right _ (List.mem_append_left _ h))))
theorem tb_in5 {w : Cond} (h : w ∈ tables_1_5) : w ∈ lw_tbl := List.mem_append_right _ (List.mem_append_right _ (List.mem_append_right _ (List.mem_append_right _ (List.mem_append_right _ h))))
def cwd (q : MT) : Cond := Cond.code q.1.1 q.1.2.1 q.1.2.2.1 q.1.2.2.2
theorem cw_good (q : MT) : goodWord (cwd q) = true := rfl
set_option maxRecDepth 20000
theorem cw_0 : cwd mt_0 ∈ gtbl := List.mem_filter.mpr ⟨tb_in1 (List.mem_of_getElem? (i := 55) rfl), cw_good _⟩
theorem cw_1 : cwd mt_1 ∈ gtbl := List.mem_filter.mpr ⟨tb_in1 (List.mem_of_getElem? (i := 60) rfl), cw_good _⟩
theorem cw_2 : cwd mt_2 ∈ gtbl := List.mem_filter.mpr ⟨tb_in2 (List.mem_of_getElem? (i := 165) rfl), cw_good _⟩
theorem cw_3 : cwd mt_3 ∈ gtbl := List.mem_filter.mpr ⟨tb_in2 (List.mem_of_getElem? (i := 116) rfl), cw_good _⟩
theorem cw_4 : cwd mt_4 ∈ gtbl := List.mem_filter.mpr ⟨tb_in2 (List.mem_of_getElem? (i := 124) rfl), cw_good _⟩
theorem cw_5 : cwd mt_5 ∈ gtbl := List.mem_filter.mpr ⟨tb_in2 (List.mem_of_getElem? (i := 120) rfl), cw_good _⟩
theorem cw_6 : cwd mt_6 ∈ gtbl := List.mem_filter.mpr ⟨tb_in2 (List.mem_of_getElem? (i := 128) rfl), cw_good _⟩
theorem cw_7 : cwd mt_7 ∈ gtbl := List.mem_filter.mpr ⟨tb_in2 (List.mem_of_getElem? (i := 136) rfl), cw_good _⟩
theorem cw_8 : cwd mt_8 ∈ gtbl := List.mem_filter.mpr ⟨tb_in2 (List.mem_of_getElem? (i := 141) rfl), cw_good _⟩
theorem cw_9 : cwd mt_9 ∈ gtbl := List.mem_filter.mpr ⟨tb_in2 (List.mem_of_getElem? (i := 149) rfl), cw_good _⟩
theorem cw_10 : cwd mt_10 ∈ gtbl := List.mem_filter.mpr ⟨tb_in3 (List.mem_of_getElem? (i := 59) rfl), cw_good _⟩
theorem cw_11 : cwd mt_11 ∈ gtbl := List.mem_filter.mpr ⟨tb_in3 (List.mem_of_getElem? (i := 66) rfl), cw_good _⟩
theorem cw_12 : cwd mt_12 ∈ gtbl := List.mem_filter.mpr ⟨tb_in3 (List.mem_of_getElem? (i := 79) rfl), cw_good _⟩
theorem cw_13 : cwd mt_13 ∈ gtbl := List.mem_filter.mpr ⟨tb_in3 (List.mem_of_getElem? (i := 87) rfl), cw_good _⟩
theorem cw_14 : cwd mt_14 ∈ gtbl := List.mem_filter.mpr ⟨tb_in3 (List.mem_of_getElem? (i := 91) rfl), cw_good _⟩
theorem cw_15 : cwd mt_15 ∈ gtbl := List.mem_filter.mpr ⟨tb_in3 (List.mem_of_getElem? (i := 95) rfl), cw_good _⟩
theorem cw_16 : cwd mt_16 ∈ gtbl := List.mem_filter.mpr ⟨tb_in1 (List.mem_of_getElem? (i := 106) rfl), cw_good _⟩
theorem cw_17 : cwd mt_17 ∈ gtbl := List.mem_filter.mpr ⟨tb_in2 (List.mem_of_getElem? (i := 176) rfl), cw_good _⟩
theorem cw_18 : cwd mt_18 ∈ gtbl := List.mem_filter.mpr ⟨tb_in2 (List.mem_of_getElem? (i := 186) rfl), cw_good _⟩
theorem cw_19 : cwd mt_19 ∈ gtbl := List.mem_filter.mpr ⟨tb_in2 (List.mem_of_getElem? (i := 182) rfl), cw_good _⟩
theorem cw_20 : cwd mt_20 ∈ gtbl := List.mem_filter.mpr ⟨tb_in2 (List.mem_of_getElem? (i := 192) rfl), cw_good _⟩
theorem cw_21 : cwd mt_21 ∈ gtbl := List.mem_filter.mpr ⟨tb_in1 (List.mem_of_getElem? (i := 24) rfl), cw_good _⟩
theorem cw_22 : cwd mt_22 ∈ gtbl := List.mem_filter.mpr ⟨tb_in2 (List.mem_of_getElem? (i := 79) rfl), cw_good _⟩
theorem cw_23 : cwd mt_23 ∈ gtbl := List.mem_filter.mpr ⟨tb_in2 (List.mem_of_getElem? (i := 71) rfl), cw_good _⟩
theorem cw_24 : cwd mt_24 ∈ gtbl := List.mem_filter.mpr ⟨tb_in2 (List.mem_of_getElem? (i := 63) rfl), cw_good _⟩
theorem cw_25 : cwd mt_25 ∈ gtbl := List.mem_filter.mpr ⟨tb_in2 (List.mem_of_getElem? (i := 83) rfl), cw_good _⟩
theorem cw_26 : cwd mt_26 ∈ gtbl := List.mem_filter.mpr ⟨tb_in3 (List.mem_of_getElem? (i := 143) rfl), cw_good _⟩
theorem cw_27 : cwd mt_27 ∈ gtbl := List.mem_filter.mpr ⟨tb_in1 (List.mem_of_getElem? (i := 119) rfl), cw_good _⟩
theorem cw_28 : cwd mt_28 ∈ gtbl := List.mem_filter.mpr ⟨tb_in2 (List.mem_of_getElem? (i := 205) rfl), cw_good _⟩
theorem cw_29 : cwd mt_29 ∈ gtbl := List.mem_filter.mpr ⟨tb_in2 (List.mem_of_getElem? (i := 209) rfl), cw_good _⟩
theorem cw_30 : cwd mt_30 ∈ gtbl := List.mem_filter.mpr ⟨tb_in2 (List.mem_of_getElem? (i := 218) rfl), cw_good _⟩
theorem cw_31 : cwd mt_31 ∈ gtbl := List.mem_filter.mpr ⟨tb_in2 (List.mem_of_getElem? (i := 213) rfl), cw_good _⟩
theorem cw_32 : cwd mt_32 ∈ gtbl := List.mem_filter.mpr ⟨tb_in3 (List.mem_of_getElem? (i := 70) rfl), cw_good _⟩
theorem cw_33 : cwd mt_33 ∈ gtbl := List.mem_filter.mpr ⟨tb_in3 (List.mem_of_getElem? (i := 74) rfl), cw_good _⟩
theorem cw_34 : cwd mt_34 ∈ gtbl := List.mem_filter.mpr ⟨tb_in1 (List.mem_of_getElem? (i := 233) rfl), cw_good _⟩
theorem cw_35 : cwd mt_35 ∈ gtbl := List.mem_filter.mpr ⟨tb_in3 (List.mem_of_getElem? (i := 189) rfl), cw_good _⟩
theorem cw_36 : cwd mt_36 ∈ gtbl := List.mem_filter.mpr ⟨tb_in3 (List.mem_of_getElem? (i := 197) rfl), cw_good _⟩
theorem cw_37 : cwd mt_37 ∈ gtbl := List.mem_filter.mpr ⟨tb_in3 (List.mem_of_getElem? (i := 201) rfl), cw_good _⟩
theorem cw_38 : cwd mt_38 ∈ gtbl := List.mem_filter.mpr ⟨tb_in3 (List.mem_of_getElem? (i := 205) rfl), cw_good _⟩
theorem cw_39 : cwd mt_39 ∈ gtbl := List.mem_filter.mpr ⟨tb_in1 (List.mem_of_getElem? (i := 148) rfl), cw_good _⟩
theorem cw_40 : cwd mt_40 ∈ gtbl := List.mem_filter.mpr ⟨tb_in3 (List.mem_of_getElem? (i := 62) rfl), cw_good _⟩
theorem cw_41 : cwd mt_41 ∈ gtbl := List.mem_filter.mpr ⟨tb_in2 (List.mem_of_getElem? (i := 238) rfl), cw_good _⟩
theorem cw_42 : cwd mt_42 ∈ gtbl := List.mem_filter.mpr ⟨tb_in3 (List.mem_of_getElem? (i := 2) rfl), cw_good _⟩
theorem cw_43 : cwd mt_43 ∈ gtbl := List.mem_filter.mpr ⟨tb_in3 (List.mem_of_getElem? (i := 6) rfl), cw_good _⟩
theorem cw_44 : cwd mt_44 ∈ gtbl := List.mem_filter.mpr ⟨tb_in3 (List.mem_of_getElem? (i := 22) rfl), cw_good _⟩
theorem cw_45 : cwd mt_45 ∈ gtbl := List.mem_filter.mpr ⟨tb_in3 (List.mem_of_getElem? (i := 10) rfl), cw_good _⟩
theorem cw_46 : cwd mt_46 ∈ gtbl := List.mem_filter.mpr ⟨tb_in3 (List.mem_of_getElem? (i := 26) rfl), cw_good _⟩
theorem cw_47 : cwd mt_47 ∈ gtbl := List.mem_filter.mpr ⟨tb_in3 (List.mem_of_getElem? (i := 14) rfl), cw_good _⟩
theorem cw_48 : cwd mt_48 ∈ gtbl := List.mem_filter.mpr ⟨tb_in3 (List.mem_of_getElem? (i := 18) rfl), cw_good _⟩
theorem cw_49 : cwd mt_49 ∈ gtbl := List.mem_filter.mpr ⟨tb_in3 (List.mem_of_getElem? (i := 31) rfl), cw_good _⟩
theorem cw_50 : cwd mt_50 ∈ gtbl := List.mem_filter.mpr ⟨tb_in3 (List.mem_of_getElem? (i := 36) rfl), cw_good _⟩
theorem cw_51 : cwd mt_51 ∈ gtbl := List.mem_filter.mpr ⟨tb_in3 (List.mem_of_getElem? (i := 40) rfl), cw_good _⟩
theorem cw_52 : cwd mt_52 ∈ gtbl := List.mem_filter.mpr ⟨tb_in3 (List.mem_of_getElem? (i := 109) rfl), cw_good _⟩
theorem cw_53 : cwd mt_53 ∈ gtbl := List.mem_filter.mpr ⟨tb_in3 (List.mem_of_getElem? (i := 113) rfl), cw_good _⟩
theorem cw_54 : cwd mt_54 ∈ gtbl := List.mem_filter.mpr ⟨tb_in2 (List.mem_of_getElem? (i := 234) rfl), cw_good _⟩
theorem cw_55 : cwd mt_55 ∈ gtbl := List.mem_filter.mpr ⟨tb_in3 (List.mem_of_getElem? (i := 44) rfl), cw_good _⟩
theorem cw_56 : cwd mt_56 ∈ gtbl := List.mem_filter.mpr ⟨tb_in3 (List.mem_of_getElem? (i := 48) rfl), cw_good _⟩
theorem cw_57 : cwd mt_57 ∈ gtbl := List.mem_filter.mpr ⟨tb_in3 (List.mem_of_getElem? (i := 55) rfl), cw_good _⟩
theorem cw_58 : cwd mt_58 ∈ gtbl := List.mem_filter.mpr ⟨tb_in1 (List.mem_of_getElem? (i := 210) rfl), cw_good _⟩
theorem cw_59 : cwd mt_59 ∈ gtbl := List.mem_filter.mpr ⟨tb_in3 (List.mem_of_getElem? (i := 153) rfl), cw_good _⟩
theorem cw_60 : cwd mt_60 ∈ gtbl := List.mem_filter.mpr ⟨tb_in3 (List.mem_of_getElem? (i := 171) rfl), cw_good _⟩
theorem cw_61 : cwd mt_61 ∈ gtbl := List.mem_filter.mpr ⟨tb_in3 (List.mem_of_getElem? (i := 167) rfl), cw_good _⟩
theorem cw_62 : cwd mt_62 ∈ gtbl := List.mem_filter.mpr ⟨tb_in1 (List.mem_of_getElem? (i := 16) rfl), cw_good _⟩
theorem cw_63 : cwd mt_63 ∈ gtbl := List.mem_filter.mpr ⟨tb_in2 (List.mem_of_getElem? (i := 59) rfl), cw_good _⟩
theorem cw_64 : cwd mt_64 ∈ gtbl := List.mem_filter.mpr ⟨tb_in2 (List.mem_of_getElem? (i := 67) rfl), cw_good _⟩
theorem cw_65 : cwd mt_65 ∈ gtbl := List.mem_filter.mpr ⟨tb_in2 (List.mem_of_getElem? (i := 75) rfl), cw_good _⟩
theorem cw_66 : cwd mt_66 ∈ gtbl := List.mem_filter.mpr ⟨tb_in2 (List.mem_of_getElem? (i := 87) rfl), cw_good _⟩
theorem cw_67 : cwd mt_67 ∈ gtbl := List.mem_filter.mpr ⟨tb_in2 (List.mem_of_getElem? (i := 91) rfl), cw_good _⟩
theorem cw_68 : cwd mt_68 ∈ gtbl := List.mem_filter.mpr ⟨tb_in2 (List.mem_of_getElem? (i := 108) rfl), cw_good _⟩
theorem cw_69 : cwd mt_69 ∈ gtbl := List.mem_filter.mpr ⟨tb_in2 (List.mem_of_getElem? (i := 132) rfl), cw_good _⟩
theorem cw_70 : cwd mt_70 ∈ gtbl := List.mem_filter.mpr ⟨tb_in2 (List.mem_of_getElem? (i := 145) rfl), cw_good _⟩
theorem cw_71 : cwd mt_71 ∈ gtbl := List.mem_filter.mpr ⟨tb_in2 (List.mem_of_getElem? (i := 153) rfl), cw_good _⟩
theorem cw_72 : cwd mt_72 ∈ gtbl := List.mem_filter.mpr ⟨tb_in2 (List.mem_of_getElem? (i := 157) rfl), cw_good _⟩
theorem cw_73 : cwd mt_73 ∈ gtbl := List.mem_filter.mpr ⟨tb_in2 (List.mem_of_getElem? (i := 161) rfl), cw_good _⟩
theorem cw_74 : cwd mt_74 ∈ gtbl := List.mem_filter.mpr ⟨tb_in2 (List.mem_of_getElem? (i := 172) rfl), cw_good _⟩
theorem cw_75 : cwd mt_75 ∈ gtbl := List.mem_filter.mpr ⟨tb_in2 (List.mem_of_getElem? (i := 112) rfl), cw_good _⟩
theorem cw_76 : cwd mt_76 ∈ gtbl := List.mem_filter.mpr ⟨tb_in2 (List.mem_of_getElem? (i := 95) rfl), cw_good _⟩
theorem cw_77 : cwd mt_77 ∈ gtbl := List.mem_filter.mpr ⟨tb_in2 (List.mem_of_getElem? (i := 100) rfl), cw_good _⟩
theorem cw_78 : cwd mt_78 ∈ gtbl := List.mem_filter.mpr ⟨tb_in2 (List.mem_of_getElem? (i := 104) rfl), cw_good _⟩
theorem cw_79 : cwd mt_79 ∈ gtbl := List.mem_filter.mpr ⟨tb_in2 (List.mem_of_getElem? (i := 197) rfl), cw_good _⟩
theorem cw_80 : cwd mt_80 ∈ gtbl := List.mem_filter.mpr ⟨tb_in2 (List.mem_of_getElem? (i := 222) rfl), cw_good _⟩
theorem cw_81 : cwd mt_81 ∈ gtbl := List.mem_filter.mpr ⟨tb_in2 (List.mem_of_getElem? (i := 226) rfl), cw_good _⟩
theorem cw_82 : cwd mt_82 ∈ gtbl := List.mem_filter.mpr ⟨tb_in2 (List.mem_of_getElem? (i := 201) rfl), cw_good _⟩
theorem cw_83 : cwd mt_83 ∈ gtbl := List.mem_filter.mpr ⟨tb_in2 (List.mem_of_getElem? (i := 230) rfl), cw_good _⟩
theorem cw_84 : cwd mt_84 ∈ gtbl := List.mem_filter.mpr ⟨tb_in3 (List.mem_of_getElem? (i := 83) rfl), cw_good _⟩
theorem cw_85 : cwd mt_85 ∈ gtbl := List.mem_filter.mpr ⟨tb_in3 (List.mem_of_getElem? (i := 100) rfl), cw_good _⟩
theorem cw_86 : cwd mt_86 ∈ gtbl := List.mem_filter.mpr ⟨tb_in3 (List.mem_of_getElem? (i := 119) rfl), cw_good _⟩
theorem cw_87 : cwd mt_87 ∈ gtbl := List.mem_filter.mpr ⟨tb_in3 (List.mem_of_getElem? (i := 127) rfl), cw_good _⟩
theorem cw_88 : cwd mt_88 ∈ gtbl := List.mem_filter.mpr ⟨tb_in3 (List.mem_of_getElem? (i := 131) rfl), cw_good _⟩
theorem cw_89 : cwd mt_89 ∈ gtbl := List.mem_filter.mpr ⟨tb_in3 (List.mem_of_getElem? (i := 135) rfl), cw_good _⟩
theorem cw_90 : cwd mt_90 ∈ gtbl := List.mem_filter.mpr ⟨tb_in3 (List.mem_of_getElem? (i := 139) rfl), cw_good _⟩
theorem cw_91 : cwd mt_91 ∈ gtbl := List.mem_filter.mpr ⟨tb_in3 (List.mem_of_getElem? (i := 104) rfl), cw_good _⟩
theorem cw_92 : cwd mt_92 ∈ gtbl := List.mem_filter.mpr ⟨tb_in3 (List.mem_of_getElem? (i := 123) rfl), cw_good _⟩
theorem cw_93 : cwd mt_93 ∈ gtbl := List.mem_filter.mpr ⟨tb_in3 (List.mem_of_getElem? (i := 149) rfl), cw_good _⟩
theorem cw_94 : cwd mt_94 ∈ gtbl := List.mem_filter.mpr ⟨tb_in3 (List.mem_of_getElem? (i := 159) rfl), cw_good _⟩
theorem cw_95 : cwd mt_95 ∈ gtbl := List.mem_filter.mpr ⟨tb_in3 (List.mem_of_getElem? (i := 177) rfl), cw_good _⟩
theorem cw_96 : cwd mt_96 ∈ gtbl := List.mem_filter.mpr ⟨tb_in3 (List.mem_of_getElem? (i := 163) rfl), cw_good _⟩
theorem cw_97 : cwd mt_97 ∈ gtbl := List.mem_filter.mpr ⟨tb_in3 (List.mem_of_getElem? (i := 181) rfl), cw_good _⟩
theorem cw_98 : cwd mt_98 ∈ gtbl := List.mem_filter.mpr ⟨tb_in3 (List.mem_of_getElem? (i := 193) rfl), cw_good _⟩
theorem cw_99 : cwd mt_99 ∈ gtbl := List.mem_filter.mpr ⟨tb_in3 (List.mem_of_getElem? (i := 210) rfl), cw_good _⟩
theorem cw_100 : cwd mt_100 ∈ gtbl := List.mem_filter.mpr ⟨tb_in3 (List.mem_of_getElem? (i := 214) rfl), cw_good _⟩
theorem cw_101 : cwd mt_101 ∈ gtbl := List.mem_filter.mpr ⟨tb_in3 (List.mem_of_getElem? (i := 185) rfl), cw_good _⟩
theorem cw_102 : cwd mt_102 ∈ gtbl := List.mem_filter.mpr ⟨tb_in3 (List.mem_of_getElem? (i := 218) rfl), cw_good _⟩
theorem cw_103 : cwd mt_103 ∈ gtbl := List.mem_filter.mpr ⟨tb_in3 (List.mem_of_getElem? (i := 222) rfl), cw_good _⟩
theorem cw_104 : cwd mt_104 ∈ gtbl := List.mem_filter.mpr ⟨tb_in3 (List.mem_of_getElem? (i := 227) rfl), cw_good _⟩
theorem cw_105 : cwd mt_105 ∈ gtbl := List.mem_filter.mpr ⟨tb_in3 (List.mem_of_getElem? (i := 231) rfl), cw_good _⟩
theorem cw_106 : cwd mt_106 ∈ gtbl := List.mem_filter.mpr ⟨tb_in3 (List.mem_of_getElem? (i := 236) rfl), cw_good _⟩
theorem cw_107 : cwd mt_107 ∈ gtbl := List.mem_filter.mpr ⟨tb_in4 (List.mem_of_getElem? (i := 132) rfl), cw_good _⟩
theorem cw_108 : cwd mt_108 ∈ gtbl := List.mem_filter.mpr ⟨tb_in4 (List.mem_of_getElem? (i := 128) rfl), cw_good _⟩
theorem cw_109 : cwd mt_109 ∈ gtbl := List.mem_filter.mpr ⟨tb_in4 (List.mem_of_getElem? (i := 136) rfl), cw_good _⟩
theorem cw_110 : cwd mt_110 ∈ gtbl := List.mem_filter.mpr ⟨tb_in4 (List.mem_of_getElem? (i := 144) rfl), cw_good _⟩
theorem cw_111 : cwd mt_111 ∈ gtbl := List.mem_filter.mpr ⟨tb_in4 (List.mem_of_getElem? (i := 140) rfl), cw_good _⟩
theorem cw_112 : cwd mt_112 ∈ gtbl := List.mem_filter.mpr ⟨tb_in4 (List.mem_of_getElem? (i := 148) rfl), cw_good _⟩
theorem cw_113 : cwd mt_113 ∈ gtbl := List.mem_filter.mpr ⟨tb_in4 (List.mem_of_getElem? (i := 173) rfl), cw_good _⟩
theorem cw_114 : cwd mt_114 ∈ gtbl := List.mem_filter.mpr ⟨tb_in4 (List.mem_of_getElem? (i := 169) rfl), cw_good _⟩
theorem cw_115 : cwd mt_115 ∈ gtbl := List.mem_filter.mpr ⟨tb_in4 (List.mem_of_getElem? (i := 184) rfl), cw_good _⟩
theorem cw_116 : cwd mt_116 ∈ gtbl := List.mem_filter.mpr ⟨tb_in4 (List.mem_of_getElem? (i := 177) rfl), cw_good _⟩
theorem cw_117 : cwd mt_117 ∈ gtbl := List.mem_filter.mpr ⟨tb_in4 (List.mem_of_getElem? (i := 165) rfl), cw_good _⟩
theorem cw_118 : cwd mt_118 ∈ gtbl := List.mem_filter.mpr ⟨tb_in4 (List.mem_of_getElem? (i := 157) rfl), cw_good _⟩
theorem cw_119 : cwd mt_119 ∈ gtbl := List.mem_filter.mpr ⟨tb_in4 (List.mem_of_getElem? (i := 152) rfl), cw_good _⟩
theorem cw_120 : cwd mt_120 ∈ gtbl := List.mem_filter.mpr ⟨tb_in4 (List.mem_of_getElem? (i := 181) rfl), cw_good _⟩
theorem cw_121 : cwd mt_121 ∈ gtbl := List.mem_filter.mpr ⟨tb_in4 (List.mem_of_getElem? (i := 161) rfl), cw_good _⟩
theorem cw_122 : cwd mt_122 ∈ gtbl := List.mem_filter.mpr ⟨tb_in4 (List.mem_of_getElem? (i := 188) rfl), cw_good _⟩
theorem cw_123 : cwd mt_123 ∈ gtbl := List.mem_filter.mpr ⟨tb_in4 (List.mem_of_getElem? (i := 192) rfl), cw_good _⟩
theorem cw_124 : cwd mt_124 ∈ gtbl := List.mem_filter.mpr ⟨tb_in4 (List.mem_of_getElem? (i := 196) rfl), cw_good _⟩
theorem cw_125 : cwd mt_125 ∈ gtbl := List.mem_filter.mpr ⟨tb_in4 (List.mem_of_getElem? (i := 200) rfl), cw_good _⟩
theorem cw_126 : cwd mt_126 ∈ gtbl := List.mem_filter.mpr ⟨tb_in4 (List.mem_of_getElem? (i := 204) rfl), cw_good _⟩
theorem cw_127 : cwd mt_127 ∈ gtbl := List.mem_filter.mpr ⟨tb_in4 (List.mem_of_getElem? (i := 212) rfl), cw_good _⟩
theorem cw_128 : cwd mt_128 ∈ gtbl := List.mem_filter.mpr ⟨tb_in4 (List.mem_of_getElem? (i := 208) rfl), cw_good _⟩
theorem cw_129 : cwd mt_129 ∈ gtbl := List.mem_filter.mpr ⟨tb_in4 (List.mem_of_getElem? (i := 224) rfl), cw_good _⟩
theorem cw_130 : cwd mt_130 ∈ gtbl := List.mem_filter.mpr ⟨tb_in4 (List.mem_of_getElem? (i := 228) rfl), cw_good _⟩
theorem cw_131 : cwd mt_131 ∈ gtbl := List.mem_filter.mpr ⟨tb_in4 (List.mem_of_getElem? (i := 220) rfl), cw_good _⟩
theorem cw_132 : cwd mt_132 ∈ gtbl := List.mem_filter.mpr ⟨tb_in4 (List.mem_of_getElem? (i := 216) rfl), cw_good _⟩
theorem cw_133 : cwd mt_133 ∈ gtbl := List.mem_filter.mpr ⟨tb_in4 (List.mem_of_getElem? (i := 232) rfl), cw_good _⟩
theorem cw_134 : cwd mt_134 ∈ gtbl := List.mem_filter.mpr ⟨tb_in5 (List.mem_of_getElem? (i := 13) rfl), cw_good _⟩
theorem cw_135 : cwd mt_135 ∈ gtbl := List.mem_filter.mpr ⟨tb_in5 (List.mem_of_getElem? (i := 29) rfl), cw_good _⟩
theorem cw_136 : cwd mt_136 ∈ gtbl := List.mem_filter.mpr ⟨tb_in5 (List.mem_of_getElem? (i := 17) rfl), cw_good _⟩
theorem cw_137 : cwd mt_137 ∈ gtbl := List.mem_filter.mpr ⟨tb_in5 (List.mem_of_getElem? (i := 25) rfl), cw_good _⟩
theorem cw_138 : cwd mt_138 ∈ gtbl := List.mem_filter.mpr ⟨tb_in5 (List.mem_of_getElem? (i := 21) rfl), cw_good _⟩
theorem cw_139 : cwd mt_139 ∈ gtbl := List.mem_filter.mpr ⟨tb_in5 (List.mem_of_getElem? (i := 9) rfl), cw_good _⟩
theorem cw_140 : cwd mt_140 ∈ gtbl := List.mem_filter.mpr ⟨tb_in5 (List.mem_of_getElem? (i := 5) rfl), cw_good _⟩
theorem cw_141 : cwd mt_141 ∈ gtbl := List.mem_filter.mpr ⟨tb_in5 (List.mem_of_getElem? (i := 33) rfl), cw_good _⟩
theorem cw_142 : cwd mt_142 ∈ gtbl := List.mem_filter.mpr ⟨tb_in5 (List.mem_of_getElem? (i := 61) rfl), cw_good _⟩
theorem cw_143 : cwd mt_143 ∈ gtbl := List.mem_filter.mpr ⟨tb_in5 (List.mem_of_getElem? (i := 57) rfl), cw_good _⟩
theorem cw_144 : cwd mt_144 ∈ gtbl := List.mem_filter.mpr ⟨tb_in5 (List.mem_of_getElem? (i := 65) rfl), cw_good _⟩
theorem cw_145 : cwd mt_145 ∈ gtbl := List.mem_filter.mpr ⟨tb_in5 (List.mem_of_getElem? (i := 77) rfl), cw_good _⟩
theorem cw_146 : cwd mt_146 ∈ gtbl := List.mem_filter.mpr ⟨tb_in5 (List.mem_of_getElem? (i := 81) rfl), cw_good _⟩
theorem cw_147 : cwd mt_147 ∈ gtbl := List.mem_filter.mpr ⟨tb_in5 (List.mem_of_getElem? (i := 53) rfl), cw_good _⟩
theorem cw_148 : cwd mt_148 ∈ gtbl := List.mem_filter.mpr ⟨tb_in5 (List.mem_of_getElem? (i := 73) rfl), cw_good _⟩
theorem cw_149 : cwd mt_149 ∈ gtbl := List.mem_filter.mpr ⟨tb_in5 (List.mem_of_getElem? (i := 1) rfl), cw_good _⟩
theorem cw_150 : cwd mt_150 ∈ gtbl := List.mem_filter.mpr ⟨tb_in5 (List.mem_of_getElem? (i := 37) rfl), cw_good _⟩
theorem cw_151 : cwd mt_151 ∈ gtbl := List.mem_filter.mpr ⟨tb_in5 (List.mem_of_getElem? (i := 41) rfl), cw_good _⟩
theorem cw_152 : cwd mt_152 ∈ gtbl := List.mem_filter.mpr ⟨tb_in4 (List.mem_of_getElem? (i := 237) rfl), cw_good _⟩
theorem cw_153 : cwd mt_153 ∈ gtbl := List.mem_filter.mpr ⟨tb_in5 (List.mem_of_getElem? (i := 45) rfl), cw_good _⟩
theorem cw_154 : cwd mt_154 ∈ gtbl := List.mem_filter.mpr ⟨tb_in5 (List.mem_of_getElem? (i := 49) rfl), cw_good _⟩
theorem cw_155 : cwd mt_155 ∈ gtbl := List.mem_filter.mpr ⟨tb_in5 (List.mem_of_getElem? (i := 69) rfl), cw_good _⟩
theorem cw_156 : cwd mt_156 ∈ gtbl := List.mem_filter.mpr ⟨tb_in5 (List.mem_of_getElem? (i := 85) rfl), cw_good _⟩
theorem cw_157 : cwd mt_157 ∈ gtbl := List.mem_filter.mpr ⟨tb_in5 (List.mem_of_getElem? (i := 89) rfl), cw_good _⟩
theorem cw_158 : cwd mt_158 ∈ gtbl := List.mem_filter.mpr ⟨tb_in5 (List.mem_of_getElem? (i := 93) rfl), cw_good _⟩
theorem cw_159 : cwd mt_159 ∈ gtbl := List.mem_filter.mpr ⟨tb_in5 (List.mem_of_getElem? (i := 97) rfl), cw_good _⟩
theorem cw_160 : cwd mt_160 ∈ gtbl := List.mem_filter.mpr ⟨tb_in5 (List.mem_of_getElem? (i := 105) rfl), cw_good _⟩
theorem cw_161 : cwd mt_161 ∈ gtbl := List.mem_filter.mpr ⟨tb_in5 (List.mem_of_getElem? (i := 101) rfl), cw_good _⟩
theorem cw_162 : cwd mt_162 ∈ gtbl := List.mem_filter.mpr ⟨tb_in5 (List.mem_of_getElem? (i := 109) rfl), cw_good _⟩
theorem cw_163 : cwd mt_163 ∈ gtbl := List.mem_filter.mpr ⟨tb_in5 (List.mem_of_getElem? (i := 113) rfl), cw_good _⟩
theorem cw_164 : cwd mt_164 ∈ gtbl := List.mem_filter.mpr ⟨tb_in5 (List.mem_of_getElem? (i := 120) rfl), cw_good _⟩
theorem cw_165 : cwd mt_165 ∈ gtbl := List.mem_filter.mpr ⟨tb_in5 (List.mem_of_getElem? (i := 117) rfl), cw_good _⟩
theorem cw_166 : cwd mt_166 ∈ gtbl := List.mem_filter.mpr ⟨tb_in5 (List.mem_of_getElem? (i := 124) rfl), cw_good _⟩
theorem cw_167 : cwd mt_167 ∈ gtbl := List.mem_filter.mpr ⟨tb_in5 (List.mem_of_getElem? (i := 128) rfl), cw_good _⟩
theorem cw_168 : cwd mt_168 ∈ gtbl := List.mem_filter.mpr ⟨tb_in5 (List.mem_of_getElem? (i := 134) rfl), cw_good _⟩
def kwd (k : Nat) (y : MethodName) : List Cond := match k with
  | 1 => [.static y, .initialized y.cls]
  | 2 => [.instanceMethod y, .initialized y.cls]
  | 0 => [.instanceMethod y, .initialized y.cls, .selects y.cls y y]
  | _ => []
theorem kw_0 : ∀ x ∈ ([((2, yX0_init), [116, 66]), ((0, yX0_begin), [120, 66, 121]), ((0, yX0_turnFrom), [465, 66, 466]), ((0, yX0_hasState), [416, 66, 417]), ((0, yX0_stepAt), [424, 66, 425]), ((0, yX0_canKeep), [420, 66, 421]), ((0, yX0_setStep), [428, 66, 429]), ((0, yX0_isGood), [436, 66, 437]), ((0, yX0_setGood), [441, 66, 442]), ((0, yX0_goodStates), [449, 66, 450]), ((0, yX0_forgetOrbits), [599, 66, 600]), ((0, yX0_setFate), [606, 66, 607]), ((0, yX0_fateOf), [619, 66, 620]), ((0, yX0_orbitsOf), [627, 66, 628]), ((0, yX0_statesMet), [631, 66, 632]), ((0, yX0_isMet), [636, 66, 23]), ((2, yX1_init), [167, 67]), ((0, yX1_join), [476, 67, 477]), ((0, yX1_joinSteps), [487, 67, 5]), ((0, yX1_numberOf), [483, 67, 4])] : List ((Nat × MethodName) × List Nat)), kwd x.1.1 x.1.2 = x.2.filterMap (fun i => lw_tbl[i]?) ∧ (kwd x.1.1 x.1.2).all goodWord = true := by decide +kernel
theorem kw_1 : ∀ x ∈ ([((1, yX1_isGood), [493, 67]), ((2, yX2_init), [85, 64]), ((0, yX2_hasPlace), [379, 64, 380]), ((0, yX2_hasPrefix), [371, 64, 372]), ((0, yX2_append), [363, 64, 364]), ((0, yX2_firstWithNameOf), [383, 64, 384]), ((0, yX2_becomeAs), [683, 64, 684]), ((2, yX3_init), [180, 68]), ((0, yX3_begin), [505, 68, 506]), ((0, yX3_go), [509, 68, 510]), ((0, yX3_keepIn), [519, 68, 8]), ((0, yX3_caseOf), [514, 68, 7]), ((0, yX3_isDoomed), [610, 68, 611]), ((0, yX3_pattern), [615, 68, 22]), ((2, yX4_init), [294, 71]), ((0, yX4_begin), [729, 71, 730]), ((0, yX4_isNothing), [737, 71, 738]), ((0, yX4_hasCell), [741, 71, 742]), ((0, yX4_setCell), [745, 71, 746]), ((2, yX5_init), [209, 69])] : List ((Nat × MethodName) × List Nat)), kwd x.1.1 x.1.2 = x.2.filterMap (fun i => lw_tbl[i]?) ∧ (kwd x.1.1 x.1.2).all goodWord = true := by decide +kernel
theorem kw_2 : ∀ x ∈ ([((1, yX5_patternOf), [603, 69]), ((0, yX5_explore), [538, 69, 539]), ((0, yX5_forget), [543, 69, 10]), ((0, yX5_meet), [547, 69, 11]), ((1, yX5_isWanted), [563, 69]), ((0, yX5_lookAt), [551, 69, 12]), ((0, yX5_codeBehind), [567, 69, 15]), ((0, yX5_labelOf), [555, 69, 13]), ((0, yX5_caseOf), [559, 69, 14]), ((0, yX5_heldBehind), [572, 69, 16]), ((0, yX5_keep), [577, 69, 17]), ((0, yX5_digitOfEarlier), [581, 69, 18]), ((0, yX5_tellWays), [649, 69, 650]), ((0, yX5_giveNames), [653, 69, 654]), ((0, yX5_survey), [534, 69, 535]), ((0, yX5_tellNext), [585, 69, 19]), ((0, yX5_spreadLife), [589, 69, 20]), ((0, yX5_leadsToLife), [596, 69, 21]), ((2, yX6_init), [271, 70]), ((0, yX6_begin), [693, 70, 694])] : List ((Nat × MethodName) × List Nat)), kwd x.1.1 x.1.2 = x.2.filterMap (fun i => lw_tbl[i]?) ∧ (kwd x.1.1 x.1.2).all goodWord = true := by decide +kernel
theorem kw_3 : ∀ x ∈ ([((0, yX6_isDone), [711, 70, 712]), ((0, yX6_take), [707, 70, 708]), ((2, yX7_init), [77, 63]), ((0, yX7_place), [359, 63, 360]), ((0, yX7_cut), [367, 63, 368]), ((0, yX7_first), [375, 63, 376]), ((0, yX7_names), [387, 63, 388]), ((0, yX7_machine), [391, 63, 392]), ((0, yX7_step), [408, 63, 409]), ((0, yX7_good), [432, 63, 433]), ((0, yX7_told), [445, 63, 446]), ((0, yX7_stepOf), [453, 63, 454]), ((0, yX7_drop), [457, 63, 458]), ((0, yX7_turned), [461, 63, 462]), ((0, yX7_both), [472, 63, 473]), ((0, yX7_machineAt), [413, 63, 3]), ((0, yX7_spareMachine), [396, 63, 0]), ((0, yX7_addSpareMachine), [401, 63, 1]), ((0, yX7_machinesChanged), [405, 63, 2]), ((0, yX7_takes), [497, 63, 498])] : List ((Nat × MethodName) × List Nat)), kwd x.1.1 x.1.2 = x.2.filterMap (fun i => lw_tbl[i]?) ∧ (kwd x.1.1 x.1.2).all goodWord = true := by decide +kernel
theorem kw_4 : ∀ x ∈ ([((0, yX7_ran), [522, 63, 523]), ((0, yX7_doomed), [526, 63, 527]), ((0, yX7_runOver), [502, 63, 6]), ((0, yX7_learnOrbits), [531, 63, 9]), ((0, yX7_orbits), [623, 63, 624]), ((0, yX7_shortest), [640, 63, 641]), ((0, yX7_shortestAt), [659, 63, 660]), ((0, yX7_parts), [667, 63, 668]), ((0, yX7_partsAt), [671, 63, 672]), ((0, yX7_within), [675, 63, 676]), ((0, yX7_show), [679, 63, 680]), ((0, yX7_findLeast), [645, 63, 24]), ((0, yX7_leastAt), [664, 63, 25]), ((0, yX7_watch), [689, 63, 690]), ((0, yX7_see), [699, 63, 700]), ((0, yX7_seen), [717, 63, 718]), ((0, yX7_watchAt), [704, 63, 26]), ((0, yX7_sheet), [721, 63, 722]), ((0, yX7_lay), [733, 63, 734]), ((0, yX7_scan), [750, 63, 751])] : List ((Nat × MethodName) × List Nat)), kwd x.1.1 x.1.2 = x.2.filterMap (fun i => lw_tbl[i]?) ∧ (kwd x.1.1 x.1.2).all goodWord = true := by decide +kernel
theorem kw_5 : ∀ x ∈ ([((0, yX7_scanPlace), [755, 63, 28]), ((0, yX7_sheetAt), [726, 63, 27]), ((0, yX7_count), [758, 63, 759]), ((0, yX7_watchesDone), [763, 63, 29]), ((0, yX7_countUnlikeMachines), [768, 63, 30]), ((0, yX7_isAsEarlierOne), [772, 63, 31]), ((2, yX8_init), [777, 72]), ((1, yX8_in), [913, 72]), ((0, yX8_place), [908, 72, 909]), ((0, yX8_cut), [916, 72, 917]), ((0, yX8_firstOf), [925, 72, 32]), ((0, yX8_first), [920, 72, 921]), ((0, yX8_names), [928, 72, 929]), ((0, yX8_isMachine), [954, 72, 36]), ((0, yX8_isState), [950, 72, 35]), ((1, yX8_stepAt), [965, 72]), ((0, yX8_isCase), [958, 72, 37]), ((0, yX8_isStep), [946, 72, 34]), ((0, yX8_begins), [938, 72, 33]), ((0, yX8_machine), [932, 72, 933])] : List ((Nat × MethodName) × List Nat)), kwd x.1.1 x.1.2 = x.2.filterMap (fun i => lw_tbl[i]?) ∧ (kwd x.1.1 x.1.2).all goodWord = true := by decide +kernel
theorem kw_6 : ∀ x ∈ ([((0, yX8_isWatched), [962, 72, 38]), ((0, yX8_step), [941, 72, 942]), ((0, yX8_good), [968, 72, 969]), ((0, yX8_told), [972, 72, 973]), ((0, yX8_stepOf), [976, 72, 977]), ((0, yX8_drop), [980, 72, 981]), ((0, yX8_turned), [984, 72, 985]), ((0, yX8_pairAt), [993, 72, 39]), ((0, yX8_both), [988, 72, 989]), ((0, yX8_starts), [1005, 72, 41]), ((0, yX8_goes), [1009, 72, 42]), ((0, yX8_runs), [1001, 72, 40]), ((0, yX8_takes), [996, 72, 997]), ((0, yX8_ran), [1012, 72, 1013]), ((0, yX8_apart), [1034, 72, 46]), ((0, yX8_put), [1050, 72, 50]), ((0, yX8_most), [1038, 72, 47]), ((0, yX8_goesOn), [1046, 72, 49]), ((0, yX8_behind), [1042, 72, 48]), ((0, yX8_labelsIn), [1030, 72, 45])] : List ((Nat × MethodName) × List Nat)), kwd x.1.1 x.1.2 = x.2.filterMap (fun i => lw_tbl[i]?) ∧ (kwd x.1.1 x.1.2).all goodWord = true := by decide +kernel
theorem kw_7 : ∀ x ∈ ([((0, yX8_explores), [1026, 72, 44]), ((0, yX8_isGoodA), [1054, 72, 51]), ((0, yX8_isGoodB), [1082, 72, 56]), ((0, yX8_wanted), [1078, 72, 55]), ((0, yX8_lines), [1086, 72, 57]), ((0, yX8_tells), [1098, 72, 59]), ((0, yX8_keepsReal), [1102, 72, 60]), ((0, yX8_lengthOf), [1074, 72, 54]), ((0, yX8_atOf), [1094, 72, 58]), ((0, yX8_findAlive), [1022, 72, 43]), ((0, yX8_leadsOn), [1058, 72, 52]), ((0, yX8_orbitOf), [1062, 72, 53]), ((0, yX8_doomed), [1017, 72, 1018]), ((0, yX8_orbits), [1065, 72, 1066]), ((0, yX8_shortest), [1069, 72, 1070]), ((0, yX8_shortestAt), [1089, 72, 1090]), ((0, yX8_parts), [1105, 72, 1106]), ((0, yX8_partsAt), [1109, 72, 1110]), ((0, yX8_within), [1113, 72, 1114]), ((0, yX8_show), [1117, 72, 1118])] : List ((Nat × MethodName) × List Nat)), kwd x.1.1 x.1.2 = x.2.filterMap (fun i => lw_tbl[i]?) ∧ (kwd x.1.1 x.1.2).all goodWord = true := by decide +kernel
theorem kw_8 : ∀ x ∈ ([((0, yX8_isDead), [1126, 72, 61]), ((0, yX8_watch), [1121, 72, 1122]), ((0, yX8_see), [1129, 72, 1130]), ((0, yX8_seen), [1133, 72, 1134]), ((1, yX8_isSheet), [1141, 72]), ((0, yX8_sheet), [1137, 72, 1138]), ((0, yX8_lay), [1144, 72, 1145]), ((0, yX8_scan), [1148, 72, 1149]), ((0, yX8_count), [1154, 72, 1155])] : List ((Nat × MethodName) × List Nat)), kwd x.1.1 x.1.2 = x.2.filterMap (fun i => lw_tbl[i]?) ∧ (kwd x.1.1 x.1.2).all goodWord = true := by decide +kernel
/-- what the tables hold of a method -/
def mOK (q : MT) (k : Nat) : Prop := cwd q ∈ gtbl ∧ (∀ w ∈ kwd k q.1.1, w ∈ gtbl) ∧ plainName q.1.1.cls = true ∧ (q.1.1.cls ≠ "java/lang/invoke/MethodHandle" ∧ q.1.1.cls ≠ "java/lang/invoke/VarHandle") ∧ q.1.1.cls = cnm q.2.1 ∧ q.1.2.2.1 ≤ 17 ∧ (k = 2 → q.1.1.name = "<init>" ∧ q.1.2.2.2 = none)
theorem kwd_ok {k : Nat} {y : MethodName} {ps : List Nat} (h : kwd k y = ps.filterMap (fun i => lw_tbl[i]?) ∧ (kwd k y).all goodWord = true) : ∀ w ∈ kwd k y, w ∈ gtbl := gt_list _ ps h.1 h.2
theorem mo_0 : mOK mt_0 2 := ⟨cw_0, kwd_ok (kw_0 ((2, yX0_init), [116, 66]) (List.mem_of_getElem? (i := 0) rfl)), by decide +kernel, by decide +kernel, by decide +kernel, by decide +kernel, by decide +kernel⟩
theorem mo_1 : mOK mt_1 0 := ⟨cw_1, kwd_ok (kw_0 ((0, yX0_begin), [120, 66, 121]) (List.mem_of_getElem? (i := 1) rfl)), by decide +kernel, by decide +kernel, by decide +kernel, by decide +kernel, by decide +kernel⟩
theorem mo_2 : mOK mt_2 0 := ⟨cw_2, kwd_ok (kw_0 ((0, yX0_turnFrom), [465, 66, 466]) (List.mem_of_getElem? (i := 2) rfl)), by decide +kernel, by decide +kernel, by decide +kernel, by decide +kernel, by decide +kernel⟩
theorem mo_3 : mOK mt_3 0 := ⟨cw_3, kwd_ok (kw_0 ((0, yX0_hasState), [416, 66, 417]) (List.mem_of_getElem? (i := 3) rfl)), by decide +kernel, by decide +kernel, by decide +kernel, by decide +kernel, by decide +kernel⟩
theorem mo_4 : mOK mt_4 0 := ⟨cw_4, kwd_ok (kw_0 ((0, yX0_stepAt), [424, 66, 425]) (List.mem_of_getElem? (i := 4) rfl)), by decide +kernel, by decide +kernel, by decide +kernel, by decide +kernel, by decide +kernel⟩
theorem mo_5 : mOK mt_5 0 := ⟨cw_5, kwd_ok (kw_0 ((0, yX0_canKeep), [420, 66, 421]) (List.mem_of_getElem? (i := 5) rfl)), by decide +kernel, by decide +kernel, by decide +kernel, by decide +kernel, by decide +kernel⟩
theorem mo_6 : mOK mt_6 0 := ⟨cw_6, kwd_ok (kw_0 ((0, yX0_setStep), [428, 66, 429]) (List.mem_of_getElem? (i := 6) rfl)), by decide +kernel, by decide +kernel, by decide +kernel, by decide +kernel, by decide +kernel⟩
theorem mo_7 : mOK mt_7 0 := ⟨cw_7, kwd_ok (kw_0 ((0, yX0_isGood), [436, 66, 437]) (List.mem_of_getElem? (i := 7) rfl)), by decide +kernel, by decide +kernel, by decide +kernel, by decide +kernel, by decide +kernel⟩
theorem mo_8 : mOK mt_8 0 := ⟨cw_8, kwd_ok (kw_0 ((0, yX0_setGood), [441, 66, 442]) (List.mem_of_getElem? (i := 8) rfl)), by decide +kernel, by decide +kernel, by decide +kernel, by decide +kernel, by decide +kernel⟩
theorem mo_9 : mOK mt_9 0 := ⟨cw_9, kwd_ok (kw_0 ((0, yX0_goodStates), [449, 66, 450]) (List.mem_of_getElem? (i := 9) rfl)), by decide +kernel, by decide +kernel, by decide +kernel, by decide +kernel, by decide +kernel⟩
theorem mo_10 : mOK mt_10 0 := ⟨cw_10, kwd_ok (kw_0 ((0, yX0_forgetOrbits), [599, 66, 600]) (List.mem_of_getElem? (i := 10) rfl)), by decide +kernel, by decide +kernel, by decide +kernel, by decide +kernel, by decide +kernel⟩
theorem mo_11 : mOK mt_11 0 := ⟨cw_11, kwd_ok (kw_0 ((0, yX0_setFate), [606, 66, 607]) (List.mem_of_getElem? (i := 11) rfl)), by decide +kernel, by decide +kernel, by decide +kernel, by decide +kernel, by decide +kernel⟩
theorem mo_12 : mOK mt_12 0 := ⟨cw_12, kwd_ok (kw_0 ((0, yX0_fateOf), [619, 66, 620]) (List.mem_of_getElem? (i := 12) rfl)), by decide +kernel, by decide +kernel, by decide +kernel, by decide +kernel, by decide +kernel⟩
theorem mo_13 : mOK mt_13 0 := ⟨cw_13, kwd_ok (kw_0 ((0, yX0_orbitsOf), [627, 66, 628]) (List.mem_of_getElem? (i := 13) rfl)), by decide +kernel, by decide +kernel, by decide +kernel, by decide +kernel, by decide +kernel⟩
theorem mo_14 : mOK mt_14 0 := ⟨cw_14, kwd_ok (kw_0 ((0, yX0_statesMet), [631, 66, 632]) (List.mem_of_getElem? (i := 14) rfl)), by decide +kernel, by decide +kernel, by decide +kernel, by decide +kernel, by decide +kernel⟩
theorem mo_15 : mOK mt_15 0 := ⟨cw_15, kwd_ok (kw_0 ((0, yX0_isMet), [636, 66, 23]) (List.mem_of_getElem? (i := 15) rfl)), by decide +kernel, by decide +kernel, by decide +kernel, by decide +kernel, by decide +kernel⟩
theorem mo_16 : mOK mt_16 2 := ⟨cw_16, kwd_ok (kw_0 ((2, yX1_init), [167, 67]) (List.mem_of_getElem? (i := 16) rfl)), by decide +kernel, by decide +kernel, by decide +kernel, by decide +kernel, by decide +kernel⟩
theorem mo_17 : mOK mt_17 0 := ⟨cw_17, kwd_ok (kw_0 ((0, yX1_join), [476, 67, 477]) (List.mem_of_getElem? (i := 17) rfl)), by decide +kernel, by decide +kernel, by decide +kernel, by decide +kernel, by decide +kernel⟩
theorem mo_18 : mOK mt_18 0 := ⟨cw_18, kwd_ok (kw_0 ((0, yX1_joinSteps), [487, 67, 5]) (List.mem_of_getElem? (i := 18) rfl)), by decide +kernel, by decide +kernel, by decide +kernel, by decide +kernel, by decide +kernel⟩
theorem mo_19 : mOK mt_19 0 := ⟨cw_19, kwd_ok (kw_0 ((0, yX1_numberOf), [483, 67, 4]) (List.mem_of_getElem? (i := 19) rfl)), by decide +kernel, by decide +kernel, by decide +kernel, by decide +kernel, by decide +kernel⟩
theorem mo_20 : mOK mt_20 1 := ⟨cw_20, kwd_ok (kw_1 ((1, yX1_isGood), [493, 67]) (List.mem_of_getElem? (i := 0) rfl)), by decide +kernel, by decide +kernel, by decide +kernel, by decide +kernel, by decide +kernel⟩
theorem mo_21 : mOK mt_21 2 := ⟨cw_21, kwd_ok (kw_1 ((2, yX2_init), [85, 64]) (List.mem_of_getElem? (i := 1) rfl)), by decide +kernel, by decide +kernel, by decide +kernel, by decide +kernel, by decide +kernel⟩
theorem mo_22 : mOK mt_22 0 := ⟨cw_22, kwd_ok (kw_1 ((0, yX2_hasPlace), [379, 64, 380]) (List.mem_of_getElem? (i := 2) rfl)), by decide +kernel, by decide +kernel, by decide +kernel, by decide +kernel, by decide +kernel⟩
theorem mo_23 : mOK mt_23 0 := ⟨cw_23, kwd_ok (kw_1 ((0, yX2_hasPrefix), [371, 64, 372]) (List.mem_of_getElem? (i := 3) rfl)), by decide +kernel, by decide +kernel, by decide +kernel, by decide +kernel, by decide +kernel⟩
theorem mo_24 : mOK mt_24 0 := ⟨cw_24, kwd_ok (kw_1 ((0, yX2_append), [363, 64, 364]) (List.mem_of_getElem? (i := 4) rfl)), by decide +kernel, by decide +kernel, by decide +kernel, by decide +kernel, by decide +kernel⟩
theorem mo_25 : mOK mt_25 0 := ⟨cw_25, kwd_ok (kw_1 ((0, yX2_firstWithNameOf), [383, 64, 384]) (List.mem_of_getElem? (i := 5) rfl)), by decide +kernel, by decide +kernel, by decide +kernel, by decide +kernel, by decide +kernel⟩
theorem mo_26 : mOK mt_26 0 := ⟨cw_26, kwd_ok (kw_1 ((0, yX2_becomeAs), [683, 64, 684]) (List.mem_of_getElem? (i := 6) rfl)), by decide +kernel, by decide +kernel, by decide +kernel, by decide +kernel, by decide +kernel⟩
theorem mo_27 : mOK mt_27 2 := ⟨cw_27, kwd_ok (kw_1 ((2, yX3_init), [180, 68]) (List.mem_of_getElem? (i := 7) rfl)), by decide +kernel, by decide +kernel, by decide +kernel, by decide +kernel, by decide +kernel⟩
theorem mo_28 : mOK mt_28 0 := ⟨cw_28, kwd_ok (kw_1 ((0, yX3_begin), [505, 68, 506]) (List.mem_of_getElem? (i := 8) rfl)), by decide +kernel, by decide +kernel, by decide +kernel, by decide +kernel, by decide +kernel⟩
theorem mo_29 : mOK mt_29 0 := ⟨cw_29, kwd_ok (kw_1 ((0, yX3_go), [509, 68, 510]) (List.mem_of_getElem? (i := 9) rfl)), by decide +kernel, by decide +kernel, by decide +kernel, by decide +kernel, by decide +kernel⟩
theorem mo_30 : mOK mt_30 0 := ⟨cw_30, kwd_ok (kw_1 ((0, yX3_keepIn), [519, 68, 8]) (List.mem_of_getElem? (i := 10) rfl)), by decide +kernel, by decide +kernel, by decide +kernel, by decide +kernel, by decide +kernel⟩
theorem mo_31 : mOK mt_31 0 := ⟨cw_31, kwd_ok (kw_1 ((0, yX3_caseOf), [514, 68, 7]) (List.mem_of_getElem? (i := 11) rfl)), by decide +kernel, by decide +kernel, by decide +kernel, by decide +kernel, by decide +kernel⟩
theorem mo_32 : mOK mt_32 0 := ⟨cw_32, kwd_ok (kw_1 ((0, yX3_isDoomed), [610, 68, 611]) (List.mem_of_getElem? (i := 12) rfl)), by decide +kernel, by decide +kernel, by decide +kernel, by decide +kernel, by decide +kernel⟩
theorem mo_33 : mOK mt_33 0 := ⟨cw_33, kwd_ok (kw_1 ((0, yX3_pattern), [615, 68, 22]) (List.mem_of_getElem? (i := 13) rfl)), by decide +kernel, by decide +kernel, by decide +kernel, by decide +kernel, by decide +kernel⟩
theorem mo_34 : mOK mt_34 2 := ⟨cw_34, kwd_ok (kw_1 ((2, yX4_init), [294, 71]) (List.mem_of_getElem? (i := 14) rfl)), by decide +kernel, by decide +kernel, by decide +kernel, by decide +kernel, by decide +kernel⟩
theorem mo_35 : mOK mt_35 0 := ⟨cw_35, kwd_ok (kw_1 ((0, yX4_begin), [729, 71, 730]) (List.mem_of_getElem? (i := 15) rfl)), by decide +kernel, by decide +kernel, by decide +kernel, by decide +kernel, by decide +kernel⟩
theorem mo_36 : mOK mt_36 0 := ⟨cw_36, kwd_ok (kw_1 ((0, yX4_isNothing), [737, 71, 738]) (List.mem_of_getElem? (i := 16) rfl)), by decide +kernel, by decide +kernel, by decide +kernel, by decide +kernel, by decide +kernel⟩
theorem mo_37 : mOK mt_37 0 := ⟨cw_37, kwd_ok (kw_1 ((0, yX4_hasCell), [741, 71, 742]) (List.mem_of_getElem? (i := 17) rfl)), by decide +kernel, by decide +kernel, by decide +kernel, by decide +kernel, by decide +kernel⟩
theorem mo_38 : mOK mt_38 0 := ⟨cw_38, kwd_ok (kw_1 ((0, yX4_setCell), [745, 71, 746]) (List.mem_of_getElem? (i := 18) rfl)), by decide +kernel, by decide +kernel, by decide +kernel, by decide +kernel, by decide +kernel⟩
theorem mo_39 : mOK mt_39 2 := ⟨cw_39, kwd_ok (kw_1 ((2, yX5_init), [209, 69]) (List.mem_of_getElem? (i := 19) rfl)), by decide +kernel, by decide +kernel, by decide +kernel, by decide +kernel, by decide +kernel⟩
theorem mo_40 : mOK mt_40 1 := ⟨cw_40, kwd_ok (kw_2 ((1, yX5_patternOf), [603, 69]) (List.mem_of_getElem? (i := 0) rfl)), by decide +kernel, by decide +kernel, by decide +kernel, by decide +kernel, by decide +kernel⟩
theorem mo_41 : mOK mt_41 0 := ⟨cw_41, kwd_ok (kw_2 ((0, yX5_explore), [538, 69, 539]) (List.mem_of_getElem? (i := 1) rfl)), by decide +kernel, by decide +kernel, by decide +kernel, by decide +kernel, by decide +kernel⟩
theorem mo_42 : mOK mt_42 0 := ⟨cw_42, kwd_ok (kw_2 ((0, yX5_forget), [543, 69, 10]) (List.mem_of_getElem? (i := 2) rfl)), by decide +kernel, by decide +kernel, by decide +kernel, by decide +kernel, by decide +kernel⟩
theorem mo_43 : mOK mt_43 0 := ⟨cw_43, kwd_ok (kw_2 ((0, yX5_meet), [547, 69, 11]) (List.mem_of_getElem? (i := 3) rfl)), by decide +kernel, by decide +kernel, by decide +kernel, by decide +kernel, by decide +kernel⟩
theorem mo_44 : mOK mt_44 1 := ⟨cw_44, kwd_ok (kw_2 ((1, yX5_isWanted), [563, 69]) (List.mem_of_getElem? (i := 4) rfl)), by decide +kernel, by decide +kernel, by decide +kernel, by decide +kernel, by decide +kernel⟩
theorem mo_45 : mOK mt_45 0 := ⟨cw_45, kwd_ok (kw_2 ((0, yX5_lookAt), [551, 69, 12]) (List.mem_of_getElem? (i := 5) rfl)), by decide +kernel, by decide +kernel, by decide +kernel, by decide +kernel, by decide +kernel⟩
theorem mo_46 : mOK mt_46 0 := ⟨cw_46, kwd_ok (kw_2 ((0, yX5_codeBehind), [567, 69, 15]) (List.mem_of_getElem? (i := 6) rfl)), by decide +kernel, by decide +kernel, by decide +kernel, by decide +kernel, by decide +kernel⟩
theorem mo_47 : mOK mt_47 0 := ⟨cw_47, kwd_ok (kw_2 ((0, yX5_labelOf), [555, 69, 13]) (List.mem_of_getElem? (i := 7) rfl)), by decide +kernel, by decide +kernel, by decide +kernel, by decide +kernel, by decide +kernel⟩
theorem mo_48 : mOK mt_48 0 := ⟨cw_48, kwd_ok (kw_2 ((0, yX5_caseOf), [559, 69, 14]) (List.mem_of_getElem? (i := 8) rfl)), by decide +kernel, by decide +kernel, by decide +kernel, by decide +kernel, by decide +kernel⟩
theorem mo_49 : mOK mt_49 0 := ⟨cw_49, kwd_ok (kw_2 ((0, yX5_heldBehind), [572, 69, 16]) (List.mem_of_getElem? (i := 9) rfl)), by decide +kernel, by decide +kernel, by decide +kernel, by decide +kernel, by decide +kernel⟩
theorem mo_50 : mOK mt_50 0 := ⟨cw_50, kwd_ok (kw_2 ((0, yX5_keep), [577, 69, 17]) (List.mem_of_getElem? (i := 10) rfl)), by decide +kernel, by decide +kernel, by decide +kernel, by decide +kernel, by decide +kernel⟩
theorem mo_51 : mOK mt_51 0 := ⟨cw_51, kwd_ok (kw_2 ((0, yX5_digitOfEarlier), [581, 69, 18]) (List.mem_of_getElem? (i := 11) rfl)), by decide +kernel, by decide +kernel, by decide +kernel, by decide +kernel, by decide +kernel⟩
theorem mo_52 : mOK mt_52 0 := ⟨cw_52, kwd_ok (kw_2 ((0, yX5_tellWays), [649, 69, 650]) (List.mem_of_getElem? (i := 12) rfl)), by decide +kernel, by decide +kernel, by decide +kernel, by decide +kernel, by decide +kernel⟩
theorem mo_53 : mOK mt_53 0 := ⟨cw_53, kwd_ok (kw_2 ((0, yX5_giveNames), [653, 69, 654]) (List.mem_of_getElem? (i := 13) rfl)), by decide +kernel, by decide +kernel, by decide +kernel, by decide +kernel, by decide +kernel⟩
theorem mo_54 : mOK mt_54 0 := ⟨cw_54, kwd_ok (kw_2 ((0, yX5_survey), [534, 69, 535]) (List.mem_of_getElem? (i := 14) rfl)), by decide +kernel, by decide +kernel, by decide +kernel, by decide +kernel, by decide +kernel⟩
theorem mo_55 : mOK mt_55 0 := ⟨cw_55, kwd_ok (kw_2 ((0, yX5_tellNext), [585, 69, 19]) (List.mem_of_getElem? (i := 15) rfl)), by decide +kernel, by decide +kernel, by decide +kernel, by decide +kernel, by decide +kernel⟩
theorem mo_56 : mOK mt_56 0 := ⟨cw_56, kwd_ok (kw_2 ((0, yX5_spreadLife), [589, 69, 20]) (List.mem_of_getElem? (i := 16) rfl)), by decide +kernel, by decide +kernel, by decide +kernel, by decide +kernel, by decide +kernel⟩
theorem mo_57 : mOK mt_57 0 := ⟨cw_57, kwd_ok (kw_2 ((0, yX5_leadsToLife), [596, 69, 21]) (List.mem_of_getElem? (i := 17) rfl)), by decide +kernel, by decide +kernel, by decide +kernel, by decide +kernel, by decide +kernel⟩
theorem mo_58 : mOK mt_58 2 := ⟨cw_58, kwd_ok (kw_2 ((2, yX6_init), [271, 70]) (List.mem_of_getElem? (i := 18) rfl)), by decide +kernel, by decide +kernel, by decide +kernel, by decide +kernel, by decide +kernel⟩
theorem mo_59 : mOK mt_59 0 := ⟨cw_59, kwd_ok (kw_2 ((0, yX6_begin), [693, 70, 694]) (List.mem_of_getElem? (i := 19) rfl)), by decide +kernel, by decide +kernel, by decide +kernel, by decide +kernel, by decide +kernel⟩
theorem mo_60 : mOK mt_60 0 := ⟨cw_60, kwd_ok (kw_3 ((0, yX6_isDone), [711, 70, 712]) (List.mem_of_getElem? (i := 0) rfl)), by decide +kernel, by decide +kernel, by decide +kernel, by decide +kernel, by decide +kernel⟩
theorem mo_61 : mOK mt_61 0 := ⟨cw_61, kwd_ok (kw_3 ((0, yX6_take), [707, 70, 708]) (List.mem_of_getElem? (i := 1) rfl)), by decide +kernel, by decide +kernel, by decide +kernel, by decide +kernel, by decide +kernel⟩
theorem mo_62 : mOK mt_62 2 := ⟨cw_62, kwd_ok (kw_3 ((2, yX7_init), [77, 63]) (List.mem_of_getElem? (i := 2) rfl)), by decide +kernel, by decide +kernel, by decide +kernel, by decide +kernel, by decide +kernel⟩
theorem mo_63 : mOK mt_63 0 := ⟨cw_63, kwd_ok (kw_3 ((0, yX7_place), [359, 63, 360]) (List.mem_of_getElem? (i := 3) rfl)), by decide +kernel, by decide +kernel, by decide +kernel, by decide +kernel, by decide +kernel⟩
theorem mo_64 : mOK mt_64 0 := ⟨cw_64, kwd_ok (kw_3 ((0, yX7_cut), [367, 63, 368]) (List.mem_of_getElem? (i := 4) rfl)), by decide +kernel, by decide +kernel, by decide +kernel, by decide +kernel, by decide +kernel⟩
theorem mo_65 : mOK mt_65 0 := ⟨cw_65, kwd_ok (kw_3 ((0, yX7_first), [375, 63, 376]) (List.mem_of_getElem? (i := 5) rfl)), by decide +kernel, by decide +kernel, by decide +kernel, by decide +kernel, by decide +kernel⟩
theorem mo_66 : mOK mt_66 0 := ⟨cw_66, kwd_ok (kw_3 ((0, yX7_names), [387, 63, 388]) (List.mem_of_getElem? (i := 6) rfl)), by decide +kernel, by decide +kernel, by decide +kernel, by decide +kernel, by decide +kernel⟩
theorem mo_67 : mOK mt_67 0 := ⟨cw_67, kwd_ok (kw_3 ((0, yX7_machine), [391, 63, 392]) (List.mem_of_getElem? (i := 7) rfl)), by decide +kernel, by decide +kernel, by decide +kernel, by decide +kernel, by decide +kernel⟩
theorem mo_68 : mOK mt_68 0 := ⟨cw_68, kwd_ok (kw_3 ((0, yX7_step), [408, 63, 409]) (List.mem_of_getElem? (i := 8) rfl)), by decide +kernel, by decide +kernel, by decide +kernel, by decide +kernel, by decide +kernel⟩
theorem mo_69 : mOK mt_69 0 := ⟨cw_69, kwd_ok (kw_3 ((0, yX7_good), [432, 63, 433]) (List.mem_of_getElem? (i := 9) rfl)), by decide +kernel, by decide +kernel, by decide +kernel, by decide +kernel, by decide +kernel⟩
theorem mo_70 : mOK mt_70 0 := ⟨cw_70, kwd_ok (kw_3 ((0, yX7_told), [445, 63, 446]) (List.mem_of_getElem? (i := 10) rfl)), by decide +kernel, by decide +kernel, by decide +kernel, by decide +kernel, by decide +kernel⟩
theorem mo_71 : mOK mt_71 0 := ⟨cw_71, kwd_ok (kw_3 ((0, yX7_stepOf), [453, 63, 454]) (List.mem_of_getElem? (i := 11) rfl)), by decide +kernel, by decide +kernel, by decide +kernel, by decide +kernel, by decide +kernel⟩
theorem mo_72 : mOK mt_72 0 := ⟨cw_72, kwd_ok (kw_3 ((0, yX7_drop), [457, 63, 458]) (List.mem_of_getElem? (i := 12) rfl)), by decide +kernel, by decide +kernel, by decide +kernel, by decide +kernel, by decide +kernel⟩
theorem mo_73 : mOK mt_73 0 := ⟨cw_73, kwd_ok (kw_3 ((0, yX7_turned), [461, 63, 462]) (List.mem_of_getElem? (i := 13) rfl)), by decide +kernel, by decide +kernel, by decide +kernel, by decide +kernel, by decide +kernel⟩
theorem mo_74 : mOK mt_74 0 := ⟨cw_74, kwd_ok (kw_3 ((0, yX7_both), [472, 63, 473]) (List.mem_of_getElem? (i := 14) rfl)), by decide +kernel, by decide +kernel, by decide +kernel, by decide +kernel, by decide +kernel⟩
theorem mo_75 : mOK mt_75 0 := ⟨cw_75, kwd_ok (kw_3 ((0, yX7_machineAt), [413, 63, 3]) (List.mem_of_getElem? (i := 15) rfl)), by decide +kernel, by decide +kernel, by decide +kernel, by decide +kernel, by decide +kernel⟩
theorem mo_76 : mOK mt_76 0 := ⟨cw_76, kwd_ok (kw_3 ((0, yX7_spareMachine), [396, 63, 0]) (List.mem_of_getElem? (i := 16) rfl)), by decide +kernel, by decide +kernel, by decide +kernel, by decide +kernel, by decide +kernel⟩
theorem mo_77 : mOK mt_77 0 := ⟨cw_77, kwd_ok (kw_3 ((0, yX7_addSpareMachine), [401, 63, 1]) (List.mem_of_getElem? (i := 17) rfl)), by decide +kernel, by decide +kernel, by decide +kernel, by decide +kernel, by decide +kernel⟩
theorem mo_78 : mOK mt_78 0 := ⟨cw_78, kwd_ok (kw_3 ((0, yX7_machinesChanged), [405, 63, 2]) (List.mem_of_getElem? (i := 18) rfl)), by decide +kernel, by decide +kernel, by decide +kernel, by decide +kernel, by decide +kernel⟩
theorem mo_79 : mOK mt_79 0 := ⟨cw_79, kwd_ok (kw_3 ((0, yX7_takes), [497, 63, 498]) (List.mem_of_getElem? (i := 19) rfl)), by decide +kernel, by decide +kernel, by decide +kernel, by decide +kernel, by decide +kernel⟩
theorem mo_80 : mOK mt_80 0 := ⟨cw_80, kwd_ok (kw_4 ((0, yX7_ran), [522, 63, 523]) (List.mem_of_getElem? (i := 0) rfl)), by decide +kernel, by decide +kernel, by decide +kernel, by decide +kernel, by decide +kernel⟩
theorem mo_81 : mOK mt_81 0 := ⟨cw_81, kwd_ok (kw_4 ((0, yX7_doomed), [526, 63, 527]) (List.mem_of_getElem? (i := 1) rfl)), by decide +kernel, by decide +kernel, by decide +kernel, by decide +kernel, by decide +kernel⟩
theorem mo_82 : mOK mt_82 0 := ⟨cw_82, kwd_ok (kw_4 ((0, yX7_runOver), [502, 63, 6]) (List.mem_of_getElem? (i := 2) rfl)), by decide +kernel, by decide +kernel, by decide +kernel, by decide +kernel, by decide +kernel⟩
theorem mo_83 : mOK mt_83 0 := ⟨cw_83, kwd_ok (kw_4 ((0, yX7_learnOrbits), [531, 63, 9]) (List.mem_of_getElem? (i := 3) rfl)), by decide +kernel, by decide +kernel, by decide +kernel, by decide +kernel, by decide +kernel⟩
theorem mo_84 : mOK mt_84 0 := ⟨cw_84, kwd_ok (kw_4 ((0, yX7_orbits), [623, 63, 624]) (List.mem_of_getElem? (i := 4) rfl)), by decide +kernel, by decide +kernel, by decide +kernel, by decide +kernel, by decide +kernel⟩
theorem mo_85 : mOK mt_85 0 := ⟨cw_85, kwd_ok (kw_4 ((0, yX7_shortest), [640, 63, 641]) (List.mem_of_getElem? (i := 5) rfl)), by decide +kernel, by decide +kernel, by decide +kernel, by decide +kernel, by decide +kernel⟩
theorem mo_86 : mOK mt_86 0 := ⟨cw_86, kwd_ok (kw_4 ((0, yX7_shortestAt), [659, 63, 660]) (List.mem_of_getElem? (i := 6) rfl)), by decide +kernel, by decide +kernel, by decide +kernel, by decide +kernel, by decide +kernel⟩
theorem mo_87 : mOK mt_87 0 := ⟨cw_87, kwd_ok (kw_4 ((0, yX7_parts), [667, 63, 668]) (List.mem_of_getElem? (i := 7) rfl)), by decide +kernel, by decide +kernel, by decide +kernel, by decide +kernel, by decide +kernel⟩
theorem mo_88 : mOK mt_88 0 := ⟨cw_88, kwd_ok (kw_4 ((0, yX7_partsAt), [671, 63, 672]) (List.mem_of_getElem? (i := 8) rfl)), by decide +kernel, by decide +kernel, by decide +kernel, by decide +kernel, by decide +kernel⟩
theorem mo_89 : mOK mt_89 0 := ⟨cw_89, kwd_ok (kw_4 ((0, yX7_within), [675, 63, 676]) (List.mem_of_getElem? (i := 9) rfl)), by decide +kernel, by decide +kernel, by decide +kernel, by decide +kernel, by decide +kernel⟩
theorem mo_90 : mOK mt_90 0 := ⟨cw_90, kwd_ok (kw_4 ((0, yX7_show), [679, 63, 680]) (List.mem_of_getElem? (i := 10) rfl)), by decide +kernel, by decide +kernel, by decide +kernel, by decide +kernel, by decide +kernel⟩
theorem mo_91 : mOK mt_91 0 := ⟨cw_91, kwd_ok (kw_4 ((0, yX7_findLeast), [645, 63, 24]) (List.mem_of_getElem? (i := 11) rfl)), by decide +kernel, by decide +kernel, by decide +kernel, by decide +kernel, by decide +kernel⟩
theorem mo_92 : mOK mt_92 0 := ⟨cw_92, kwd_ok (kw_4 ((0, yX7_leastAt), [664, 63, 25]) (List.mem_of_getElem? (i := 12) rfl)), by decide +kernel, by decide +kernel, by decide +kernel, by decide +kernel, by decide +kernel⟩
theorem mo_93 : mOK mt_93 0 := ⟨cw_93, kwd_ok (kw_4 ((0, yX7_watch), [689, 63, 690]) (List.mem_of_getElem? (i := 13) rfl)), by decide +kernel, by decide +kernel, by decide +kernel, by decide +kernel, by decide +kernel⟩
theorem mo_94 : mOK mt_94 0 := ⟨cw_94, kwd_ok (kw_4 ((0, yX7_see), [699, 63, 700]) (List.mem_of_getElem? (i := 14) rfl)), by decide +kernel, by decide +kernel, by decide +kernel, by decide +kernel, by decide +kernel⟩
theorem mo_95 : mOK mt_95 0 := ⟨cw_95, kwd_ok (kw_4 ((0, yX7_seen), [717, 63, 718]) (List.mem_of_getElem? (i := 15) rfl)), by decide +kernel, by decide +kernel, by decide +kernel, by decide +kernel, by decide +kernel⟩
theorem mo_96 : mOK mt_96 0 := ⟨cw_96, kwd_ok (kw_4 ((0, yX7_watchAt), [704, 63, 26]) (List.mem_of_getElem? (i := 16) rfl)), by decide +kernel, by decide +kernel, by decide +kernel, by decide +kernel, by decide +kernel⟩
theorem mo_97 : mOK mt_97 0 := ⟨cw_97, kwd_ok (kw_4 ((0, yX7_sheet), [721, 63, 722]) (List.mem_of_getElem? (i := 17) rfl)), by decide +kernel, by decide +kernel, by decide +kernel, by decide +kernel, by decide +kernel⟩
theorem mo_98 : mOK mt_98 0 := ⟨cw_98, kwd_ok (kw_4 ((0, yX7_lay), [733, 63, 734]) (List.mem_of_getElem? (i := 18) rfl)), by decide +kernel, by decide +kernel, by decide +kernel, by decide +kernel, by decide +kernel⟩
theorem mo_99 : mOK mt_99 0 := ⟨cw_99, kwd_ok (kw_4 ((0, yX7_scan), [750, 63, 751]) (List.mem_of_getElem? (i := 19) rfl)), by decide +kernel, by decide +kernel, by decide +kernel, by decide +kernel, by decide +kernel⟩
theorem mo_100 : mOK mt_100 0 := ⟨cw_100, kwd_ok (kw_5 ((0, yX7_scanPlace), [755, 63, 28]) (List.mem_of_getElem? (i := 0) rfl)), by decide +kernel, by decide +kernel, by decide +kernel, by decide +kernel, by decide +kernel⟩
theorem mo_101 : mOK mt_101 0 := ⟨cw_101, kwd_ok (kw_5 ((0, yX7_sheetAt), [726, 63, 27]) (List.mem_of_getElem? (i := 1) rfl)), by decide +kernel, by decide +kernel, by decide +kernel, by decide +kernel, by decide +kernel⟩
theorem mo_102 : mOK mt_102 0 := ⟨cw_102, kwd_ok (kw_5 ((0, yX7_count), [758, 63, 759]) (List.mem_of_getElem? (i := 2) rfl)), by decide +kernel, by decide +kernel, by decide +kernel, by decide +kernel, by decide +kernel⟩
theorem mo_103 : mOK mt_103 0 := ⟨cw_103, kwd_ok (kw_5 ((0, yX7_watchesDone), [763, 63, 29]) (List.mem_of_getElem? (i := 3) rfl)), by decide +kernel, by decide +kernel, by decide +kernel, by decide +kernel, by decide +kernel⟩
theorem mo_104 : mOK mt_104 0 := ⟨cw_104, kwd_ok (kw_5 ((0, yX7_countUnlikeMachines), [768, 63, 30]) (List.mem_of_getElem? (i := 4) rfl)), by decide +kernel, by decide +kernel, by decide +kernel, by decide +kernel, by decide +kernel⟩
theorem mo_105 : mOK mt_105 0 := ⟨cw_105, kwd_ok (kw_5 ((0, yX7_isAsEarlierOne), [772, 63, 31]) (List.mem_of_getElem? (i := 5) rfl)), by decide +kernel, by decide +kernel, by decide +kernel, by decide +kernel, by decide +kernel⟩
theorem mo_106 : mOK mt_106 2 := ⟨cw_106, kwd_ok (kw_5 ((2, yX8_init), [777, 72]) (List.mem_of_getElem? (i := 6) rfl)), by decide +kernel, by decide +kernel, by decide +kernel, by decide +kernel, by decide +kernel⟩
theorem mo_107 : mOK mt_107 1 := ⟨cw_107, kwd_ok (kw_5 ((1, yX8_in), [913, 72]) (List.mem_of_getElem? (i := 7) rfl)), by decide +kernel, by decide +kernel, by decide +kernel, by decide +kernel, by decide +kernel⟩
theorem mo_108 : mOK mt_108 0 := ⟨cw_108, kwd_ok (kw_5 ((0, yX8_place), [908, 72, 909]) (List.mem_of_getElem? (i := 8) rfl)), by decide +kernel, by decide +kernel, by decide +kernel, by decide +kernel, by decide +kernel⟩
theorem mo_109 : mOK mt_109 0 := ⟨cw_109, kwd_ok (kw_5 ((0, yX8_cut), [916, 72, 917]) (List.mem_of_getElem? (i := 9) rfl)), by decide +kernel, by decide +kernel, by decide +kernel, by decide +kernel, by decide +kernel⟩
theorem mo_110 : mOK mt_110 0 := ⟨cw_110, kwd_ok (kw_5 ((0, yX8_firstOf), [925, 72, 32]) (List.mem_of_getElem? (i := 10) rfl)), by decide +kernel, by decide +kernel, by decide +kernel, by decide +kernel, by decide +kernel⟩
theorem mo_111 : mOK mt_111 0 := ⟨cw_111, kwd_ok (kw_5 ((0, yX8_first), [920, 72, 921]) (List.mem_of_getElem? (i := 11) rfl)), by decide +kernel, by decide +kernel, by decide +kernel, by decide +kernel, by decide +kernel⟩
theorem mo_112 : mOK mt_112 0 := ⟨cw_112, kwd_ok (kw_5 ((0, yX8_names), [928, 72, 929]) (List.mem_of_getElem? (i := 12) rfl)), by decide +kernel, by decide +kernel, by decide +kernel, by decide +kernel, by decide +kernel⟩
theorem mo_113 : mOK mt_113 0 := ⟨cw_113, kwd_ok (kw_5 ((0, yX8_isMachine), [954, 72, 36]) (List.mem_of_getElem? (i := 13) rfl)), by decide +kernel, by decide +kernel, by decide +kernel, by decide +kernel, by decide +kernel⟩
theorem mo_114 : mOK mt_114 0 := ⟨cw_114, kwd_ok (kw_5 ((0, yX8_isState), [950, 72, 35]) (List.mem_of_getElem? (i := 14) rfl)), by decide +kernel, by decide +kernel, by decide +kernel, by decide +kernel, by decide +kernel⟩
theorem mo_115 : mOK mt_115 1 := ⟨cw_115, kwd_ok (kw_5 ((1, yX8_stepAt), [965, 72]) (List.mem_of_getElem? (i := 15) rfl)), by decide +kernel, by decide +kernel, by decide +kernel, by decide +kernel, by decide +kernel⟩
theorem mo_116 : mOK mt_116 0 := ⟨cw_116, kwd_ok (kw_5 ((0, yX8_isCase), [958, 72, 37]) (List.mem_of_getElem? (i := 16) rfl)), by decide +kernel, by decide +kernel, by decide +kernel, by decide +kernel, by decide +kernel⟩
theorem mo_117 : mOK mt_117 0 := ⟨cw_117, kwd_ok (kw_5 ((0, yX8_isStep), [946, 72, 34]) (List.mem_of_getElem? (i := 17) rfl)), by decide +kernel, by decide +kernel, by decide +kernel, by decide +kernel, by decide +kernel⟩
theorem mo_118 : mOK mt_118 0 := ⟨cw_118, kwd_ok (kw_5 ((0, yX8_begins), [938, 72, 33]) (List.mem_of_getElem? (i := 18) rfl)), by decide +kernel, by decide +kernel, by decide +kernel, by decide +kernel, by decide +kernel⟩
theorem mo_119 : mOK mt_119 0 := ⟨cw_119, kwd_ok (kw_5 ((0, yX8_machine), [932, 72, 933]) (List.mem_of_getElem? (i := 19) rfl)), by decide +kernel, by decide +kernel, by decide +kernel, by decide +kernel, by decide +kernel⟩
theorem mo_120 : mOK mt_120 0 := ⟨cw_120, kwd_ok (kw_6 ((0, yX8_isWatched), [962, 72, 38]) (List.mem_of_getElem? (i := 0) rfl)), by decide +kernel, by decide +kernel, by decide +kernel, by decide +kernel, by decide +kernel⟩
theorem mo_121 : mOK mt_121 0 := ⟨cw_121, kwd_ok (kw_6 ((0, yX8_step), [941, 72, 942]) (List.mem_of_getElem? (i := 1) rfl)), by decide +kernel, by decide +kernel, by decide +kernel, by decide +kernel, by decide +kernel⟩
theorem mo_122 : mOK mt_122 0 := ⟨cw_122, kwd_ok (kw_6 ((0, yX8_good), [968, 72, 969]) (List.mem_of_getElem? (i := 2) rfl)), by decide +kernel, by decide +kernel, by decide +kernel, by decide +kernel, by decide +kernel⟩
theorem mo_123 : mOK mt_123 0 := ⟨cw_123, kwd_ok (kw_6 ((0, yX8_told), [972, 72, 973]) (List.mem_of_getElem? (i := 3) rfl)), by decide +kernel, by decide +kernel, by decide +kernel, by decide +kernel, by decide +kernel⟩
theorem mo_124 : mOK mt_124 0 := ⟨cw_124, kwd_ok (kw_6 ((0, yX8_stepOf), [976, 72, 977]) (List.mem_of_getElem? (i := 4) rfl)), by decide +kernel, by decide +kernel, by decide +kernel, by decide +kernel, by decide +kernel⟩
theorem mo_125 : mOK mt_125 0 := ⟨cw_125, kwd_ok (kw_6 ((0, yX8_drop), [980, 72, 981]) (List.mem_of_getElem? (i := 5) rfl)), by decide +kernel, by decide +kernel, by decide +kernel, by decide +kernel, by decide +kernel⟩
theorem mo_126 : mOK mt_126 0 := ⟨cw_126, kwd_ok (kw_6 ((0, yX8_turned), [984, 72, 985]) (List.mem_of_getElem? (i := 6) rfl)), by decide +kernel, by decide +kernel, by decide +kernel, by decide +kernel, by decide +kernel⟩
theorem mo_127 : mOK mt_127 0 := ⟨cw_127, kwd_ok (kw_6 ((0, yX8_pairAt), [993, 72, 39]) (List.mem_of_getElem? (i := 7) rfl)), by decide +kernel, by decide +kernel, by decide +kernel, by decide +kernel, by decide +kernel⟩
theorem mo_128 : mOK mt_128 0 := ⟨cw_128, kwd_ok (kw_6 ((0, yX8_both), [988, 72, 989]) (List.mem_of_getElem? (i := 8) rfl)), by decide +kernel, by decide +kernel, by decide +kernel, by decide +kernel, by decide +kernel⟩
theorem mo_129 : mOK mt_129 0 := ⟨cw_129, kwd_ok (kw_6 ((0, yX8_starts), [1005, 72, 41]) (List.mem_of_getElem? (i := 9) rfl)), by decide +kernel, by decide +kernel, by decide +kernel, by decide +kernel, by decide +kernel⟩
theorem mo_130 : mOK mt_130 0 := ⟨cw_130, kwd_ok (kw_6 ((0, yX8_goes), [1009, 72, 42]) (List.mem_of_getElem? (i := 10) rfl)), by decide +kernel, by decide +kernel, by decide +kernel, by decide +kernel, by decide +kernel⟩
theorem mo_131 : mOK mt_131 0 := ⟨cw_131, kwd_ok (kw_6 ((0, yX8_runs), [1001, 72, 40]) (List.mem_of_getElem? (i := 11) rfl)), by decide +kernel, by decide +kernel, by decide +kernel, by decide +kernel, by decide +kernel⟩
theorem mo_132 : mOK mt_132 0 := ⟨cw_132, kwd_ok (kw_6 ((0, yX8_takes), [996, 72, 997]) (List.mem_of_getElem? (i := 12) rfl)), by decide +kernel, by decide +kernel, by decide +kernel, by decide +kernel, by decide +kernel⟩
theorem mo_133 : mOK mt_133 0 := ⟨cw_133, kwd_ok (kw_6 ((0, yX8_ran), [1012, 72, 1013]) (List.mem_of_getElem? (i := 13) rfl)), by decide +kernel, by decide +kernel, by decide +kernel, by decide +kernel, by decide +kernel⟩
theorem mo_134 : mOK mt_134 0 := ⟨cw_134, kwd_ok (kw_6 ((0, yX8_apart), [1034, 72, 46]) (List.mem_of_getElem? (i := 14) rfl)), by decide +kernel, by decide +kernel, by decide +kernel, by decide +kernel, by decide +kernel⟩
theorem mo_135 : mOK mt_135 0 := ⟨cw_135, kwd_ok (kw_6 ((0, yX8_put), [1050, 72, 50]) (List.mem_of_getElem? (i := 15) rfl)), by decide +kernel, by decide +kernel, by decide +kernel, by decide +kernel, by decide +kernel⟩
theorem mo_136 : mOK mt_136 0 := ⟨cw_136, kwd_ok (kw_6 ((0, yX8_most), [1038, 72, 47]) (List.mem_of_getElem? (i := 16) rfl)), by decide +kernel, by decide +kernel, by decide +kernel, by decide +kernel, by decide +kernel⟩
theorem mo_137 : mOK mt_137 0 := ⟨cw_137, kwd_ok (kw_6 ((0, yX8_goesOn), [1046, 72, 49]) (List.mem_of_getElem? (i := 17) rfl)), by decide +kernel, by decide +kernel, by decide +kernel, by decide +kernel, by decide +kernel⟩
theorem mo_138 : mOK mt_138 0 := ⟨cw_138, kwd_ok (kw_6 ((0, yX8_behind), [1042, 72, 48]) (List.mem_of_getElem? (i := 18) rfl)), by decide +kernel, by decide +kernel, by decide +kernel, by decide +kernel, by decide +kernel⟩
theorem mo_139 : mOK mt_139 0 := ⟨cw_139, kwd_ok (kw_6 ((0, yX8_labelsIn), [1030, 72, 45]) (List.mem_of_getElem? (i := 19) rfl)), by decide +kernel, by decide +kernel, by decide +kernel, by decide +kernel, by decide +kernel⟩
theorem mo_140 : mOK mt_140 0 := ⟨cw_140, kwd_ok (kw_7 ((0, yX8_explores), [1026, 72, 44]) (List.mem_of_getElem? (i := 0) rfl)), by decide +kernel, by decide +kernel, by decide +kernel, by decide +kernel, by decide +kernel⟩
theorem mo_141 : mOK mt_141 0 := ⟨cw_141, kwd_ok (kw_7 ((0, yX8_isGoodA), [1054, 72, 51]) (List.mem_of_getElem? (i := 1) rfl)), by decide +kernel, by decide +kernel, by decide +kernel, by decide +kernel, by decide +kernel⟩
theorem mo_142 : mOK mt_142 0 := ⟨cw_142, kwd_ok (kw_7 ((0, yX8_isGoodB), [1082, 72, 56]) (List.mem_of_getElem? (i := 2) rfl)), by decide +kernel, by decide +kernel, by decide +kernel, by decide +kernel, by decide +kernel⟩
theorem mo_143 : mOK mt_143 0 := ⟨cw_143, kwd_ok (kw_7 ((0, yX8_wanted), [1078, 72, 55]) (List.mem_of_getElem? (i := 3) rfl)), by decide +kernel, by decide +kernel, by decide +kernel, by decide +kernel, by decide +kernel⟩
theorem mo_144 : mOK mt_144 0 := ⟨cw_144, kwd_ok (kw_7 ((0, yX8_lines), [1086, 72, 57]) (List.mem_of_getElem? (i := 4) rfl)), by decide +kernel, by decide +kernel, by decide +kernel, by decide +kernel, by decide +kernel⟩
theorem mo_145 : mOK mt_145 0 := ⟨cw_145, kwd_ok (kw_7 ((0, yX8_tells), [1098, 72, 59]) (List.mem_of_getElem? (i := 5) rfl)), by decide +kernel, by decide +kernel, by decide +kernel, by decide +kernel, by decide +kernel⟩
theorem mo_146 : mOK mt_146 0 := ⟨cw_146, kwd_ok (kw_7 ((0, yX8_keepsReal), [1102, 72, 60]) (List.mem_of_getElem? (i := 6) rfl)), by decide +kernel, by decide +kernel, by decide +kernel, by decide +kernel, by decide +kernel⟩
theorem mo_147 : mOK mt_147 0 := ⟨cw_147, kwd_ok (kw_7 ((0, yX8_lengthOf), [1074, 72, 54]) (List.mem_of_getElem? (i := 7) rfl)), by decide +kernel, by decide +kernel, by decide +kernel, by decide +kernel, by decide +kernel⟩
theorem mo_148 : mOK mt_148 0 := ⟨cw_148, kwd_ok (kw_7 ((0, yX8_atOf), [1094, 72, 58]) (List.mem_of_getElem? (i := 8) rfl)), by decide +kernel, by decide +kernel, by decide +kernel, by decide +kernel, by decide +kernel⟩
theorem mo_149 : mOK mt_149 0 := ⟨cw_149, kwd_ok (kw_7 ((0, yX8_findAlive), [1022, 72, 43]) (List.mem_of_getElem? (i := 9) rfl)), by decide +kernel, by decide +kernel, by decide +kernel, by decide +kernel, by decide +kernel⟩
theorem mo_150 : mOK mt_150 0 := ⟨cw_150, kwd_ok (kw_7 ((0, yX8_leadsOn), [1058, 72, 52]) (List.mem_of_getElem? (i := 10) rfl)), by decide +kernel, by decide +kernel, by decide +kernel, by decide +kernel, by decide +kernel⟩
theorem mo_151 : mOK mt_151 0 := ⟨cw_151, kwd_ok (kw_7 ((0, yX8_orbitOf), [1062, 72, 53]) (List.mem_of_getElem? (i := 11) rfl)), by decide +kernel, by decide +kernel, by decide +kernel, by decide +kernel, by decide +kernel⟩
theorem mo_152 : mOK mt_152 0 := ⟨cw_152, kwd_ok (kw_7 ((0, yX8_doomed), [1017, 72, 1018]) (List.mem_of_getElem? (i := 12) rfl)), by decide +kernel, by decide +kernel, by decide +kernel, by decide +kernel, by decide +kernel⟩
theorem mo_153 : mOK mt_153 0 := ⟨cw_153, kwd_ok (kw_7 ((0, yX8_orbits), [1065, 72, 1066]) (List.mem_of_getElem? (i := 13) rfl)), by decide +kernel, by decide +kernel, by decide +kernel, by decide +kernel, by decide +kernel⟩
theorem mo_154 : mOK mt_154 0 := ⟨cw_154, kwd_ok (kw_7 ((0, yX8_shortest), [1069, 72, 1070]) (List.mem_of_getElem? (i := 14) rfl)), by decide +kernel, by decide +kernel, by decide +kernel, by decide +kernel, by decide +kernel⟩
theorem mo_155 : mOK mt_155 0 := ⟨cw_155, kwd_ok (kw_7 ((0, yX8_shortestAt), [1089, 72, 1090]) (List.mem_of_getElem? (i := 15) rfl)), by decide +kernel, by decide +kernel, by decide +kernel, by decide +kernel, by decide +kernel⟩
theorem mo_156 : mOK mt_156 0 := ⟨cw_156, kwd_ok (kw_7 ((0, yX8_parts), [1105, 72, 1106]) (List.mem_of_getElem? (i := 16) rfl)), by decide +kernel, by decide +kernel, by decide +kernel, by decide +kernel, by decide +kernel⟩
theorem mo_157 : mOK mt_157 0 := ⟨cw_157, kwd_ok (kw_7 ((0, yX8_partsAt), [1109, 72, 1110]) (List.mem_of_getElem? (i := 17) rfl)), by decide +kernel, by decide +kernel, by decide +kernel, by decide +kernel, by decide +kernel⟩
theorem mo_158 : mOK mt_158 0 := ⟨cw_158, kwd_ok (kw_7 ((0, yX8_within), [1113, 72, 1114]) (List.mem_of_getElem? (i := 18) rfl)), by decide +kernel, by decide +kernel, by decide +kernel, by decide +kernel, by decide +kernel⟩
theorem mo_159 : mOK mt_159 0 := ⟨cw_159, kwd_ok (kw_7 ((0, yX8_show), [1117, 72, 1118]) (List.mem_of_getElem? (i := 19) rfl)), by decide +kernel, by decide +kernel, by decide +kernel, by decide +kernel, by decide +kernel⟩
theorem mo_160 : mOK mt_160 0 := ⟨cw_160, kwd_ok (kw_8 ((0, yX8_isDead), [1126, 72, 61]) (List.mem_of_getElem? (i := 0) rfl)), by decide +kernel, by decide +kernel, by decide +kernel, by decide +kernel, by decide +kernel⟩
theorem mo_161 : mOK mt_161 0 := ⟨cw_161, kwd_ok (kw_8 ((0, yX8_watch), [1121, 72, 1122]) (List.mem_of_getElem? (i := 1) rfl)), by decide +kernel, by decide +kernel, by decide +kernel, by decide +kernel, by decide +kernel⟩
theorem mo_162 : mOK mt_162 0 := ⟨cw_162, kwd_ok (kw_8 ((0, yX8_see), [1129, 72, 1130]) (List.mem_of_getElem? (i := 2) rfl)), by decide +kernel, by decide +kernel, by decide +kernel, by decide +kernel, by decide +kernel⟩
theorem mo_163 : mOK mt_163 0 := ⟨cw_163, kwd_ok (kw_8 ((0, yX8_seen), [1133, 72, 1134]) (List.mem_of_getElem? (i := 3) rfl)), by decide +kernel, by decide +kernel, by decide +kernel, by decide +kernel, by decide +kernel⟩
theorem mo_164 : mOK mt_164 1 := ⟨cw_164, kwd_ok (kw_8 ((1, yX8_isSheet), [1141, 72]) (List.mem_of_getElem? (i := 4) rfl)), by decide +kernel, by decide +kernel, by decide +kernel, by decide +kernel, by decide +kernel⟩
theorem mo_165 : mOK mt_165 0 := ⟨cw_165, kwd_ok (kw_8 ((0, yX8_sheet), [1137, 72, 1138]) (List.mem_of_getElem? (i := 5) rfl)), by decide +kernel, by decide +kernel, by decide +kernel, by decide +kernel, by decide +kernel⟩
theorem mo_166 : mOK mt_166 0 := ⟨cw_166, kwd_ok (kw_8 ((0, yX8_lay), [1144, 72, 1145]) (List.mem_of_getElem? (i := 6) rfl)), by decide +kernel, by decide +kernel, by decide +kernel, by decide +kernel, by decide +kernel⟩
theorem mo_167 : mOK mt_167 0 := ⟨cw_167, kwd_ok (kw_8 ((0, yX8_scan), [1148, 72, 1149]) (List.mem_of_getElem? (i := 7) rfl)), by decide +kernel, by decide +kernel, by decide +kernel, by decide +kernel, by decide +kernel⟩
theorem mo_168 : mOK mt_168 0 := ⟨cw_168, kwd_ok (kw_8 ((0, yX8_count), [1154, 72, 1155]) (List.mem_of_getElem? (i := 8) rfl)), by decide +kernel, by decide +kernel, by decide +kernel, by decide +kernel, by decide +kernel⟩
theorem mt_ok : ∀ (y : Nat) (q : MT), mtab[y]? = some q → y ≠ 169 → ∃ k, mkd[y]? = some k ∧ mOK q k := by
  intro y q h hy
  have hlt : y < 170 := (List.getElem?_eq_some_iff.mp h).1
  have H : ∀ x ∈ (mtab.zip mkd).zipIdx, x.2 ≠ 169 → mOK x.1.1 x.1.2 := by
    unfold mtab mkd
    simp only [List.zip_cons_cons, List.zip_nil_right, List.zipIdx_cons, List.zipIdx_nil, List.forall_mem_cons]
    refine ⟨fun _ => mo_0, fun _ => mo_1, fun _ => mo_2, fun _ => mo_3, fun _ => mo_4, fun _ => mo_5, fun _ => mo_6, fun _ => mo_7, fun _ => mo_8, fun _ => mo_9, fun _ => mo_10, fun _ => mo_11, fun _ => mo_12, fun _ => mo_13, fun _ => mo_14, fun _ => mo_15, fun _ => mo_16, fun _ => mo_17, fun _ => mo_18, fun _ => mo_19, fun _ => mo_20, fun _ => mo_21, fun _ => mo_22, fun _ => mo_23, fun _ => mo_24, fun _ => mo_25, fun _ => mo_26, fun _ => mo_27, fun _ => mo_28, fun _ => mo_29, fun _ => mo_30, fun _ => mo_31, fun _ => mo_32, fun _ => mo_33, fun _ => mo_34, fun _ => mo_35, fun _ => mo_36, fun _ => mo_37, fun _ => mo_38, fun _ => mo_39, fun _ => mo_40, fun _ => mo_41, fun _ => mo_42, fun _ => mo_43, fun _ => mo_44, fun _ => mo_45, fun _ => mo_46, fun _ => mo_47, fun _ => mo_48, fun _ => mo_49, fun _ => mo_50, fun _ => mo_51, fun _ => mo_52, fun _ => mo_53, fun _ => mo_54, fun _ => mo_55, fun _ => mo_56, fun _ => mo_57, fun _ => mo_58, fun _ => mo_59, fun _ => mo_60, fun _ => mo_61, fun _ => mo_62, fun _ => mo_63, fun _ => mo_64, fun _ => mo_65, fun _ => mo_66, fun _ => mo_67, fun _ => mo_68, fun _ => mo_69, fun _ => mo_70, fun _ => mo_71, fun _ => mo_72, fun _ => mo_73, fun _ => mo_74, fun _ => mo_75, fun _ => mo_76, fun _ => mo_77, fun _ => mo_78, fun _ => mo_79, fun _ => mo_80, fun _ => mo_81, fun _ => mo_82, fun _ => mo_83, fun _ => mo_84, fun _ => mo_85, fun _ => mo_86, fun _ => mo_87, fun _ => mo_88, fun _ => mo_89, fun _ => mo_90, fun _ => mo_91, fun _ => mo_92, fun _ => mo_93, fun _ => mo_94, fun _ => mo_95, fun _ => mo_96, fun _ => mo_97, fun _ => mo_98, fun _ => mo_99, fun _ => mo_100, fun _ => mo_101, fun _ => mo_102, fun _ => mo_103, fun _ => mo_104, fun _ => mo_105, fun _ => mo_106, fun _ => mo_107, fun _ => mo_108, fun _ => mo_109, fun _ => mo_110, fun _ => mo_111, fun _ => mo_112, fun _ => mo_113, fun _ => mo_114, fun _ => mo_115, fun _ => mo_116, fun _ => mo_117, fun _ => mo_118, fun _ => mo_119, fun _ => mo_120, fun _ => mo_121, fun _ => mo_122, fun _ => mo_123, fun _ => mo_124, fun _ => mo_125, fun _ => mo_126, fun _ => mo_127, fun _ => mo_128, fun _ => mo_129, fun _ => mo_130, fun _ => mo_131, fun _ => mo_132, fun _ => mo_133, fun _ => mo_134, fun _ => mo_135, fun _ => mo_136, fun _ => mo_137, fun _ => mo_138, fun _ => mo_139, fun _ => mo_140, fun _ => mo_141, fun _ => mo_142, fun _ => mo_143, fun _ => mo_144, fun _ => mo_145, fun _ => mo_146, fun _ => mo_147, fun _ => mo_148, fun _ => mo_149, fun _ => mo_150, fun _ => mo_151, fun _ => mo_152, fun _ => mo_153, fun _ => mo_154, fun _ => mo_155, fun _ => mo_156, fun _ => mo_157, fun _ => mo_158, fun _ => mo_159, fun _ => mo_160, fun _ => mo_161, fun _ => mo_162, fun _ => mo_163, fun _ => mo_164, fun _ => mo_165, fun _ => mo_166, fun _ => mo_167, fun _ => mo_168, fun h => absurd rfl h, ?_⟩
    intro x hx
    cases hx
  obtain ⟨k, hk⟩ : ∃ k, mkd[y]? = some k := ⟨_, List.getElem?_eq_getElem (by show y < 170; exact hlt)⟩
  refine ⟨k, hk, H ((q, k), y) (List.mem_zipIdx_iff_getElem?.mpr ?_) hy⟩
  rw [List.getElem?_zip_eq_some]
  exact ⟨h, hk⟩
def mlP : List ((Nat × Nat × Nat) × Nat) := [((0, 39, 1), 119), ((0, 49, 3), 439), ((0, 53, 15), 634), ((0, 56, 12), 638), ((1, 30, 1), 480), ((1, 34, 19), 481), ((1, 38, 18), 485), ((1, 42, 7), 491), ((1, 46, 20), 492), ((1, 49, 8), 495), ((1, 56, 4), 489), ((1, 66, 6), 490), ((3, 28, 31), 512), ((3, 32, 4), 516), ((3, 41, 30), 517), ((3, 48, 33), 613), ((3, 52, 12), 618), ((3, 56, 40), 617), ((4, 22, 37), 748), ((5, 72, 42), 541), ((5, 75, 43), 545), ((5, 79, 45), 549), ((5, 83, 7), 561), ((5, 89, 44), 562), ((5, 93, 46), 565), ((5, 97, 47), 553), ((5, 101, 48), 557), ((5, 105, 4), 569), ((5, 113, 49), 570), ((5, 122, 50), 575), ((5, 124, 51), 579), ((5, 138, 28), 656), ((5, 144, 29), 657), ((5, 148, 41), 537), ((5, 151, 55), 583), ((5, 155, 56), 587), ((5, 159, 10), 598), ((5, 162, 40), 602), ((5, 165, 11), 605), ((5, 177, 57), 594), ((6, 29, 28), 696), ((6, 32, 32), 697), ((6, 36, 60), 710), ((6, 40, 29), 714), ((6, 50, 7), 715), ((7, 11, 21), 84), ((7, 43, 0), 115), ((7, 90, 24), 362), ((7, 94, 23), 370), ((7, 101, 22), 378), ((7, 104, 25), 382), ((7, 108, 76), 394), ((7, 112, 1), 398), ((7, 116, 77), 399), ((7, 120, 75), 411), ((7, 124, 3), 415), ((7, 127, 5), 419), ((7, 130, 4), 423), ((7, 137, 6), 427), ((7, 141, 78), 403), ((7, 144, 7), 435), ((7, 147, 8), 440), ((7, 157, 9), 448), ((7, 167, 2), 464), ((7, 171, 17), 475), ((7, 175, 82), 500), ((7, 188, 83), 529), ((7, 191, 28), 504), ((7, 193, 32), 609), ((7, 203, 29), 508), ((7, 210, 54), 533), ((7, 214, 13), 626), ((7, 217, 14), 630), ((7, 220, 91), 643), ((7, 223, 92), 662), ((7, 227, 41), 647), ((7, 231, 26), 682), ((7, 235, 52), 648), ((7, 239, 53), 652), ((7, 243, 59), 692), ((7, 245, 96), 702), ((7, 249, 61), 706), ((7, 262, 101), 724), ((7, 266, 35), 728), ((7, 267, 36), 736), ((7, 271, 37), 740), ((7, 274, 38), 744), ((7, 280, 100), 753), ((7, 287, 103), 761), ((7, 290, 104), 766), ((7, 293, 60), 765), ((7, 296, 105), 770), ((8, 109, 107), 912), ((8, 117, 110), 923), ((8, 124, 113), 952), ((8, 128, 114), 948), ((8, 132, 116), 956), ((8, 137, 118), 936), ((8, 144, 117), 944), ((8, 148, 120), 960), ((8, 151, 115), 964), ((8, 155, 127), 991), ((8, 165, 129), 1003), ((8, 168, 130), 1007), ((8, 172, 131), 999), ((8, 184, 134), 1032), ((8, 188, 137), 1044), ((8, 192, 135), 1048), ((8, 196, 136), 1036), ((8, 202, 139), 1028), ((8, 205, 138), 1040), ((8, 208, 140), 1024), ((8, 211, 141), 1052), ((8, 214, 142), 1080), ((8, 223, 146), 1100), ((8, 226, 143), 1076), ((8, 229, 144), 1084), ((8, 232, 147), 1072), ((8, 235, 145), 1096), ((8, 238, 150), 1056), ((8, 241, 149), 1020), ((8, 244, 151), 1060), ((8, 248, 148), 1092), ((8, 251, 160), 1124), ((8, 254, 164), 1140), ((8, 259, 108), 1152), ((9, 9, 62), 76), ((9, 12, 106), 776), ((9, 13, 63), 358), ((9, 17, 108), 907), ((9, 18, 64), 366), ((9, 22, 109), 915), ((9, 23, 65), 374), ((9, 26, 111), 919), ((9, 27, 66), 386), ((9, 31, 112), 927), ((9, 32, 67), 390), ((9, 35, 119), 931), ((9, 36, 68), 407), ((9, 40, 121), 940), ((9, 41, 69), 431), ((9, 45, 122), 967), ((9, 46, 70), 444), ((9, 49, 123), 971), ((9, 50, 71), 452), ((9, 54, 124), 975), ((9, 55, 72), 456), ((9, 58, 125), 979), ((9, 59, 73), 460), ((9, 62, 126), 983), ((9, 63, 74), 471), ((9, 67, 128), 987), ((9, 68, 79), 496), ((9, 71, 132), 995), ((9, 72, 80), 521), ((9, 75, 133), 1011), ((9, 76, 81), 525), ((9, 79, 152), 1016), ((9, 80, 84), 622), ((9, 83, 153), 1064), ((9, 84, 85), 639), ((9, 87, 154), 1068), ((9, 88, 86), 658), ((9, 91, 155), 1088), ((9, 92, 87), 666), ((9, 95, 156), 1104), ((9, 96, 88), 670), ((9, 100, 157), 1108), ((9, 101, 89), 674), ((9, 104, 158), 1112), ((9, 105, 90), 678), ((9, 108, 159), 1116), ((9, 109, 93), 688), ((9, 112, 161), 1120), ((9, 113, 94), 698), ((9, 116, 162), 1128), ((9, 117, 95), 716), ((9, 120, 163), 1132), ((9, 121, 97), 720), ((9, 124, 165), 1136), ((9, 125, 98), 732), ((9, 128, 166), 1143), ((9, 129, 99), 749), ((9, 132, 167), 1147), ((9, 133, 102), 757), ((9, 136, 168), 1153)]
theorem ml_eq : mlP.map (fun x => x.1) = mlT := by decide +kernel
theorem ml_ok : ∀ x ∈ mlP, lw_tbl[x.2]? = some (Cond.methodLink (cnm x.1.1) x.1.2.1 (mnm x.1.2.2)) := by decide +kernel
def nlP : List ((Nat × Nat × Nat) × Nat) := [((5, 64, 27), 213), ((6, 11, 27), 275), ((7, 50, 16), 166), ((7, 57, 27), 179), ((7, 64, 39), 208), ((7, 88, 58), 270), ((7, 89, 34), 293)]
theorem nl_eq : nlP.map (fun x => x.1) = nlT := by decide +kernel
theorem nl_ok : ∀ x ∈ nlP, lw_tbl[x.2]? = some (Cond.methodLinkNest (cnm x.1.1) x.1.2.1 (mnm x.1.2.2) "NameRows") := by decide +kernel
def klP : List ((Nat × Nat × Nat) × List Nat) := [((5, 62, 3), [212, 178, 68]), ((6, 9, 3), [274, 178, 68]), ((7, 7, 2), [82, 83, 64]), ((7, 18, 0), [108, 114, 66]), ((7, 28, 6), [110, 269, 70]), ((7, 37, 4), [112, 292, 71]), ((7, 48, 1), [164, 165, 67]), ((7, 55, 3), [177, 178, 68]), ((7, 62, 5), [206, 207, 69]), ((9, 7, 7), [74, 75, 63]), ((9, 10, 8), [774, 775, 72])]
def klw (q : Nat × Nat × Nat) : List Cond := match cls9[q.2.2]? with
  | some r => [.classLink (cnm q.1) q.2.1 r.1, .instantiable r.1 r.2.2, .initialized r.1]
  | none => []
theorem kl_eq : klP.map (fun x => x.1) = klT := by decide +kernel
theorem kl_ok : ∀ x ∈ klP, klw x.1 = x.2.filterMap (fun i => lw_tbl[i]?) ∧ (klw x.1).all goodWord = true ∧ (cls9[x.1.2.2]?).isSome = true := by decide +kernel
def qlP : List ((Nat × Nat × Nat) × List Nat) := [((7, 18, 2), [108]), ((7, 28, 3), [110]), ((7, 37, 4), [112])]
def qlc (t : Nat) : String := match t with
  | 2 => RX0
  | 3 => RX6
  | _ => RX4
theorem ql_eq : qlP.map (fun x => x.1) = qlT := by decide +kernel
theorem ql_ok : ∀ x ∈ qlP, [Cond.classLink (cnm x.1.1) x.1.2.1 (qlc x.1.2.2)] = x.2.filterMap (fun i => lw_tbl[i]?) ∧ (x.1.2.2 = 2 ∨ x.1.2.2 = 3 ∨ x.1.2.2 = 4) := by decide +kernel
def llP : List ((Nat × Nat × Nat) × Nat) := [((8, 107, 2), 911), ((8, 135, 6), 935), ((8, 176, 3), 1015), ((8, 257, 30), 1151)]
theorem ll_eq : llP.map (fun x => x.1) = llT := by decide +kernel
theorem ll_ok : ∀ x ∈ llP, lw_tbl[x.2]? = some (Cond.constantLong (cnm x.1.1) x.1.2.1 (Int64.ofNat x.1.2.2)) ∧ goodWord (Cond.constantLong (cnm x.1.1) x.1.2.1 (Int64.ofNat x.1.2.2)) = true := by decide +kernel
def olP : List ((Nat × Nat) × Nat) := [((0, 3), 118), ((1, 3), 169), ((2, 3), 87), ((3, 3), 182), ((4, 3), 296), ((5, 5), 211), ((6, 3), 273), ((7, 1), 79), ((8, 1), 779)]
theorem ol_eq : olP.map (fun x => x.1) = olT := by decide +kernel
theorem ol_ok : ∀ x ∈ olP, lw_tbl[x.2]? = some (Cond.methodLink (cnm x.1.1) x.1.2 objectInit) := by decide +kernel
def alP : List ((Nat × Nat) × Nat) := [((0, 43), 468), ((2, 31), 687), ((5, 116), 574)]
theorem al_eq : alP.map (fun x => x.1) = alT := by decide +kernel
theorem al_ok : ∀ x ∈ alP, lw_tbl[x.2]? = some (Cond.methodLink (cnm x.1.1) x.1.2 arraycopyName) := by decide +kernel
def xnm (t : Nat) : MethodName := match t with
  | 1001 => Lib.Math.max.name
  | _ => Lib.Math.min.name
def xlP : List ((Nat × Nat × Nat) × Nat) := [((1, 24, 1001), 479), ((2, 15, 1001), 88), ((2, 28, 1002), 686), ((5, 172, 1002), 591)]
theorem xl_eq : xlP.map (fun x => x.1) = xlT := by decide +kernel
theorem xl_ok : ∀ x ∈ xlP, lw_tbl[x.2]? = some (Cond.methodLink (cnm x.1.1) x.1.2.1 (xnm x.1.2.2)) ∧ (x.1.2.2 = 1001 ∨ x.1.2.2 = 1002) := by decide +kernel
theorem w_oi : Cond.instanceMethod objectInit ∈ gtbl := gt_of (i := 80) (by decide +kernel) rfl
theorem w_oc : Cond.code objectInit ⟨#[0xb1]⟩ 1 none ∈ gtbl := List.mem_filter.mpr ⟨tb_in1 (List.mem_of_getElem? (i := 19) rfl), rfl⟩
theorem w_mxc : Cond.code Lib.Math.max.name Lib.Math.max.code 2 (some .int) ∈ gtbl := List.mem_filter.mpr ⟨tb_in1 (List.mem_of_getElem? (i := 28) rfl), rfl⟩
theorem w_mnc : Cond.code Lib.Math.min.name Lib.Math.min.code 2 (some .int) ∈ gtbl := List.mem_filter.mpr ⟨tb_in3 (List.mem_of_getElem? (i := 51) rfl), rfl⟩
theorem w_mxs : Cond.static Lib.Math.max.name ∈ gtbl := gt_of (i := 89) (by decide +kernel) rfl
theorem w_mns : Cond.static Lib.Math.min.name ∈ gtbl := gt_of (i := 592) (by decide +kernel) rfl
theorem w_mi : Cond.initialized "java/lang/Math" ∈ gtbl := gt_of (i := 65) (by decide +kernel) rfl
theorem w_an : Cond.native arraycopyName ∈ gtbl := gt_of (i := 470) (by decide +kernel) rfl
theorem w_as : Cond.static arraycopyName ∈ gtbl := gt_of (i := 469) (by decide +kernel) rfl
theorem w_ai : Cond.initialized "java/lang/System" ∈ gtbl := gt_of (i := 73) (by decide +kernel) rfl
theorem w_ci : Cond.arrayClass .int ∈ gtbl := gt_of (i := 107) (by decide +kernel) rfl
theorem w_cz : Cond.arrayClass .boolean ∈ gtbl := gt_of (i := 163) (by decide +kernel) rfl
end
section
/-! ===== the code tables are the methods' bytes, their operands the tables' links ===== -/
def lenI (i : Instr) (r : Nat × (Nat × Nat)) : Nat := match i with
  | .bipush _ => 2
  | .iload _ => 2
  | .aload _ => 2
  | .lload _ => 2
  | .istore _ => 2
  | .astore _ => 2
  | .lstore _ => 2
  | .newarray _ => 2
  | .sipush _ => 3
  | .ldc2_w _ => 3
  | .iinc _ _ => 3
  | .goto _ => 3
  | .if_icmp _ _ => 3
  | .ifCond _ _ => 3
  | .ifnull _ => 3
  | .ifnonnull _ => 3
  | .getfield _ => 3
  | .putfield _ => 3
  | .invokevirtual _ => 3
  | .invokestatic _ => 3
  | .invokespecial _ => 3
  | .new _ => 3
  | .anewarray _ => 3
  | .tableswitch _ _ _ _ => r.1
  | _ => 1
def fkOk (ci k kd : Nat) : Bool := match tyT ci k, kd with
  | .int, 0 => true
  | .boolean, 2 => true
  | .object _, 1 => true
  | .array _, 1 => true
  | _, _ => false
def npar (y : Nat) : Option Nat := (parseMethodDescriptor (mnm y).desc).map (fun d => d.parameters.length)
def ffin (own : Nat) (ini : Bool) (ci k : Nat) : Bool := match cls9[ci]? with
  | some q => !(q.2.1 k).2.2.2 || (ini && decide ((q.2.1 k).1 = cnm own))
  | none => false
def lk (own : Nat) (ini : Bool) (i : Instr) (r : Nat × (Nat × Nat)) : Bool := match i with
  | .getfield x => flT.elem (own, x, r.1, r.2.1)
  | .putfield x => flT.elem (own, x, r.1, r.2.1) && (fkOk r.1 r.2.1 r.2.2 && ffin own ini r.1 r.2.1)
  | .new x => klT.elem (own, x, r.1)
  | .anewarray x => qlT.elem (own, x, r.1)
  | .ldc2_w x => llT.elem (own, x, r.1)
  | .invokevirtual x => mlT.elem (own, x, r.1) && (decide (mkd[r.1]? = some 0) && (decide (npar r.1 = some r.2.1) && decide (r.1 < 169)))
  | .invokestatic x => bif Nat.beq r.1 1000 then alT.elem (own, x) else bif Nat.beq r.1 1001 || Nat.beq r.1 1002 then xlT.elem (own, x, r.1) else mlT.elem (own, x, r.1) && (decide (mkd[r.1]? = some 1) && (decide (npar r.1 = some r.2.1) && decide (r.1 < 169)))
  | .invokespecial x => bif Nat.beq r.1 1000 then olT.elem (own, x) else (mlT.elem (own, x, r.1) || nlT.elem (own, x, r.1)) && (decide (mkd[r.1]? = some 2) && (decide (npar r.1 = some r.2.1) && decide (r.1 < 169)))
  | _ => true
def mini (q : MT) : Bool := decide (q.1.1.name = "<init>")
def ckE (q : MT) (x : Option IE × Nat) : Bool := match x.1 with
  | none => true
  | some (i, r) => decide (decode q.1.2.1 x.2 = .ok (i, lenI i r)) && lk q.2.1 (mini q) i r
def ckm (q : MT) (a n : Nat) : Bool := ((q.2.2.1.zipIdx.drop a).take n).all (ckE q)
theorem dfl_ok : ∀ (ci : Nat) (q : vw_C), cls9[ci]? = some q → (dfl ci).length = q.2.2 ∧ ∀ j, j < q.2.2 → defaultValue (tyT ci j) = vp_V (dfl ci) j
  | 0, q, h => by cases h; exact ⟨rfl, by decide +kernel⟩
  | 1, q, h => by cases h; exact ⟨rfl, by decide +kernel⟩
  | 2, q, h => by cases h; exact ⟨rfl, by decide +kernel⟩
  | 3, q, h => by cases h; exact ⟨rfl, by decide +kernel⟩
  | 4, q, h => by cases h; exact ⟨rfl, by decide +kernel⟩
  | 5, q, h => by cases h; exact ⟨rfl, by decide +kernel⟩
  | 6, q, h => by cases h; exact ⟨rfl, by decide +kernel⟩
  | 7, q, h => by cases h; exact ⟨rfl, by decide +kernel⟩
  | 8, q, h => by cases h; exact ⟨rfl, by decide +kernel⟩
  | n + 9, q, h => by simp [cls9] at h
theorem ck_0_0 : ckm mt_0 0 200 = true := by decide +kernel
theorem ck_1_0 : ckm mt_1 0 200 = true := by decide +kernel
theorem ck_2_0 : ckm mt_2 0 200 = true := by decide +kernel
theorem ck_3_0 : ckm mt_3 0 200 = true := by decide +kernel
theorem ck_4_0 : ckm mt_4 0 200 = true := by decide +kernel
theorem ck_5_0 : ckm mt_5 0 200 = true := by decide +kernel
theorem ck_6_0 : ckm mt_6 0 200 = true := by decide +kernel
theorem ck_7_0 : ckm mt_7 0 200 = true := by decide +kernel
theorem ck_8_0 : ckm mt_8 0 200 = true := by decide +kernel
theorem ck_9_0 : ckm mt_9 0 200 = true := by decide +kernel
theorem ck_10_0 : ckm mt_10 0 200 = true := by decide +kernel
theorem ck_11_0 : ckm mt_11 0 200 = true := by decide +kernel
theorem ck_12_0 : ckm mt_12 0 200 = true := by decide +kernel
theorem ck_13_0 : ckm mt_13 0 200 = true := by decide +kernel
theorem ck_14_0 : ckm mt_14 0 200 = true := by decide +kernel
theorem ck_15_0 : ckm mt_15 0 200 = true := by decide +kernel
theorem ck_16_0 : ckm mt_16 0 200 = true := by decide +kernel
theorem ck_17_0 : ckm mt_17 0 200 = true := by decide +kernel
theorem ck_18_0 : ckm mt_18 0 200 = true := by decide +kernel
theorem ck_19_0 : ckm mt_19 0 200 = true := by decide +kernel
theorem ck_20_0 : ckm mt_20 0 200 = true := by decide +kernel
theorem ck_21_0 : ckm mt_21 0 200 = true := by decide +kernel
theorem ck_22_0 : ckm mt_22 0 200 = true := by decide +kernel
theorem ck_23_0 : ckm mt_23 0 200 = true := by decide +kernel
theorem ck_24_0 : ckm mt_24 0 200 = true := by decide +kernel
theorem ck_25_0 : ckm mt_25 0 200 = true := by decide +kernel
theorem ck_26_0 : ckm mt_26 0 200 = true := by decide +kernel
theorem ck_27_0 : ckm mt_27 0 200 = true := by decide +kernel
theorem ck_28_0 : ckm mt_28 0 200 = true := by decide +kernel
theorem ck_29_0 : ckm mt_29 0 200 = true := by decide +kernel
theorem ck_30_0 : ckm mt_30 0 200 = true := by decide +kernel
theorem ck_31_0 : ckm mt_31 0 200 = true := by decide +kernel
theorem ck_32_0 : ckm mt_32 0 200 = true := by decide +kernel
theorem ck_33_0 : ckm mt_33 0 200 = true := by decide +kernel
theorem ck_34_0 : ckm mt_34 0 200 = true := by decide +kernel
theorem ck_35_0 : ckm mt_35 0 200 = true := by decide +kernel
theorem ck_36_0 : ckm mt_36 0 200 = true := by decide +kernel
theorem ck_37_0 : ckm mt_37 0 200 = true := by decide +kernel
theorem ck_38_0 : ckm mt_38 0 200 = true := by decide +kernel
theorem ck_39_0 : ckm mt_39 0 200 = true := by decide +kernel
theorem ck_40_0 : ckm mt_40 0 200 = true := by decide +kernel
theorem ck_41_0 : ckm mt_41 0 200 = true := by decide +kernel
theorem ck_42_0 : ckm mt_42 0 200 = true := by decide +kernel
theorem ck_43_0 : ckm mt_43 0 200 = true := by decide +kernel
theorem ck_44_0 : ckm mt_44 0 200 = true := by decide +kernel
theorem ck_45_0 : ckm mt_45 0 200 = true := by decide +kernel
theorem ck_46_0 : ckm mt_46 0 200 = true := by decide +kernel
theorem ck_47_0 : ckm mt_47 0 200 = true := by decide +kernel
theorem ck_48_0 : ckm mt_48 0 200 = true := by decide +kernel
theorem ck_49_0 : ckm mt_49 0 200 = true := by decide +kernel
theorem ck_50_0 : ckm mt_50 0 200 = true := by decide +kernel
theorem ck_51_0 : ckm mt_51 0 200 = true := by decide +kernel
theorem ck_52_0 : ckm mt_52 0 200 = true := by decide +kernel
theorem ck_53_0 : ckm mt_53 0 200 = true := by decide +kernel
theorem ck_54_0 : ckm mt_54 0 200 = true := by decide +kernel
theorem ck_55_0 : ckm mt_55 0 200 = true := by decide +kernel
theorem ck_56_0 : ckm mt_56 0 200 = true := by decide +kernel
theorem ck_57_0 : ckm mt_57 0 200 = true := by decide +kernel
theorem ck_58_0 : ckm mt_58 0 200 = true := by decide +kernel
theorem ck_59_0 : ckm mt_59 0 200 = true := by decide +kernel
theorem ck_60_0 : ckm mt_60 0 200 = true := by decide +kernel
theorem ck_61_0 : ckm mt_61 0 200 = true := by decide +kernel
theorem ck_62_0 : ckm mt_62 0 200 = true := by decide +kernel
theorem ck_62_1 : ckm mt_62 200 200 = true := by decide +kernel
theorem ck_63_0 : ckm mt_63 0 200 = true := by decide +kernel
theorem ck_64_0 : ckm mt_64 0 200 = true := by decide +kernel
theorem ck_65_0 : ckm mt_65 0 200 = true := by decide +kernel
theorem ck_66_0 : ckm mt_66 0 200 = true := by decide +kernel
theorem ck_67_0 : ckm mt_67 0 200 = true := by decide +kernel
theorem ck_68_0 : ckm mt_68 0 200 = true := by decide +kernel
theorem ck_69_0 : ckm mt_69 0 200 = true := by decide +kernel
theorem ck_70_0 : ckm mt_70 0 200 = true := by decide +kernel
theorem ck_71_0 : ckm mt_71 0 200 = true := by decide +kernel
theorem ck_72_0 : ckm mt_72 0 200 = true := by decide +kernel
theorem ck_73_0 : ckm mt_73 0 200 = true := by decide +kernel
theorem ck_74_0 : ckm mt_74 0 200 = true := by decide +kernel
theorem ck_75_0 : ckm mt_75 0 200 = true := by decide +kernel
theorem ck_76_0 : ckm mt_76 0 200 = true := by decide +kernel
theorem ck_77_0 : ckm mt_77 0 200 = true := by decide +kernel
theorem ck_78_0 : ckm mt_78 0 200 = true := by decide +kernel
theorem ck_79_0 : ckm mt_79 0 200 = true := by decide +kernel
theorem ck_80_0 : ckm mt_80 0 200 = true := by decide +kernel
theorem ck_81_0 : ckm mt_81 0 200 = true := by decide +kernel
theorem ck_82_0 : ckm mt_82 0 200 = true := by decide +kernel
theorem ck_83_0 : ckm mt_83 0 200 = true := by decide +kernel
theorem ck_84_0 : ckm mt_84 0 200 = true := by decide +kernel
theorem ck_85_0 : ckm mt_85 0 200 = true := by decide +kernel
theorem ck_86_0 : ckm mt_86 0 200 = true := by decide +kernel
theorem ck_87_0 : ckm mt_87 0 200 = true := by decide +kernel
theorem ck_88_0 : ckm mt_88 0 200 = true := by decide +kernel
theorem ck_89_0 : ckm mt_89 0 200 = true := by decide +kernel
theorem ck_90_0 : ckm mt_90 0 200 = true := by decide +kernel
theorem ck_91_0 : ckm mt_91 0 200 = true := by decide +kernel
theorem ck_92_0 : ckm mt_92 0 200 = true := by decide +kernel
theorem ck_93_0 : ckm mt_93 0 200 = true := by decide +kernel
theorem ck_94_0 : ckm mt_94 0 200 = true := by decide +kernel
theorem ck_95_0 : ckm mt_95 0 200 = true := by decide +kernel
theorem ck_96_0 : ckm mt_96 0 200 = true := by decide +kernel
theorem ck_97_0 : ckm mt_97 0 200 = true := by decide +kernel
theorem ck_98_0 : ckm mt_98 0 200 = true := by decide +kernel
theorem ck_99_0 : ckm mt_99 0 200 = true := by decide +kernel
theorem ck_100_0 : ckm mt_100 0 200 = true := by decide +kernel
theorem ck_101_0 : ckm mt_101 0 200 = true := by decide +kernel
theorem ck_102_0 : ckm mt_102 0 200 = true := by decide +kernel
theorem ck_103_0 : ckm mt_103 0 200 = true := by decide +kernel
theorem ck_104_0 : ckm mt_104 0 200 = true := by decide +kernel
theorem ck_105_0 : ckm mt_105 0 200 = true := by decide +kernel
theorem ck_106_0 : ckm mt_106 0 200 = true := by decide +kernel
theorem ck_106_1 : ckm mt_106 200 200 = true := by decide +kernel
theorem ck_107_0 : ckm mt_107 0 200 = true := by decide +kernel
theorem ck_108_0 : ckm mt_108 0 200 = true := by decide +kernel
theorem ck_109_0 : ckm mt_109 0 200 = true := by decide +kernel
theorem ck_110_0 : ckm mt_110 0 200 = true := by decide +kernel
theorem ck_111_0 : ckm mt_111 0 200 = true := by decide +kernel
theorem ck_112_0 : ckm mt_112 0 200 = true := by decide +kernel
theorem ck_113_0 : ckm mt_113 0 200 = true := by decide +kernel
theorem ck_114_0 : ckm mt_114 0 200 = true := by decide +kernel
theorem ck_115_0 : ckm mt_115 0 200 = true := by decide +kernel
theorem ck_116_0 : ckm mt_116 0 200 = true := by decide +kernel
theorem ck_117_0 : ckm mt_117 0 200 = true := by decide +kernel
theorem ck_118_0 : ckm mt_118 0 200 = true := by decide +kernel
theorem ck_119_0 : ckm mt_119 0 200 = true := by decide +kernel
theorem ck_120_0 : ckm mt_120 0 200 = true := by decide +kernel
theorem ck_121_0 : ckm mt_121 0 200 = true := by decide +kernel
theorem ck_122_0 : ckm mt_122 0 200 = true := by decide +kernel
theorem ck_123_0 : ckm mt_123 0 200 = true := by decide +kernel
theorem ck_124_0 : ckm mt_124 0 200 = true := by decide +kernel
theorem ck_125_0 : ckm mt_125 0 200 = true := by decide +kernel
theorem ck_126_0 : ckm mt_126 0 200 = true := by decide +kernel
theorem ck_127_0 : ckm mt_127 0 200 = true := by decide +kernel
theorem ck_128_0 : ckm mt_128 0 200 = true := by decide +kernel
theorem ck_128_1 : ckm mt_128 200 200 = true := by decide +kernel
theorem ck_128_2 : ckm mt_128 400 200 = true := by decide +kernel
theorem ck_129_0 : ckm mt_129 0 200 = true := by decide +kernel
theorem ck_130_0 : ckm mt_130 0 200 = true := by decide +kernel
theorem ck_131_0 : ckm mt_131 0 200 = true := by decide +kernel
theorem ck_132_0 : ckm mt_132 0 200 = true := by decide +kernel
theorem ck_133_0 : ckm mt_133 0 200 = true := by decide +kernel
theorem ck_134_0 : ckm mt_134 0 200 = true := by decide +kernel
theorem ck_135_0 : ckm mt_135 0 200 = true := by decide +kernel
theorem ck_136_0 : ckm mt_136 0 200 = true := by decide +kernel
theorem ck_137_0 : ckm mt_137 0 200 = true := by decide +kernel
theorem ck_138_0 : ckm mt_138 0 200 = true := by decide +kernel
theorem ck_139_0 : ckm mt_139 0 200 = true := by decide +kernel
theorem ck_140_0 : ckm mt_140 0 200 = true := by decide +kernel
theorem ck_141_0 : ckm mt_141 0 200 = true := by decide +kernel
theorem ck_142_0 : ckm mt_142 0 200 = true := by decide +kernel
theorem ck_143_0 : ckm mt_143 0 200 = true := by decide +kernel
theorem ck_144_0 : ckm mt_144 0 200 = true := by decide +kernel
theorem ck_145_0 : ckm mt_145 0 200 = true := by decide +kernel
theorem ck_146_0 : ckm mt_146 0 200 = true := by decide +kernel
theorem ck_147_0 : ckm mt_147 0 200 = true := by decide +kernel
theorem ck_148_0 : ckm mt_148 0 200 = true := by decide +kernel
theorem ck_149_0 : ckm mt_149 0 200 = true := by decide +kernel
theorem ck_150_0 : ckm mt_150 0 200 = true := by decide +kernel
theorem ck_151_0 : ckm mt_151 0 200 = true := by decide +kernel
theorem ck_152_0 : ckm mt_152 0 200 = true := by decide +kernel
theorem ck_153_0 : ckm mt_153 0 200 = true := by decide +kernel
theorem ck_154_0 : ckm mt_154 0 200 = true := by decide +kernel
theorem ck_155_0 : ckm mt_155 0 200 = true := by decide +kernel
theorem ck_156_0 : ckm mt_156 0 200 = true := by decide +kernel
theorem ck_157_0 : ckm mt_157 0 200 = true := by decide +kernel
theorem ck_158_0 : ckm mt_158 0 200 = true := by decide +kernel
theorem ck_159_0 : ckm mt_159 0 200 = true := by decide +kernel
theorem ck_160_0 : ckm mt_160 0 200 = true := by decide +kernel
theorem ck_161_0 : ckm mt_161 0 200 = true := by decide +kernel
theorem ck_162_0 : ckm mt_162 0 200 = true := by decide +kernel
theorem ck_162_1 : ckm mt_162 200 200 = true := by decide +kernel
theorem ck_163_0 : ckm mt_163 0 200 = true := by decide +kernel
theorem ck_164_0 : ckm mt_164 0 200 = true := by decide +kernel
theorem ck_165_0 : ckm mt_165 0 200 = true := by decide +kernel
theorem ck_166_0 : ckm mt_166 0 200 = true := by decide +kernel
theorem ck_167_0 : ckm mt_167 0 200 = true := by decide +kernel
theorem ck_167_1 : ckm mt_167 200 200 = true := by decide +kernel
theorem ck_168_0 : ckm mt_168 0 200 = true := by decide +kernel
theorem ck_169_0 : ckm mt_169 0 200 = true := by decide +kernel
theorem ck_169_1 : ckm mt_169 200 200 = true := by decide +kernel
theorem ck_169_2 : ckm mt_169 400 200 = true := by decide +kernel
theorem ck_169_3 : ckm mt_169 600 200 = true := by decide +kernel
theorem ck_169_4 : ckm mt_169 800 200 = true := by decide +kernel
theorem ck_169_5 : ckm mt_169 1000 200 = true := by decide +kernel
theorem ck_169_6 : ckm mt_169 1200 200 = true := by decide +kernel
end
section
theorem ckm_all {q : MT} : ∀ (cs : List Nat) , (∀ a ∈ cs, ckm q a 200 = true) → ∀ (pc : Nat) (e : Option IE), q.2.2.1[pc]? = some e → (pc / 200) * 200 ∈ cs → ckE q (e, pc) = true := by
  intro cs h pc e he hm
  have h1 := h _ hm
  unfold ckm at h1
  refine List.all_eq_true.mp h1 (e, pc) ?_
  rw [List.mem_iff_getElem?]
  refine ⟨pc % 200, ?_⟩
  have hlt : pc % 200 < 200 := Nat.mod_lt _ (by decide)
  have hz : pc / 200 * 200 + pc % 200 = pc := by omega
  simp only [List.getElem?_take, List.getElem?_drop, hz]
  rw [if_pos hlt, List.getElem?_zipIdx, he]
  simp
theorem ckx {q : MT} {n : Nat} {cs : List Nat} (hn : q.2.2.1.length = n ∧ ∀ k, k < n → (k / 200) * 200 ∈ cs) (h : ∀ a ∈ cs, ckm q a 200 = true) : ∀ (pc : Nat) (e : Option IE), q.2.2.1[pc]? = some e → ckE q (e, pc) = true := fun pc e he => ckm_all cs h pc e he (hn.2 pc (by rw [← hn.1]; exact (List.getElem?_eq_some_iff.mp he).1))
set_option maxRecDepth 100000 in
theorem ck_all : ∀ (y : Nat) (q : MT), mtab[y]? = some q → ∀ (pc : Nat) (i : Instr) (r : Nat × (Nat × Nat)), q.2.2.1[pc]? = some (some (i, r)) → decode q.1.2.1 pc = .ok (i, lenI i r) ∧ lk q.2.1 (mini q) i r = true := by
  have H : ∀ q ∈ mtab, ∀ (pc : Nat) (e : Option IE), q.2.2.1[pc]? = some e → ckE q (e, pc) = true := by
    unfold mtab
    simp only [List.forall_mem_cons]
    exact ⟨ckx (n := 63) (by decide +kernel) (cs := [0]) (List.forall_mem_cons.mpr ⟨ck_0_0, fun _ h => absurd h List.not_mem_nil⟩), ckx (n := 77) (by decide +kernel) (cs := [0]) (List.forall_mem_cons.mpr ⟨ck_1_0, fun _ h => absurd h List.not_mem_nil⟩), ckx (n := 85) (by decide +kernel) (cs := [0]) (List.forall_mem_cons.mpr ⟨ck_2_0, fun _ h => absurd h List.not_mem_nil⟩), ckx (n := 18) (by decide +kernel) (cs := [0]) (List.forall_mem_cons.mpr ⟨ck_3_0, fun _ h => absurd h List.not_mem_nil⟩), ckx (n := 77) (by decide +kernel) (cs := [0]) (List.forall_mem_cons.mpr ⟨ck_4_0, fun _ h => absurd h List.not_mem_nil⟩), ckx (n := 24) (by decide +kernel) (cs := [0]) (List.forall_mem_cons.mpr ⟨ck_5_0, fun _ h => absurd h List.not_mem_nil⟩), ckx (n := 33) (by decide +kernel) (cs := [0]) (List.forall_mem_cons.mpr ⟨ck_6_0, fun _ h => absurd h List.not_mem_nil⟩), ckx (n := 23) (by decide +kernel) (cs := [0]) (List.forall_mem_cons.mpr ⟨ck_7_0, fun _ h => absurd h List.not_mem_nil⟩), ckx (n := 21) (by decide +kernel) (cs := [0]) (List.forall_mem_cons.mpr ⟨ck_8_0, fun _ h => absurd h List.not_mem_nil⟩), ckx (n := 32) (by decide +kernel) (cs := [0]) (List.forall_mem_cons.mpr ⟨ck_9_0, fun _ h => absurd h List.not_mem_nil⟩), ckx (n := 25) (by decide +kernel) (cs := [0]) (List.forall_mem_cons.mpr ⟨ck_10_0, fun _ h => absurd h List.not_mem_nil⟩), ckx (n := 31) (by decide +kernel) (cs := [0]) (List.forall_mem_cons.mpr ⟨ck_11_0, fun _ h => absurd h List.not_mem_nil⟩), ckx (n := 34) (by decide +kernel) (cs := [0]) (List.forall_mem_cons.mpr ⟨ck_12_0, fun _ h => absurd h List.not_mem_nil⟩), ckx (n := 34) (by decide +kernel) (cs := [0]) (List.forall_mem_cons.mpr ⟨ck_13_0, fun _ h => absurd h List.not_mem_nil⟩), ckx (n := 31) (by decide +kernel) (cs := [0]) (List.forall_mem_cons.mpr ⟨ck_14_0, fun _ h => absurd h List.not_mem_nil⟩), ckx (n := 27) (by decide +kernel) (cs := [0]) (List.forall_mem_cons.mpr ⟨ck_15_0, fun _ h => absurd h List.not_mem_nil⟩), ckx (n := 18) (by decide +kernel) (cs := [0]) (List.forall_mem_cons.mpr ⟨ck_16_0, fun _ h => absurd h List.not_mem_nil⟩), ckx (n := 116) (by decide +kernel) (cs := [0]) (List.forall_mem_cons.mpr ⟨ck_17_0, fun _ h => absurd h List.not_mem_nil⟩), ckx (n := 197) (by decide +kernel) (cs := [0]) (List.forall_mem_cons.mpr ⟨ck_18_0, fun _ h => absurd h List.not_mem_nil⟩), ckx (n := 67) (by decide +kernel) (cs := [0]) (List.forall_mem_cons.mpr ⟨ck_19_0, fun _ h => absurd h List.not_mem_nil⟩), ckx (n := 50) (by decide +kernel) (cs := [0]) (List.forall_mem_cons.mpr ⟨ck_20_0, fun _ h => absurd h List.not_mem_nil⟩), ckx (n := 30) (by decide +kernel) (cs := [0]) (List.forall_mem_cons.mpr ⟨ck_21_0, fun _ h => absurd h List.not_mem_nil⟩), ckx (n := 18) (by decide +kernel) (cs := [0]) (List.forall_mem_cons.mpr ⟨ck_22_0, fun _ h => absurd h List.not_mem_nil⟩), ckx (n := 18) (by decide +kernel) (cs := [0]) (List.forall_mem_cons.mpr ⟨ck_23_0, fun _ h => absurd h List.not_mem_nil⟩), ckx (n := 61) (by decide +kernel) (cs := [0]) (List.forall_mem_cons.mpr ⟨ck_24_0, fun _ h => absurd h List.not_mem_nil⟩), ckx (n := 32) (by decide +kernel) (cs := [0]) (List.forall_mem_cons.mpr ⟨ck_25_0, fun _ h => absurd h List.not_mem_nil⟩), ckx (n := 51) (by decide +kernel) (cs := [0]) (List.forall_mem_cons.mpr ⟨ck_26_0, fun _ h => absurd h List.not_mem_nil⟩), ckx (n := 35) (by decide +kernel) (cs := [0]) (List.forall_mem_cons.mpr ⟨ck_27_0, fun _ h => absurd h List.not_mem_nil⟩), ckx (n := 45) (by decide +kernel) (cs := [0]) (List.forall_mem_cons.mpr ⟨ck_28_0, fun _ h => absurd h List.not_mem_nil⟩), ckx (n := 63) (by decide +kernel) (cs := [0]) (List.forall_mem_cons.mpr ⟨ck_29_0, fun _ h => absurd h List.not_mem_nil⟩), ckx (n := 27) (by decide +kernel) (cs := [0]) (List.forall_mem_cons.mpr ⟨ck_30_0, fun _ h => absurd h List.not_mem_nil⟩), ckx (n := 38) (by decide +kernel) (cs := [0]) (List.forall_mem_cons.mpr ⟨ck_31_0, fun _ h => absurd h List.not_mem_nil⟩), ckx (n := 22) (by decide +kernel) (cs := [0]) (List.forall_mem_cons.mpr ⟨ck_32_0, fun _ h => absurd h List.not_mem_nil⟩), ckx (n := 76) (by decide +kernel) (cs := [0]) (List.forall_mem_cons.mpr ⟨ck_33_0, fun _ h => absurd h List.not_mem_nil⟩), ckx (n := 24) (by decide +kernel) (cs := [0]) (List.forall_mem_cons.mpr ⟨ck_34_0, fun _ h => absurd h List.not_mem_nil⟩), ckx (n := 35) (by decide +kernel) (cs := [0]) (List.forall_mem_cons.mpr ⟨ck_35_0, fun _ h => absurd h List.not_mem_nil⟩), ckx (n := 15) (by decide +kernel) (cs := [0]) (List.forall_mem_cons.mpr ⟨ck_36_0, fun _ h => absurd h List.not_mem_nil⟩), ckx (n := 18) (by decide +kernel) (cs := [0]) (List.forall_mem_cons.mpr ⟨ck_37_0, fun _ h => absurd h List.not_mem_nil⟩), ckx (n := 41) (by decide +kernel) (cs := [0]) (List.forall_mem_cons.mpr ⟨ck_38_0, fun _ h => absurd h List.not_mem_nil⟩), ckx (n := 142) (by decide +kernel) (cs := [0]) (List.forall_mem_cons.mpr ⟨ck_39_0, fun _ h => absurd h List.not_mem_nil⟩), ckx (n := 6) (by decide +kernel) (cs := [0]) (List.forall_mem_cons.mpr ⟨ck_40_0, fun _ h => absurd h List.not_mem_nil⟩), ckx (n := 106) (by decide +kernel) (cs := [0]) (List.forall_mem_cons.mpr ⟨ck_41_0, fun _ h => absurd h List.not_mem_nil⟩), ckx (n := 34) (by decide +kernel) (cs := [0]) (List.forall_mem_cons.mpr ⟨ck_42_0, fun _ h => absurd h List.not_mem_nil⟩), ckx (n := 82) (by decide +kernel) (cs := [0]) (List.forall_mem_cons.mpr ⟨ck_43_0, fun _ h => absurd h List.not_mem_nil⟩), ckx (n := 35) (by decide +kernel) (cs := [0]) (List.forall_mem_cons.mpr ⟨ck_44_0, fun _ h => absurd h List.not_mem_nil⟩), ckx (n := 119) (by decide +kernel) (cs := [0]) (List.forall_mem_cons.mpr ⟨ck_45_0, fun _ h => absurd h List.not_mem_nil⟩), ckx (n := 131) (by decide +kernel) (cs := [0]) (List.forall_mem_cons.mpr ⟨ck_46_0, fun _ h => absurd h List.not_mem_nil⟩), ckx (n := 48) (by decide +kernel) (cs := [0]) (List.forall_mem_cons.mpr ⟨ck_47_0, fun _ h => absurd h List.not_mem_nil⟩), ckx (n := 29) (by decide +kernel) (cs := [0]) (List.forall_mem_cons.mpr ⟨ck_48_0, fun _ h => absurd h List.not_mem_nil⟩), ckx (n := 112) (by decide +kernel) (cs := [0]) (List.forall_mem_cons.mpr ⟨ck_49_0, fun _ h => absurd h List.not_mem_nil⟩), ckx (n := 19) (by decide +kernel) (cs := [0]) (List.forall_mem_cons.mpr ⟨ck_50_0, fun _ h => absurd h List.not_mem_nil⟩), ckx (n := 49) (by decide +kernel) (cs := [0]) (List.forall_mem_cons.mpr ⟨ck_51_0, fun _ h => absurd h List.not_mem_nil⟩), ckx (n := 123) (by decide +kernel) (cs := [0]) (List.forall_mem_cons.mpr ⟨ck_52_0, fun _ h => absurd h List.not_mem_nil⟩), ckx (n := 150) (by decide +kernel) (cs := [0]) (List.forall_mem_cons.mpr ⟨ck_53_0, fun _ h => absurd h List.not_mem_nil⟩), ckx (n := 162) (by decide +kernel) (cs := [0]) (List.forall_mem_cons.mpr ⟨ck_54_0, fun _ h => absurd h List.not_mem_nil⟩), ckx (n := 66) (by decide +kernel) (cs := [0]) (List.forall_mem_cons.mpr ⟨ck_55_0, fun _ h => absurd h List.not_mem_nil⟩), ckx (n := 52) (by decide +kernel) (cs := [0]) (List.forall_mem_cons.mpr ⟨ck_56_0, fun _ h => absurd h List.not_mem_nil⟩), ckx (n := 49) (by decide +kernel) (cs := [0]) (List.forall_mem_cons.mpr ⟨ck_57_0, fun _ h => absurd h List.not_mem_nil⟩), ckx (n := 32) (by decide +kernel) (cs := [0]) (List.forall_mem_cons.mpr ⟨ck_58_0, fun _ h => absurd h List.not_mem_nil⟩), ckx (n := 39) (by decide +kernel) (cs := [0]) (List.forall_mem_cons.mpr ⟨ck_59_0, fun _ h => absurd h List.not_mem_nil⟩), ckx (n := 15) (by decide +kernel) (cs := [0]) (List.forall_mem_cons.mpr ⟨ck_60_0, fun _ h => absurd h List.not_mem_nil⟩), ckx (n := 89) (by decide +kernel) (cs := [0]) (List.forall_mem_cons.mpr ⟨ck_61_0, fun _ h => absurd h List.not_mem_nil⟩), ckx (n := 230) (by decide +kernel) (cs := [0, 200]) (List.forall_mem_cons.mpr ⟨ck_62_0, List.forall_mem_cons.mpr ⟨ck_62_1, fun _ h => absurd h List.not_mem_nil⟩⟩), ckx (n := 10) (by decide +kernel) (cs := [0]) (List.forall_mem_cons.mpr ⟨ck_63_0, fun _ h => absurd h List.not_mem_nil⟩), ckx (n := 31) (by decide +kernel) (cs := [0]) (List.forall_mem_cons.mpr ⟨ck_64_0, fun _ h => absurd h List.not_mem_nil⟩), ckx (n := 24) (by decide +kernel) (cs := [0]) (List.forall_mem_cons.mpr ⟨ck_65_0, fun _ h => absurd h List.not_mem_nil⟩), ckx (n := 38) (by decide +kernel) (cs := [0]) (List.forall_mem_cons.mpr ⟨ck_66_0, fun _ h => absurd h List.not_mem_nil⟩), ckx (n := 36) (by decide +kernel) (cs := [0]) (List.forall_mem_cons.mpr ⟨ck_67_0, fun _ h => absurd h List.not_mem_nil⟩), ckx (n := 80) (by decide +kernel) (cs := [0]) (List.forall_mem_cons.mpr ⟨ck_68_0, fun _ h => absurd h List.not_mem_nil⟩), ckx (n := 64) (by decide +kernel) (cs := [0]) (List.forall_mem_cons.mpr ⟨ck_69_0, fun _ h => absurd h List.not_mem_nil⟩), ckx (n := 57) (by decide +kernel) (cs := [0]) (List.forall_mem_cons.mpr ⟨ck_70_0, fun _ h => absurd h List.not_mem_nil⟩), ckx (n := 68) (by decide +kernel) (cs := [0]) (List.forall_mem_cons.mpr ⟨ck_71_0, fun _ h => absurd h List.not_mem_nil⟩), ckx (n := 47) (by decide +kernel) (cs := [0]) (List.forall_mem_cons.mpr ⟨ck_72_0, fun _ h => absurd h List.not_mem_nil⟩), ckx (n := 25) (by decide +kernel) (cs := [0]) (List.forall_mem_cons.mpr ⟨ck_73_0, fun _ h => absurd h List.not_mem_nil⟩), ckx (n := 83) (by decide +kernel) (cs := [0]) (List.forall_mem_cons.mpr ⟨ck_74_0, fun _ h => absurd h List.not_mem_nil⟩), ckx (n := 23) (by decide +kernel) (cs := [0]) (List.forall_mem_cons.mpr ⟨ck_75_0, fun _ h => absurd h List.not_mem_nil⟩), ckx (n := 10) (by decide +kernel) (cs := [0]) (List.forall_mem_cons.mpr ⟨ck_76_0, fun _ h => absurd h List.not_mem_nil⟩), ckx (n := 33) (by decide +kernel) (cs := [0]) (List.forall_mem_cons.mpr ⟨ck_77_0, fun _ h => absurd h List.not_mem_nil⟩), ckx (n := 12) (by decide +kernel) (cs := [0]) (List.forall_mem_cons.mpr ⟨ck_78_0, fun _ h => absurd h List.not_mem_nil⟩), ckx (n := 49) (by decide +kernel) (cs := [0]) (List.forall_mem_cons.mpr ⟨ck_79_0, fun _ h => absurd h List.not_mem_nil⟩), ckx (n := 102) (by decide +kernel) (cs := [0]) (List.forall_mem_cons.mpr ⟨ck_80_0, fun _ h => absurd h List.not_mem_nil⟩), ckx (n := 106) (by decide +kernel) (cs := [0]) (List.forall_mem_cons.mpr ⟨ck_81_0, fun _ h => absurd h List.not_mem_nil⟩), ckx (n := 58) (by decide +kernel) (cs := [0]) (List.forall_mem_cons.mpr ⟨ck_82_0, fun _ h => absurd h List.not_mem_nil⟩), ckx (n := 20) (by decide +kernel) (cs := [0]) (List.forall_mem_cons.mpr ⟨ck_83_0, fun _ h => absurd h List.not_mem_nil⟩), ckx (n := 69) (by decide +kernel) (cs := [0]) (List.forall_mem_cons.mpr ⟨ck_84_0, fun _ h => absurd h List.not_mem_nil⟩), ckx (n := 8) (by decide +kernel) (cs := [0]) (List.forall_mem_cons.mpr ⟨ck_85_0, fun _ h => absurd h List.not_mem_nil⟩), ckx (n := 10) (by decide +kernel) (cs := [0]) (List.forall_mem_cons.mpr ⟨ck_86_0, fun _ h => absurd h List.not_mem_nil⟩), ckx (n := 19) (by decide +kernel) (cs := [0]) (List.forall_mem_cons.mpr ⟨ck_87_0, fun _ h => absurd h List.not_mem_nil⟩), ckx (n := 22) (by decide +kernel) (cs := [0]) (List.forall_mem_cons.mpr ⟨ck_88_0, fun _ h => absurd h List.not_mem_nil⟩), ckx (n := 46) (by decide +kernel) (cs := [0]) (List.forall_mem_cons.mpr ⟨ck_89_0, fun _ h => absurd h List.not_mem_nil⟩), ckx (n := 33) (by decide +kernel) (cs := [0]) (List.forall_mem_cons.mpr ⟨ck_90_0, fun _ h => absurd h List.not_mem_nil⟩), ckx (n := 147) (by decide +kernel) (cs := [0]) (List.forall_mem_cons.mpr ⟨ck_91_0, fun _ h => absurd h List.not_mem_nil⟩), ckx (n := 65) (by decide +kernel) (cs := [0]) (List.forall_mem_cons.mpr ⟨ck_92_0, fun _ h => absurd h List.not_mem_nil⟩), ckx (n := 63) (by decide +kernel) (cs := [0]) (List.forall_mem_cons.mpr ⟨ck_93_0, fun _ h => absurd h List.not_mem_nil⟩), ckx (n := 31) (by decide +kernel) (cs := [0]) (List.forall_mem_cons.mpr ⟨ck_94_0, fun _ h => absurd h List.not_mem_nil⟩), ckx (n := 72) (by decide +kernel) (cs := [0]) (List.forall_mem_cons.mpr ⟨ck_95_0, fun _ h => absurd h List.not_mem_nil⟩), ckx (n := 23) (by decide +kernel) (cs := [0]) (List.forall_mem_cons.mpr ⟨ck_96_0, fun _ h => absurd h List.not_mem_nil⟩), ckx (n := 45) (by decide +kernel) (cs := [0]) (List.forall_mem_cons.mpr ⟨ck_97_0, fun _ h => absurd h List.not_mem_nil⟩), ckx (n := 46) (by decide +kernel) (cs := [0]) (List.forall_mem_cons.mpr ⟨ck_98_0, fun _ h => absurd h List.not_mem_nil⟩), ckx (n := 122) (by decide +kernel) (cs := [0]) (List.forall_mem_cons.mpr ⟨ck_99_0, fun _ h => absurd h List.not_mem_nil⟩), ckx (n := 56) (by decide +kernel) (cs := [0]) (List.forall_mem_cons.mpr ⟨ck_100_0, fun _ h => absurd h List.not_mem_nil⟩), ckx (n := 24) (by decide +kernel) (cs := [0]) (List.forall_mem_cons.mpr ⟨ck_101_0, fun _ h => absurd h List.not_mem_nil⟩), ckx (n := 66) (by decide +kernel) (cs := [0]) (List.forall_mem_cons.mpr ⟨ck_102_0, fun _ h => absurd h List.not_mem_nil⟩), ckx (n := 35) (by decide +kernel) (cs := [0]) (List.forall_mem_cons.mpr ⟨ck_103_0, fun _ h => absurd h List.not_mem_nil⟩), ckx (n := 48) (by decide +kernel) (cs := [0]) (List.forall_mem_cons.mpr ⟨ck_104_0, fun _ h => absurd h List.not_mem_nil⟩), ckx (n := 42) (by decide +kernel) (cs := [0]) (List.forall_mem_cons.mpr ⟨ck_105_0, fun _ h => absurd h List.not_mem_nil⟩), ckx (n := 278) (by decide +kernel) (cs := [0, 200]) (List.forall_mem_cons.mpr ⟨ck_106_0, List.forall_mem_cons.mpr ⟨ck_106_1, fun _ h => absurd h List.not_mem_nil⟩⟩), ckx (n := 19) (by decide +kernel) (cs := [0]) (List.forall_mem_cons.mpr ⟨ck_107_0, fun _ h => absurd h List.not_mem_nil⟩), ckx (n := 61) (by decide +kernel) (cs := [0]) (List.forall_mem_cons.mpr ⟨ck_108_0, fun _ h => absurd h List.not_mem_nil⟩), ckx (n := 28) (by decide +kernel) (cs := [0]) (List.forall_mem_cons.mpr ⟨ck_109_0, fun _ h => absurd h List.not_mem_nil⟩), ckx (n := 25) (by decide +kernel) (cs := [0]) (List.forall_mem_cons.mpr ⟨ck_110_0, fun _ h => absurd h List.not_mem_nil⟩), ckx (n := 26) (by decide +kernel) (cs := [0]) (List.forall_mem_cons.mpr ⟨ck_111_0, fun _ h => absurd h List.not_mem_nil⟩), ckx (n := 37) (by decide +kernel) (cs := [0]) (List.forall_mem_cons.mpr ⟨ck_112_0, fun _ h => absurd h List.not_mem_nil⟩), ckx (n := 14) (by decide +kernel) (cs := [0]) (List.forall_mem_cons.mpr ⟨ck_113_0, fun _ h => absurd h List.not_mem_nil⟩), ckx (n := 32) (by decide +kernel) (cs := [0]) (List.forall_mem_cons.mpr ⟨ck_114_0, fun _ h => absurd h List.not_mem_nil⟩), ckx (n := 16) (by decide +kernel) (cs := [0]) (List.forall_mem_cons.mpr ⟨ck_115_0, fun _ h => absurd h List.not_mem_nil⟩), ckx (n := 29) (by decide +kernel) (cs := [0]) (List.forall_mem_cons.mpr ⟨ck_116_0, fun _ h => absurd h List.not_mem_nil⟩), ckx (n := 37) (by decide +kernel) (cs := [0]) (List.forall_mem_cons.mpr ⟨ck_117_0, fun _ h => absurd h List.not_mem_nil⟩), ckx (n := 100) (by decide +kernel) (cs := [0]) (List.forall_mem_cons.mpr ⟨ck_118_0, fun _ h => absurd h List.not_mem_nil⟩), ckx (n := 65) (by decide +kernel) (cs := [0]) (List.forall_mem_cons.mpr ⟨ck_119_0, fun _ h => absurd h List.not_mem_nil⟩), ckx (n := 40) (by decide +kernel) (cs := [0]) (List.forall_mem_cons.mpr ⟨ck_120_0, fun _ h => absurd h List.not_mem_nil⟩), ckx (n := 93) (by decide +kernel) (cs := [0]) (List.forall_mem_cons.mpr ⟨ck_121_0, fun _ h => absurd h List.not_mem_nil⟩), ckx (n := 58) (by decide +kernel) (cs := [0]) (List.forall_mem_cons.mpr ⟨ck_122_0, fun _ h => absurd h List.not_mem_nil⟩), ckx (n := 96) (by decide +kernel) (cs := [0]) (List.forall_mem_cons.mpr ⟨ck_123_0, fun _ h => absurd h List.not_mem_nil⟩), ckx (n := 58) (by decide +kernel) (cs := [0]) (List.forall_mem_cons.mpr ⟨ck_124_0, fun _ h => absurd h List.not_mem_nil⟩), ckx (n := 41) (by decide +kernel) (cs := [0]) (List.forall_mem_cons.mpr ⟨ck_125_0, fun _ h => absurd h List.not_mem_nil⟩), ckx (n := 162) (by decide +kernel) (cs := [0]) (List.forall_mem_cons.mpr ⟨ck_126_0, fun _ h => absurd h List.not_mem_nil⟩), ckx (n := 25) (by decide +kernel) (cs := [0]) (List.forall_mem_cons.mpr ⟨ck_127_0, fun _ h => absurd h List.not_mem_nil⟩), ckx (n := 569) (by decide +kernel) (cs := [0, 200, 400]) (List.forall_mem_cons.mpr ⟨ck_128_0, List.forall_mem_cons.mpr ⟨ck_128_1, List.forall_mem_cons.mpr ⟨ck_128_2, fun _ h => absurd h List.not_mem_nil⟩⟩⟩), ckx (n := 40) (by decide +kernel) (cs := [0]) (List.forall_mem_cons.mpr ⟨ck_129_0, fun _ h => absurd h List.not_mem_nil⟩), ckx (n := 130) (by decide +kernel) (cs := [0]) (List.forall_mem_cons.mpr ⟨ck_130_0, fun _ h => absurd h List.not_mem_nil⟩), ckx (n := 36) (by decide +kernel) (cs := [0]) (List.forall_mem_cons.mpr ⟨ck_131_0, fun _ h => absurd h List.not_mem_nil⟩), ckx (n := 53) (by decide +kernel) (cs := [0]) (List.forall_mem_cons.mpr ⟨ck_132_0, fun _ h => absurd h List.not_mem_nil⟩), ckx (n := 74) (by decide +kernel) (cs := [0]) (List.forall_mem_cons.mpr ⟨ck_133_0, fun _ h => absurd h List.not_mem_nil⟩), ckx (n := 44) (by decide +kernel) (cs := [0]) (List.forall_mem_cons.mpr ⟨ck_134_0, fun _ h => absurd h List.not_mem_nil⟩), ckx (n := 113) (by decide +kernel) (cs := [0]) (List.forall_mem_cons.mpr ⟨ck_135_0, fun _ h => absurd h List.not_mem_nil⟩), ckx (n := 38) (by decide +kernel) (cs := [0]) (List.forall_mem_cons.mpr ⟨ck_136_0, fun _ h => absurd h List.not_mem_nil⟩), ckx (n := 82) (by decide +kernel) (cs := [0]) (List.forall_mem_cons.mpr ⟨ck_137_0, fun _ h => absurd h List.not_mem_nil⟩), ckx (n := 64) (by decide +kernel) (cs := [0]) (List.forall_mem_cons.mpr ⟨ck_138_0, fun _ h => absurd h List.not_mem_nil⟩), ckx (n := 10) (by decide +kernel) (cs := [0]) (List.forall_mem_cons.mpr ⟨ck_139_0, fun _ h => absurd h List.not_mem_nil⟩), ckx (n := 199) (by decide +kernel) (cs := [0]) (List.forall_mem_cons.mpr ⟨ck_140_0, fun _ h => absurd h List.not_mem_nil⟩), ckx (n := 20) (by decide +kernel) (cs := [0]) (List.forall_mem_cons.mpr ⟨ck_141_0, fun _ h => absurd h List.not_mem_nil⟩), ckx (n := 20) (by decide +kernel) (cs := [0]) (List.forall_mem_cons.mpr ⟨ck_142_0, fun _ h => absurd h List.not_mem_nil⟩), ckx (n := 75) (by decide +kernel) (cs := [0]) (List.forall_mem_cons.mpr ⟨ck_143_0, fun _ h => absurd h List.not_mem_nil⟩), ckx (n := 70) (by decide +kernel) (cs := [0]) (List.forall_mem_cons.mpr ⟨ck_144_0, fun _ h => absurd h List.not_mem_nil⟩), ckx (n := 179) (by decide +kernel) (cs := [0]) (List.forall_mem_cons.mpr ⟨ck_145_0, fun _ h => absurd h List.not_mem_nil⟩), ckx (n := 74) (by decide +kernel) (cs := [0]) (List.forall_mem_cons.mpr ⟨ck_146_0, fun _ h => absurd h List.not_mem_nil⟩), ckx (n := 24) (by decide +kernel) (cs := [0]) (List.forall_mem_cons.mpr ⟨ck_147_0, fun _ h => absurd h List.not_mem_nil⟩), ckx (n := 59) (by decide +kernel) (cs := [0]) (List.forall_mem_cons.mpr ⟨ck_148_0, fun _ h => absurd h List.not_mem_nil⟩), ckx (n := 115) (by decide +kernel) (cs := [0]) (List.forall_mem_cons.mpr ⟨ck_149_0, fun _ h => absurd h List.not_mem_nil⟩), ckx (n := 80) (by decide +kernel) (cs := [0]) (List.forall_mem_cons.mpr ⟨ck_150_0, fun _ h => absurd h List.not_mem_nil⟩), ckx (n := 74) (by decide +kernel) (cs := [0]) (List.forall_mem_cons.mpr ⟨ck_151_0, fun _ h => absurd h List.not_mem_nil⟩), ckx (n := 106) (by decide +kernel) (cs := [0]) (List.forall_mem_cons.mpr ⟨ck_152_0, fun _ h => absurd h List.not_mem_nil⟩), ckx (n := 149) (by decide +kernel) (cs := [0]) (List.forall_mem_cons.mpr ⟨ck_153_0, fun _ h => absurd h List.not_mem_nil⟩), ckx (n := 20) (by decide +kernel) (cs := [0]) (List.forall_mem_cons.mpr ⟨ck_154_0, fun _ h => absurd h List.not_mem_nil⟩), ckx (n := 22) (by decide +kernel) (cs := [0]) (List.forall_mem_cons.mpr ⟨ck_155_0, fun _ h => absurd h List.not_mem_nil⟩), ckx (n := 27) (by decide +kernel) (cs := [0]) (List.forall_mem_cons.mpr ⟨ck_156_0, fun _ h => absurd h List.not_mem_nil⟩), ckx (n := 30) (by decide +kernel) (cs := [0]) (List.forall_mem_cons.mpr ⟨ck_157_0, fun _ h => absurd h List.not_mem_nil⟩), ckx (n := 94) (by decide +kernel) (cs := [0]) (List.forall_mem_cons.mpr ⟨ck_158_0, fun _ h => absurd h List.not_mem_nil⟩), ckx (n := 101) (by decide +kernel) (cs := [0]) (List.forall_mem_cons.mpr ⟨ck_159_0, fun _ h => absurd h List.not_mem_nil⟩), ckx (n := 70) (by decide +kernel) (cs := [0]) (List.forall_mem_cons.mpr ⟨ck_160_0, fun _ h => absurd h List.not_mem_nil⟩), ckx (n := 106) (by decide +kernel) (cs := [0]) (List.forall_mem_cons.mpr ⟨ck_161_0, fun _ h => absurd h List.not_mem_nil⟩), ckx (n := 263) (by decide +kernel) (cs := [0, 200]) (List.forall_mem_cons.mpr ⟨ck_162_0, List.forall_mem_cons.mpr ⟨ck_162_1, fun _ h => absurd h List.not_mem_nil⟩⟩), ckx (n := 80) (by decide +kernel) (cs := [0]) (List.forall_mem_cons.mpr ⟨ck_163_0, fun _ h => absurd h List.not_mem_nil⟩), ckx (n := 30) (by decide +kernel) (cs := [0]) (List.forall_mem_cons.mpr ⟨ck_164_0, fun _ h => absurd h List.not_mem_nil⟩), ckx (n := 68) (by decide +kernel) (cs := [0]) (List.forall_mem_cons.mpr ⟨ck_165_0, fun _ h => absurd h List.not_mem_nil⟩), ckx (n := 88) (by decide +kernel) (cs := [0]) (List.forall_mem_cons.mpr ⟨ck_166_0, fun _ h => absurd h List.not_mem_nil⟩), ckx (n := 206) (by decide +kernel) (cs := [0, 200]) (List.forall_mem_cons.mpr ⟨ck_167_0, List.forall_mem_cons.mpr ⟨ck_167_1, fun _ h => absurd h List.not_mem_nil⟩⟩), ckx (n := 161) (by decide +kernel) (cs := [0]) (List.forall_mem_cons.mpr ⟨ck_168_0, fun _ h => absurd h List.not_mem_nil⟩), ckx (n := 1217) (by decide +kernel) (cs := [0, 200, 400, 600, 800, 1000, 1200]) (List.forall_mem_cons.mpr ⟨ck_169_0, List.forall_mem_cons.mpr ⟨ck_169_1, List.forall_mem_cons.mpr ⟨ck_169_2, List.forall_mem_cons.mpr ⟨ck_169_3, List.forall_mem_cons.mpr ⟨ck_169_4, List.forall_mem_cons.mpr ⟨ck_169_5, List.forall_mem_cons.mpr ⟨ck_169_6, fun _ h => absurd h List.not_mem_nil⟩⟩⟩⟩⟩⟩⟩), fun _ h => absurd h List.not_mem_nil⟩
  intro y q hq pc i r hi
  have h1 := H q (List.mem_of_getElem? hq) pc _ hi
  unfold ckE at h1
  simp only [Bool.and_eq_true, decide_eq_true_eq] at h1
  exact h1
end
section
/-! ===== the world: our heap beside the machine's ===== -/
abbrev tys (dA : Nat → ClassId) : List (ClassId × FieldType) := [(dA 0, .int), (dA 1, .boolean), (dA 2, .object RX0), (dA 3, .object RX6), (dA 4, .object RX4)]
def atC (G : va_G) (dA : Nat → ClassId) (s : State) (a : Nat) (e : AC) (H : Heap) : Prop := match e with
  | .inl (t, (n, f)) => if t = 2 then va_X a n f s H else t < 2 ∧ H[a]? = some (vp_cell (dA t) (n, .inl f))
  | .inr (.inl (t, (n, g))) => (t = 2 ∨ t = 3 ∨ t = 4) ∧ H[a]? = some (vp_cell (dA t) (n, .inr (.inr (.inr (.inr g)))))
  | .inr (.inr (ci, fs)) => va_at G cls9 (a, .inr (ci, fs)) H
theorem atC.kept {G : va_G} {dA : Nat → ClassId} {s : State} {a : Nat} {e : AC} {H H1 : Heap} (h : atC G dA s a e H) (hq : H1[a]? = H[a]?) : atC G dA s a e H1 := by
  rcases e with ⟨t, n, f⟩ | ⟨t, n, g⟩ | ⟨ci, fs⟩
  · unfold atC at h ⊢
    dsimp only at h ⊢
    by_cases ht : t = 2
    · rw [if_pos ht] at h ⊢
      exact h.kept hq
    · rw [if_neg ht] at h ⊢
      exact ⟨h.1, hq.trans h.2⟩
  · exact ⟨h.1, hq.trans h.2⟩
  · exact va_at.kept (q := (a, .inr (ci, fs))) h hq
theorem atC.lt {G : va_G} {dA : Nat → ClassId} {s : State} {a : Nat} {e : AC} {H : Heap} (h : atC G dA s a e H) : a < H.size := by
  rcases e with ⟨t, n, f⟩ | ⟨t, n, g⟩ | ⟨ci, fs⟩
  · unfold atC at h
    dsimp only at h
    by_cases ht : t = 2
    · rw [if_pos ht] at h
      obtain ⟨scr, h1, -⟩ := h
      exact (Array.getElem?_eq_some_iff.mp h1).1
    · rw [if_neg ht] at h
      exact (Array.getElem?_eq_some_iff.mp h.2).1
  · exact (Array.getElem?_eq_some_iff.mp h.2).1
  · exact va_at.lt (q := (a, .inr (ci, fs))) h
theorem atC.moved {G : va_G} {dA : Nat → ClassId} {u U : State} {a : Nat} {e : AC} {H : Heap} (hvm : u.vm.Alike U.vm) (h : atC G dA u a e H) : atC G dA U a e H := by
  rcases e with ⟨t, n, f⟩ | ⟨t, n, g⟩ | ⟨ci, fs⟩
  · unfold atC at h ⊢
    dsimp only at h ⊢
    by_cases ht : t = 2
    · rw [if_pos ht] at h ⊢
      exact h.moved hvm
    · rw [if_neg ht] at h ⊢
      exact h
  · exact h
  · exact h
def WD (G : va_G) (dA : Nat → ClassId) (lo : Nat) (s : State) (h : AH) (H : Heap) : Prop := (H.size = h.2.1 ∧ lo ≤ H.size) ∧ ∀ (a : Nat) (e : AC), h.1 a = some e → atC G dA s a e H ∧ (lo ≤ a ∨ ∃ n f, e = aI 2 n f)
theorem WD.moved {G : va_G} {dA : Nat → ClassId} {lo : Nat} {u U : State} {h : AH} {H : Heap} (hvm : u.vm.Alike U.vm) (hW : WD G dA lo u h H) : WD G dA lo U h H := ⟨hW.1, fun a e he => ⟨(hW.2 a e he).1.moved hvm, (hW.2 a e he).2⟩⟩
theorem WD.set {G : va_G} {dA : Nat → ClassId} {lo : Nat} {s : State} {h : AH} {H H1 : Heap} {a : Nat} {e0 e : AC} (hW : WD G dA lo s h H) (ha : h.1 a = some e0) (h0 : ∀ n f, e0 ≠ aI 2 n f) (hnew : atC G dA s a e H1) (hz : H1.size = H.size) (ho : ∀ q : Nat, q ≠ a → H1[q]? = H[q]?) : WD G dA lo s (hS h a e) H1 := by
  refine ⟨by rw [hz]; exact hW.1, fun b eb hb => ?_⟩
  unfold hS at hb
  dsimp only at hb
  by_cases hba : b = a
  · subst hba
    rw [if_pos rfl] at hb
    cases hb
    exact ⟨hnew, Or.inl ((hW.2 b e0 ha).2.resolve_right (fun ⟨n, f, q⟩ => h0 n f q))⟩
  · rw [if_neg hba] at hb
    obtain ⟨h1, h2⟩ := hW.2 b eb hb
    exact ⟨h1.kept (ho b hba), h2⟩
theorem WD.lo {G : va_G} {dA : Nat → ClassId} {lo : Nat} {s : State} {h : AH} {H : Heap} {a : Nat} {e0 : AC} (hW : WD G dA lo s h H) (ha : h.1 a = some e0) (h0 : ∀ n f, e0 ≠ aI 2 n f) : lo ≤ a := (hW.2 a e0 ha).2.resolve_right (fun ⟨n, f, q⟩ => h0 n f q)
theorem WD.new {G : va_G} {dA : Nat → ClassId} {lo : Nat} {s : State} {h : AH} {H H1 : Heap} {e : AC} (n : Nat) (hW : WD G dA lo s h H) (hnew : atC G dA s H.size e H1) (hz : H1.size = H.size + 1) (ho : ∀ q : Nat, q < H.size → H1[q]? = H[q]?) : WD G dA lo s (hN h e n) H1 := by
  refine ⟨⟨by rw [hz, hW.1.1]; rfl, by rw [hz]; exact Nat.le_succ_of_le hW.1.2⟩, fun b eb hb => ?_⟩
  unfold hN at hb
  dsimp only at hb
  by_cases hba : b = h.2.1
  · rw [if_pos hba] at hb
    cases hb
    rw [← hW.1.1] at hba
    subst hba
    exact ⟨hnew, Or.inl hW.1.2⟩
  · rw [if_neg hba] at hb
    obtain ⟨h1, h2⟩ := hW.2 b eb hb
    exact ⟨h1.kept (ho b h1.lt), h2⟩
def KK (G : va_G) (dA : Nat → ClassId) (U : State) : Prop := va_K G cls9 (tys dA) U ∧ (∀ q ∈ nlT, va_Nw (.methodLinkNest (cnm q.1) q.2.1 (mnm q.2.2) "NameRows") U) ∧ (va_AO RX0 U ∧ va_AO RX6 U ∧ va_AO RX4 U)
theorem KK.warm {G : va_G} {dA : Nat → ClassId} {s U : State} (hW : s.WarmedH U.vm) (h : KK G dA s) : KK G dA U := ⟨h.1.moved hW.alike, fun q hq => (h.2.1 q hq).warmM hW, h.2.2.1.moved hW.alike, h.2.2.2.1.moved hW.alike, h.2.2.2.2.moved hW.alike⟩
theorem KK.calling {G : va_G} {dA : Nat → ClassId} {U : State} {g : JFrame} {mk : MethodId} {a : Array Value} (h : KK G dA U) : KK G dA (U.calling g mk a) := ⟨va_K.moved (u := U) (U := U.calling g mk a) (Vm.Alike.refl U.vm) h.1, fun q hq => va_Nw.same rfl (u := U) rfl (h.2.1 q hq), va_AO.moved (u := U) (U := U.calling g mk a) (Vm.Alike.refl U.vm) h.2.2.1, va_AO.moved (u := U) (U := U.calling g mk a) (Vm.Alike.refl U.vm) h.2.2.2.1, va_AO.moved (u := U) (U := U.calling g mk a) (Vm.Alike.refl U.vm) h.2.2.2.2⟩
/-! locals -/
def lvr (ls : Array Slot) (L : List (Option Value)) : Prop := ls.size = L.length ∧ lv_wf ls ∧ ∀ (i : Nat) (v : Value), L[i]? = some (some v) → ls[i]? = some (.val v)
def lvP (L : List (Option Value)) : List (Nat × Value) := L.zipIdx.filterMap fun q => q.1.map fun v => (q.2, v)
theorem mem_lvP {L : List (Option Value)} {i : Nat} {v : Value} : (i, v) ∈ lvP L ↔ L[i]? = some (some v) := by
  unfold lvP
  rw [List.mem_filterMap]
  constructor
  · rintro ⟨⟨o, j⟩, h1, h2⟩
    cases o with
    | none => cases h2
    | some w =>
      simp at h2
      obtain ⟨rfl, rfl⟩ := h2
      exact List.mem_zipIdx_iff_getElem?.mp h1
  · intro h
    exact ⟨(some v, i), List.mem_zipIdx_iff_getElem?.mpr h, rfl⟩
theorem lvr_has {ls : Array Slot} {L : List (Option Value)} (h : lvr ls L) : lv_has ls L.length (lvP L) := ⟨h.1, h.2.1, fun q hq => h.2.2 q.1 q.2 (mem_lvP.mp hq)⟩
theorem noL_cat {L : List (Option Value)} {j : Nat} {w : Value} (hn : noL L (j + 1) = true) (hj : L[j]? = some (some w)) : ¬ w.category = 2 := by
  unfold noL at hn
  dsimp only at hn
  rw [hj] at hn
  cases w <;> first | (intro h; simp [Value.category] at h; done) | (simp at hn; done)
theorem lvr_set {ls' : Array Slot} {L : List (Option Value)} {i : Nat} {v : Value} (hi : i < L.length) (hn : noL L i = true) (h : lv_has ls' L.length ((i, v) :: (lvP L).filter (fun q => !(q.1 == i) && !(q.1 + 1 == i && q.2.category == 2)))) : lvr ls' (L.set i (some v)) := by
  refine ⟨by rw [List.length_set]; exact h.1, h.2.1, fun j w hj => ?_⟩
  rw [List.getElem?_set] at hj
  by_cases hij : i = j
  · subst hij
    simp [hi] at hj
    subst hj
    exact h.2.2 (i, v) List.mem_cons_self
  · rw [if_neg hij] at hj
    refine h.2.2 (j, w) (List.mem_cons_of_mem _ (List.mem_filter.mpr ⟨mem_lvP.mpr hj, ?_⟩))
    have h1 : (j == i) = false := by simp; exact fun q => hij q.symm
    have h2 : (j + 1 == i && w.category == 2) = false := by
      by_cases hji : j + 1 = i
      · subst hji
        have := noL_cat hn hj
        simp [this]
      · simp [hji]
    simp [h1, h2]
theorem lvr_set2 {ls' : Array Slot} {L : List (Option Value)} {i : Nat} {v : Value} (hi : i + 1 < L.length) (hn : noL L i = true) (h : lv_has ls' L.length ((i, v) :: (lvP L).filter (fun q => !(q.1 == i) && (!(q.1 == i + 1) && !(q.1 + 1 == i && q.2.category == 2))))) : lvr ls' ((L.set i (some v)).set (i + 1) none) := by
  refine ⟨by rw [List.length_set, List.length_set]; exact h.1, h.2.1, fun j w hj => ?_⟩
  rw [List.getElem?_set] at hj
  by_cases hij1 : i + 1 = j
  · subst hij1
    simp [hi] at hj
  · rw [if_neg hij1, List.getElem?_set] at hj
    by_cases hij : i = j
    · subst hij
      simp [Nat.lt_of_succ_lt hi] at hj
      subst hj
      exact h.2.2 (i, v) List.mem_cons_self
    · rw [if_neg hij] at hj
      refine h.2.2 (j, w) (List.mem_cons_of_mem _ (List.mem_filter.mpr ⟨mem_lvP.mpr hj, ?_⟩))
      have h1 : (j == i) = false := by simp; exact fun q => hij q.symm
      have h3 : (j == i + 1) = false := by simp; exact fun q => hij1 q.symm
      have h2 : (j + 1 == i && w.category == 2) = false := by
        by_cases hji : j + 1 = i
        · subst hji
          have := noL_cat hn hj
          simp [this]
        · simp [hji]
      simp [h1, h2, h3]
theorem msk_len (mk : List (Nat × List Nat)) (pc : Nat) (L : List (Option Value)) : (msk mk pc L).length = L.length := by
  unfold msk
  split
  · simp
  · rfl
theorem lvr_msk {ls : Array Slot} {L : List (Option Value)} (mk : List (Nat × List Nat)) (pc : Nat) (h : lvr ls L) : lvr ls (msk mk pc L) := by
  refine ⟨by rw [msk_len]; exact h.1, h.2.1, fun i v hi => h.2.2 i v ?_⟩
  unfold msk at hi
  split at hi
  · rw [List.getElem?_map, List.getElem?_zipIdx] at hi
    cases hL : L[i]? with
    | none => rw [hL] at hi; cases hi
    | some o =>
      rw [hL] at hi
      simp at hi
      cases hb : (decide (i ∈ (by assumption : List Nat))) with
      | true => simp_all
      | false => simp_all
  · exact hi
end
section
/-! ===== an instruction of ours is an instruction of the machine's ===== -/
theorem pI_inv {st : List Value} {f : Int32 → List Value → Option RV} {res : RV} (h : pI st f = some res) : ∃ x r, st = .int x :: r ∧ f x r = some res := by
  unfold pI at h
  split at h
  · exact ⟨_, _, rfl, h⟩
  · cases h
theorem pL_inv {st : List Value} {f : Int64 → List Value → Option RV} {res : RV} (h : pL st f = some res) : ∃ x r, st = .long x :: r ∧ f x r = some res := by
  unfold pL at h
  split at h
  · exact ⟨_, _, rfl, h⟩
  · cases h
theorem pR_inv {st : List Value} {f : Nat → List Value → Option RV} {res : RV} (h : pR st f = some res) : ∃ x r, st = .ref x :: r ∧ f x r = some res := by
  unfold pR at h
  split at h
  · exact ⟨_, _, rfl, h⟩
  · cases h
theorem pQ_inv {st : List Value} {g : List Value → Option RV} {f : Nat → List Value → Option RV} {res : RV} (h : pQ st g f = some res) : (∃ x r, st = .ref x :: r ∧ f x r = some res) ∨ ∃ r, st = .null :: r ∧ g r = some res := by
  unfold pQ at h
  split at h
  · exact Or.inl ⟨_, _, rfl, h⟩
  · exact Or.inr ⟨_, rfl, h⟩
  · cases h
theorem gLI_inv {L : List (Option Value)} {i : Nat} {f : Int32 → Option RV} {res : RV} (h : gLI L i f = some res) : ∃ x, L[i]? = some (some (.int x)) ∧ f x = some res := by
  unfold gLI at h
  split at h
  · exact ⟨_, by assumption, h⟩
  · cases h
theorem gLL_inv {L : List (Option Value)} {i : Nat} {f : Int64 → Option RV} {res : RV} (h : gLL L i f = some res) : ∃ x, L[i]? = some (some (.long x)) ∧ f x = some res := by
  unfold gLL at h
  split at h
  · exact ⟨_, by assumption, h⟩
  · cases h
theorem gLQ_inv {L : List (Option Value)} {i : Nat} {g : Option RV} {f : Nat → Option RV} {res : RV} (h : gLQ L i g f = some res) : (∃ x, L[i]? = some (some (.ref x)) ∧ f x = some res) ∨ (L[i]? = some (some .null) ∧ g = some res) := by
  unfold gLQ at h
  split at h
  · exact Or.inl ⟨_, by assumption, h⟩
  · exact Or.inr ⟨by assumption, h⟩
  · cases h
theorem cond_inv {b : Bool} {x : Option RV} {res : RV} (h : (bif b then x else none) = some res) : b = true ∧ x = some res := by
  cases b
  · cases h
  · exact ⟨rfl, h⟩
theorem sL_inv {L : List (Option Value)} {i : Nat} {v : Value} {f : List (Option Value) → Option RV} {res : RV} (h : sL L i v f = some res) : i < L.length ∧ noL L i = true ∧ f (L.set i (some v)) = some res := by
  obtain ⟨h1, h2⟩ := cond_inv h
  rw [Bool.and_eq_true] at h1
  exact ⟨Nat.le_of_ble_eq_true h1.1, h1.2, h2⟩
theorem sLL_inv {L : List (Option Value)} {i : Nat} {v : Value} {f : List (Option Value) → Option RV} {res : RV} (h : sLL L i v f = some res) : i + 1 < L.length ∧ noL L i = true ∧ f ((L.set i (some v)).set (i + 1) none) = some res := by
  obtain ⟨h1, h2⟩ := cond_inv h
  rw [Bool.and_eq_true] at h1
  exact ⟨Nat.le_of_ble_eq_true h1.1, h1.2, h2⟩
theorem jmp_inv {pc : Nat} {off : Int} {f : Nat → Option RV} {res : RV} (h : jmp pc off f = some res) : ∃ t : Nat, (pc : Int) + off = (t : Int) ∧ f t = some res := by
  unfold jmp at h
  split at h
  · exact ⟨_, by assumption, h⟩
  · cases h
theorem gfI_inv {h : AH} {a ci k : Nat} {f : Int32 → Option RV} {res : RV} (hs : gfI h a ci k f = some res) : ∃ fs x, h.1 a = some (oB ci fs) ∧ fs[k]? = some (.int x) ∧ f x = some res := by
  unfold gfI at hs
  split at hs
  · split at hs
    · next hc =>
      subst hc
      split at hs
      · exact ⟨_, _, by assumption, by assumption, hs⟩
      · cases hs
    · cases hs
  · cases hs
theorem gfQ_inv {h : AH} {a ci k : Nat} {g : Option RV} {f : Nat → Option RV} {res : RV} (hs : gfQ h a ci k g f = some res) : ∃ fs, h.1 a = some (oB ci fs) ∧ ((∃ x, fs[k]? = some (.ref x) ∧ f x = some res) ∨ (fs[k]? = some .null ∧ g = some res)) := by
  unfold gfQ at hs
  split at hs
  · split at hs
    · next hc =>
      subst hc
      split at hs
      · exact ⟨_, by assumption, Or.inl ⟨_, by assumption, hs⟩⟩
      · exact ⟨_, by assumption, Or.inr ⟨by assumption, hs⟩⟩
      · cases hs
    · cases hs
  · cases hs
theorem pfV_inv {h : AH} {a ci k : Nat} {v : Value} {f : AH → Option RV} {res : RV} (hs : pfV h a ci k v f = some res) : ∃ fs, h.1 a = some (oB ci fs) ∧ k < fs.length ∧ f (hS h a (oB ci (fs.set k v))) = some res := by
  unfold pfV at hs
  split at hs
  · split at hs
    · next hc =>
      obtain ⟨hc, hk⟩ := hc
      subst hc
      exact ⟨_, by assumption, hk, hs⟩
    · cases hs
  · cases hs
theorem isZ_inv {x : Int32} {f : Option RV} {res : RV} (h : isZ x f = some res) : (x = 0 ∨ x = 1) ∧ f = some res := by
  unfold isZ at h
  split at h
  · exact ⟨by assumption, h⟩
  · cases h
theorem ldI_inv {h : AH} {a : Nat} {i : Int32} {f : Int32 → Option RV} {res : RV} (hs : ldI h a i f = some res) : ∃ t n g, h.1 a = some (aI t n g) ∧ ¬ t = 1 ∧ vp_in i n ∧ f (g i.toNatClampNeg) = some res := by
  unfold ldI at hs
  split at hs
  · split at hs
    · cases hs
    · next hc => exact ⟨_, _, _, by assumption, fun q => hc (Or.inl q), fun q => hc (Or.inr q), hs⟩
  · cases hs
theorem ldZ_inv {h : AH} {a : Nat} {i : Int32} {f : Int32 → Option RV} {res : RV} (hs : ldZ h a i f = some res) : ∃ n g, h.1 a = some (aI 1 n g) ∧ vp_in i n ∧ f (g i.toNatClampNeg) = some res := by
  unfold ldZ at hs
  split at hs
  · split at hs
    · cases hs
    · next hc =>
      rw [not_or] at hc
      obtain ⟨h1, h2⟩ := hc
      have h1 := Decidable.not_not.mp h1
      subst h1
      exact ⟨_, _, by assumption, h2, hs⟩
  · cases hs
theorem ldQ_inv {h : AH} {a : Nat} {i : Int32} {g0 : Option RV} {f : Nat → Option RV} {res : RV} (hs : ldQ h a i g0 f = some res) : ∃ t n g, h.1 a = some (aQ t n g) ∧ vp_in i n ∧ ((∃ b, g i.toNatClampNeg = some b ∧ f b = some res) ∨ (g i.toNatClampNeg = none ∧ g0 = some res)) := by
  unfold ldQ at hs
  split at hs
  · split at hs
    · cases hs
    · next hc =>
      split at hs
      · exact ⟨_, _, _, by assumption, hc, Or.inl ⟨_, by assumption, hs⟩⟩
      · exact ⟨_, _, _, by assumption, hc, Or.inr ⟨by assumption, hs⟩⟩
  · cases hs
theorem stI_inv {h : AH} {a : Nat} {i x : Int32} {f : AH → Option RV} {res : RV} (hs : stI h a i x f = some res) : ∃ n g, h.1 a = some (aI 0 n g) ∧ vp_in i n ∧ f (hS h a (aI 0 n (upd g i.toNatClampNeg x))) = some res := by
  unfold stI at hs
  split at hs
  · split at hs
    · cases hs
    · next hc =>
      rw [not_or] at hc
      obtain ⟨h1, h2⟩ := hc
      have h1 := Decidable.not_not.mp h1
      subst h1
      exact ⟨_, _, by assumption, h2, hs⟩
  · cases hs
theorem stZ_inv {h : AH} {a : Nat} {i x : Int32} {f : AH → Option RV} {res : RV} (hs : stZ h a i x f = some res) : ∃ n g, h.1 a = some (aI 1 n g) ∧ vp_in i n ∧ f (hS h a (aI 1 n (upd g i.toNatClampNeg (vp_nar .boolean x)))) = some res := by
  unfold stZ at hs
  split at hs
  · split at hs
    · cases hs
    · next hc =>
      rw [not_or] at hc
      obtain ⟨h1, h2⟩ := hc
      have h1 := Decidable.not_not.mp h1
      subst h1
      exact ⟨_, _, by assumption, h2, hs⟩
  · cases hs
theorem isO_inv {h : AH} {a ci : Nat} {f : Option RV} {res : RV} (hs : isO h a ci f = some res) : ∃ fs, h.1 a = some (oB ci fs) ∧ f = some res := by
  unfold isO at hs
  split at hs
  · split at hs
    · next hc =>
      subst hc
      exact ⟨_, by assumption, hs⟩
    · cases hs
  · cases hs
theorem stQ_inv {h : AH} {a : Nat} {i : Int32} {v : Nat} {f : AH → Option RV} {res : RV} (hs : stQ h a i v f = some res) : ∃ t n g fs, h.1 a = some (aQ t n g) ∧ vp_in i n ∧ h.1 v = some (oB (qcl t) fs) ∧ f (hS h a (aQ t n (va_up g i.toNatClampNeg (some v)))) = some res := by
  unfold stQ at hs
  split at hs
  · split at hs
    · cases hs
    · next hc =>
      obtain ⟨fs, h1, h2⟩ := isO_inv hs
      exact ⟨_, _, _, _, by assumption, hc, h1, h2⟩
  · cases hs
theorem lnA_inv {h : AH} {a : Nat} {f : Int32 → Option RV} {res : RV} (hs : lnA h a f = some res) : (∃ t n g, h.1 a = some (aI t n g) ∧ f (Int32.ofNat n) = some res) ∨ ∃ t n g, h.1 a = some (aQ t n g) ∧ f (Int32.ofNat n) = some res := by
  unfold lnA at hs
  split at hs
  · exact Or.inl ⟨_, _, _, by assumption, hs⟩
  · exact Or.inr ⟨_, _, _, by assumption, hs⟩
  · cases hs
theorem cpA_inv {h : AH} {s d : Nat} {sp dp n : Int32} {f : AH → Option RV} {res : RV} (hs : cpA h s sp d dp n f = some res) : ∃ n0 g0 n1 g1, h.1 s = some (aI 0 n0 g0) ∧ h.1 d = some (aI 0 n1 g1) ∧ ¬ s = d ∧ ¬ sp < 0 ∧ ¬ dp < 0 ∧ ¬ n < 0 ∧ sp.toNatClampNeg + n.toNatClampNeg ≤ n0 ∧ dp.toNatClampNeg + n.toNatClampNeg ≤ n1 ∧ f (hS h d (aI 0 n1 (va_cpy g0 g1 sp.toNatClampNeg dp.toNatClampNeg n.toNatClampNeg))) = some res := by
  unfold cpA at hs
  split at hs
  · split at hs
    · split at hs
      · cases hs
      · next hc =>
        simp only [not_or, Decidable.not_not] at hc
        obtain ⟨c1, c2, c3, c4, c5, c6, c7, c8⟩ := hc
        subst c2
        subst c3
        exact ⟨_, _, _, _, by assumption, by assumption, c1, c4, c5, c6, Nat.not_lt.mp c7, Nat.not_lt.mp c8, hs⟩
    · cases hs
  · cases hs
theorem swt_inv {x : Int32} {f : Int → Option RV} {dflt : Option RV} {res : RV} : ∀ (offs : List Int) (lo : Int), swt x lo offs f dflt = some res → (∃ (k : Nat) (o : Int), offs[k]? = some o ∧ x.toInt = lo + k ∧ f o = some res) ∨ ((∀ k : Nat, k < offs.length → ¬ x.toInt = lo + k) ∧ dflt = some res)
  | [], lo, h => Or.inr ⟨fun k hk => absurd hk (Nat.not_lt_zero k), h⟩
  | o :: r, lo, h => by
    unfold swt at h
    split at h
    · next hc => exact Or.inl ⟨0, o, rfl, by rw [hc]; simp, h⟩
    · next hc =>
      rcases swt_inv r (lo + 1) h with ⟨k, o', h1, h2, h3⟩ | ⟨h1, h2⟩
      · exact Or.inl ⟨k + 1, o', h1, by rw [h2]; push_cast; omega, h3⟩
      · refine Or.inr ⟨fun k hk => ?_, h2⟩
        cases k with
        | zero => simpa using hc
        | succ k =>
          have := h1 k (by simp at hk; omega)
          push_cast
          omega
theorem elem_in {α : Type} [BEq α] [LawfulBEq α] {a : α} {l : List α} (h : l.elem a = true) : a ∈ l := List.elem_iff.mp h
theorem map_in {α β : Type} {l : List (α × β)} {t : List α} (he : l.map (fun x => x.1) = t) {a : α} (h : a ∈ t) : ∃ b, (a, b) ∈ l := by
  rw [← he] at h
  obtain ⟨x, h1, h2⟩ := List.mem_map.mp h
  exact ⟨x.2, by rw [← h2]; exact h1⟩
theorem fl_use {q : Nat × Nat × Nat × Nat} (h : flT.elem q = true) : ∃ r : vw_C, cls9[q.2.2.1]? = some r ∧ q.2.2.2 < r.2.2 ∧ Cond.fieldLink (cnm q.1) q.2.1 (r.2.1 q.2.2.2).1 (r.2.1 q.2.2.2).2.1 (r.2.1 q.2.2.2).2.2.1 ∈ gtbl := by
  obtain ⟨p, hp⟩ := map_in fl_eq (elem_in h)
  obtain ⟨h1, h2, h3⟩ := fl_ok _ hp
  dsimp only at h1 h2 h3
  unfold flk at h3
  unfold flw at h1 h2
  cases hc : cls9[q.2.2.1]? with
  | none => rw [hc] at h3; cases h3
  | some r =>
    rw [hc] at h1 h2 h3
    dsimp only at h1 h2 h3
    exact ⟨r, rfl, Nat.le_of_ble_eq_true h3, gt_of h1 h2⟩
theorem ml_use {q : Nat × Nat × Nat} (h : mlT.elem q = true) : Cond.methodLink (cnm q.1) q.2.1 (mnm q.2.2) ∈ gtbl := by
  obtain ⟨p, hp⟩ := map_in ml_eq (elem_in h)
  exact gt_of (ml_ok _ hp) rfl
theorem kl_use {q : Nat × Nat × Nat} (h : klT.elem q = true) : ∃ r : vw_C, cls9[q.2.2]? = some r ∧ Cond.classLink (cnm q.1) q.2.1 r.1 ∈ gtbl ∧ Cond.instantiable r.1 r.2.2 ∈ gtbl ∧ Cond.initialized r.1 ∈ gtbl := by
  obtain ⟨p, hp⟩ := map_in kl_eq (elem_in h)
  obtain ⟨h1, h2, h3⟩ := kl_ok _ hp
  have h4 := gt_list _ _ h1 h2
  dsimp only at h3 h4
  unfold klw at h4
  cases hc : cls9[q.2.2]? with
  | none => rw [hc] at h3; cases h3
  | some r =>
    rw [hc] at h4
    dsimp only at h4
    exact ⟨r, rfl, h4 _ (by simp), h4 _ (by simp), h4 _ (by simp)⟩
theorem ql_use {q : Nat × Nat × Nat} (h : qlT.elem q = true) : Cond.classLink (cnm q.1) q.2.1 (qlc q.2.2) ∈ gtbl ∧ (q.2.2 = 2 ∨ q.2.2 = 3 ∨ q.2.2 = 4) := by
  obtain ⟨p, hp⟩ := map_in ql_eq (elem_in h)
  obtain ⟨h1, h2⟩ := ql_ok _ hp
  exact ⟨gt_list _ _ h1 rfl _ (by simp), h2⟩
theorem ll_use {q : Nat × Nat × Nat} (h : llT.elem q = true) : Cond.constantLong (cnm q.1) q.2.1 (Int64.ofNat q.2.2) ∈ gtbl := by
  obtain ⟨p, hp⟩ := map_in ll_eq (elem_in h)
  exact gt_of (ll_ok _ hp).1 (ll_ok _ hp).2
theorem ol_use {q : Nat × Nat} (h : olT.elem q = true) : Cond.methodLink (cnm q.1) q.2 objectInit ∈ gtbl := by
  obtain ⟨p, hp⟩ := map_in ol_eq (elem_in h)
  exact gt_of (ol_ok _ hp) rfl
theorem al_use {q : Nat × Nat} (h : alT.elem q = true) : Cond.methodLink (cnm q.1) q.2 arraycopyName ∈ gtbl := by
  obtain ⟨p, hp⟩ := map_in al_eq (elem_in h)
  exact gt_of (al_ok _ hp) rfl
theorem xl_use {q : Nat × Nat × Nat} (h : xlT.elem q = true) : Cond.methodLink (cnm q.1) q.2.1 (xnm q.2.2) ∈ gtbl := by
  obtain ⟨p, hp⟩ := map_in xl_eq (elem_in h)
  exact gt_of (xl_ok _ hp).1 rfl
theorem cls_nm : ∀ (ci : Nat) (r : vw_C), cls9[ci]? = some r → r.1 = cnm ci
  | 0, r, h => by cases h; rfl
  | 1, r, h => by cases h; rfl
  | 2, r, h => by cases h; rfl
  | 3, r, h => by cases h; rfl
  | 4, r, h => by cases h; rfl
  | 5, r, h => by cases h; rfl
  | 6, r, h => by cases h; rfl
  | 7, r, h => by cases h; rfl
  | 8, r, h => by cases h; rfl
  | n + 9, r, h => by simp [cls9] at h
theorem fits_of {ci k kd : Nat} {v : Value} (hf : fkOk ci k kd = true) (hv : (kd = 0 ∧ ∃ x, v = .int x) ∨ (kd = 1 ∧ (v = .null ∨ ∃ a, v = .ref a)) ∨ (kd = 2 ∧ ∃ x : Int32, v = .int x ∧ (x = 0 ∨ x = 1))) : narrow (tyT ci k) v = v ∧ fits (tyT ci k) v = true := by
  unfold fkOk at hf
  generalize tyT ci k = ty at hf ⊢
  rcases hv with ⟨rfl, x, rfl⟩ | ⟨rfl, hv⟩ | ⟨rfl, x, rfl, hx⟩
  · cases ty <;> first | exact ⟨rfl, rfl⟩ | (simp at hf; done)
  · cases ty <;> first | (simp at hf; done) | (rcases hv with rfl | ⟨a, rfl⟩ <;> exact ⟨rfl, rfl⟩)
  · cases ty <;> first | (simp at hf; done) | (rcases hx with rfl | rfl <;> exact ⟨by decide +kernel, by decide +kernel⟩)
end
section
/-! ===== contracts of methods, calls ===== -/
def Pm (G : va_G) (dA : Nat → ClassId) (lo : Nat) (args : List Value) (h : AH) : Array Value → State → Prop := fun a U => a = args.toArray ∧ WD G dA lo U h U.heap ∧ KK G dA U
def Qm (G : va_G) (dA : Nat → ClassId) (lo : Nat) (res : RV) : Array Value → State → Outcome → State → Prop := fun _ _ oc t => oc = .returned res.1 ∧ WD G dA lo t res.2 t.heap
def wsm (q : MT) : List Cond := cwd q :: gtbl
def rmm (d : Nat) (h h' : AH) : Room := { frames := d, cells := h'.2.1 - h.2.1, slots := h'.2.2 - h.2.2, locals := 36 * d }
def CM (l : Launch) (G : va_G) (dA : Nat → ClassId) (lo : Nat) (d : Nat) (c : Ct) : Prop := ∀ (y : Nat) (args : List Value) (h : AH) (res : RV), c y args h = some res → leH h res.2 ∧ (y < 169 → ∃ (d' : Nat) (q : MT), d = d' + 1 ∧ mtab[y]? = some q ∧ Met l q.1.1 (wsm q) (rmm d' h res.2) (Pm G dA lo args h) (Qm G dA lo res) (res.2.2.1 - h.2.1) (res.2.2.2 - h.2.2) (fun x => lo ≤ x))
theorem Pm_blind {G : va_G} {dA : Nat → ClassId} {lo : Nat} {args : List Value} {h : AH} : FrameBlind (Pm G dA lo args h) := fun _ U g mk ⟨h1, h2, h3⟩ => ⟨h1, WD.moved (u := U) (U := U.calling g mk _) (Vm.Alike.refl U.vm) h2, h3.calling⟩
/-- what a method's frame stands on -/
def CX (p : Program) (R : Room) (s : State) (m : MethodId) (args : Array Value) (meth : Method) (c : Code) (cc : ByteArray) (nL own : Nat) (ini : Bool) (d : Nat) (G : va_G) (dA : Nat → ClassId) : Prop :=
  p.tables.exec = Jvm.exec ∧ c.code = cc ∧ c.maxLocals = nL ∧ s.vm.findClass (cnm own) = some m.cls ∧ (∀ w ∈ gtbl, w.before args s = true) ∧ KK G dA s ∧ (ini = true → meth.name = "<init>") ∧ d ≤ R.frames ∧ 36 * d ≤ R.locals
/-- our state beside the machine's -/
def Re (G : va_G) (dA : Nat → ClassId) (lo : Nat) (s : State) (nL : Nat) (t0 s0 : Nat) (L : List (Option Value)) (h : AH) (H : Heap) (locs : List Loc) (cells slots : Nat) (ls : Array Slot) : Prop :=
  WD G dA lo s h H ∧ lvr ls L ∧ L.length = nL ∧ (∀ q ∈ locs, lo ≤ q.base) ∧ cells + t0 = h.2.1 ∧ slots + s0 = h.2.2
section AM
variable {p : Program} {l : Launch} {e : Env} {R : Room} {s : State} {m : MethodId} {args : Array Value} {below : List Frame} {meth : Method} {c : Code} {H : Heap} {locs : List Loc} {cells slots : Nat} {Q : State → Prop}
variable {cc : ByteArray} {pc : Nat} {ls : Array Slot} {rest : List Value} {G : va_G} {dA : Nat → ClassId} {lo : Nat}
/-- behind a call -/
theorem am_back {mc ms : Nat} {st0 : List Value} {a : Array Value} {res : RV} (hr : va_Run p l e R s m args below meth c H locs cells slots mc ms (F0 m pc ls st0) rest (Qm G dA lo res a) (fun x => lo ≤ x)) (hl : ∀ q ∈ locs, lo ≤ q.base)
    (kk : ∀ (H1 : Heap) (locs1 : List Loc), WD G dA lo s res.2 H1 → (∀ q ∈ locs1, lo ≤ q.base) → W p l e R s m args below meth c H1 locs1 (cells + mc) (slots + ms) Q (F0 m (pc + 3) ls (res.1.toList ++ rest))) : W p l e R s m args below meth c H locs cells slots Q (F0 m pc ls st0) := by
  intro T hT X
  obtain ⟨v, st₀, t, T', L, h0, X', hL, e1, e2, ⟨hv, hw⟩, st⟩ := hr T hT X
  have hv' : v = res.1 := by injection hv
  subst hv'
  have hal : t.vm.Alike s.vm := by rw [← e2]; exact X'.warmed.alike.symm
  obtain ⟨t2, a1, b1⟩ := kk T'.heap (locs ++ L) (by rw [e1]; exact hw.moved hal) (fun q hq => by
      rcases List.mem_append.mp hq with h | h
      · exact hl q h
      · exact hL q h) T' rfl X'
  exact ⟨t2, st t2 a1, b1⟩
theorem am_get {nL own d : Nat} {ini : Bool} (X : CX p R s m args meth c cc nL own ini d G dA) {x ci k : Nat} (hlk : flT.elem (own, x, ci, k) = true) {a : Nat} {fs : List Value} {v : Value} {h : AH} (hW : WD G dA lo s h H) (ha : h.1 a = some (oB ci fs)) (hv : fs[k]? = some v) (hdg : decode cc pc = .ok (.getfield x, 3))
    (kk : W p l e R s m args below meth c H locs cells slots Q (F0 m (pc + 3) ls (v :: rest))) : W p l e R s m args below meth c H locs cells slots Q (F0 m pc ls (.ref a :: rest)) := by
  obtain ⟨hx, hb, hml, hown, hts, hK, -⟩ := X
  obtain ⟨r, hc, hk, hw⟩ := fl_use hlk
  dsimp only at hc hk hw
  obtain ⟨hin, -⟩ := cls_ok _ _ hc
  have hP : va_P G cls9 [(a, .inr (ci, fs))] H := fun j q hj => by
    match j, hj with
    | 0, hj => cases hj; exact (hW.2 a _ ha).1
    | j + 1, hj => simp at hj
  exact va_get (D := G) (ci := ci) (v := v) (C := r.1) (T := r.2.1) (N := r.2.2) hx hb hts hin hown hK.1 hP 0 rfl hc k hk (hts _ hw) (fun _ h9 => h9) hv hdg kk
theorem am_put {nL own d : Nat} {ini : Bool} (X : CX p R s m args meth c cc nL own ini d G dA) {x ci k kd : Nat} (hlk : flT.elem (own, x, ci, k) = true) (hfk : fkOk ci k kd = true) (hff : ffin own ini ci k = true) {a : Nat} {fs : List Value} {v : Value} {h : AH} (hW : WD G dA lo s h H) (hl : ∀ q ∈ locs, lo ≤ q.base) (ha : h.1 a = some (oB ci fs)) (hk2 : k < fs.length) (hv : (kd = 0 ∧ ∃ x, v = .int x) ∨ (kd = 1 ∧ (v = .null ∨ ∃ a, v = .ref a)) ∨ (kd = 2 ∧ ∃ x : Int32, v = .int x ∧ (x = 0 ∨ x = 1))) (hdg : decode cc pc = .ok (.putfield x, 3))
    (kk : ∀ (H1 : Heap) (locs1 : List Loc), WD G dA lo s (hS h a (oB ci (fs.set k v))) H1 → (∀ q ∈ locs1, lo ≤ q.base) → W p l e R s m args below meth c H1 locs1 cells slots Q (F0 m (pc + 3) ls rest)) : W p l e R s m args below meth c H locs cells slots Q (F0 m pc ls (v :: .ref a :: rest)) := by
  obtain ⟨hx, hb, hml, hown, hts, hK, hini, -⟩ := X
  obtain ⟨r, hc, hk, hw⟩ := fl_use hlk
  dsimp only at hc hk hw
  obtain ⟨hin, hty, hnm⟩ := cls_ok _ _ hc
  obtain ⟨hn, hfit⟩ := fits_of hfk hv
  have hap := va_apart (own := cnm own) hts hin (tyT ci) hty hnm hK.1 hc
  have hat := (hW.2 a _ ha).1
  have hloa : lo ≤ a := hW.lo ha (fun n f q => by cases q)
  obtain ⟨r', h1, cell, q1, q2, q3, q4⟩ := id hat
  have hr : r' = r := Option.some.inj (h1.symm.trans hc)
  subst hr
  obtain ⟨hS, hfc, kC, hkC, hkind⟩ := hK.1.1 ci _ hc
  obtain ⟨cf, kf, fi, f, hi, hsl⟩ := hS k hk
  have hlay := hts _ (hin _ (u_in_lay hk))
  have hst := (u_facts hfc hkC (u_lays hts hin hk) hi).1
  have fin : ∀ H' : Heap, H'[a]? = some (cell.setSlot f.slot v) → H'.size = H.size → (∀ q, q ≠ a → H'[q]? = H[q]?) → W p l e R s m args below meth c H' (locs ++ [⟨a, f.slot⟩]) cells slots Q (F0 m (pc + 3) ls rest) := by
    intro H' e1 e2 e3
    rw [hsl] at e1
    refine kk H' _ (hW.set ha (fun n f q => by cases q) ?_ e2 e3) ?_
    · exact ⟨_, hc, t_OB.to (V := updV (vp_V fs) k v) ⟨_, e1, q2, q3, t_set q4 hap hk v⟩ (fun j _ => vp_updV_set hk2 v j)⟩
    · intro q hq
      rcases List.mem_append.mp hq with h | h
      · exact hl q h
      · rw [List.mem_singleton.mp h]; exact hloa
  unfold ffin at hff
  rw [hc] at hff
  dsimp only at hff
  rw [Bool.or_eq_true] at hff
  unfold u_lay at hlay
  rcases hff with hff | hff
  · have hfin : (r'.2.1 k).2.2.2 = false := by simpa using hff
    rw [if_neg (by rw [hfin]; decide)] at hlay
    have h6 := u_store hfc hkC hkind hlay hi (hty k hk) hn hfit
    exact W.putK hx hb (f := f) ⟨hown, hts _ hw, ⟨_, _, _, hi⟩, hst⟩ (by rw [q2]; exact h6) q1 q3 (by rw [hsl]; exact k2_hasslot (q4 k hk)) rfl rfl hdg fin
  · rw [Bool.and_eq_true, decide_eq_true_eq] at hff
    by_cases hfin : (r'.2.1 k).2.2.2 = true
    · rw [if_pos hfin] at hlay
      have hcf : m.cls = cf := by
        obtain ⟨_, _, c', _, _, _, -, -, hf', -, -, -, hown2, -⟩ := Cond.laysFinal_spec hlay
        have e1 : c' = cf := by have := hi.symm.trans hf'; simp at this; exact this.1.symm
        rw [hff.2] at hown2
        rw [← e1]; exact Option.some.inj (hown.symm.trans hown2)
      have h6 := u_fits hfc hkC hkind (Or.inr hlay) hi (hty k hk) hn hfit
      exact W.putFinK hx hb hown (hts _ hw) hi hst hcf (hini hff.1) (by rw [q2]; exact h6) q1 q3 (by rw [hsl]; exact k2_hasslot (q4 k hk)) rfl rfl hdg fin
    · rw [if_neg hfin] at hlay
      have h6 := u_store hfc hkC hkind hlay hi (hty k hk) hn hfit
      exact W.putK hx hb (f := f) ⟨hown, hts _ hw, ⟨_, _, _, hi⟩, hst⟩ (by rw [q2]; exact h6) q1 q3 (by rw [hsl]; exact k2_hasslot (q4 k hk)) rfl rfl hdg fin
theorem am_iald {nL own d : Nat} {ini : Bool} (X : CX p R s m args meth c cc nL own ini d G dA) {t n : Nat} {g : Nat → Int32} {i : Int32} {a : Nat} {h : AH} (hW : WD G dA lo s h H) (ha : h.1 a = some (aI t n g)) (ht : ¬ t = 1) (hin : vp_in i n) (hdg : decode cc pc = .ok (.iaload, 1))
    (kk : W p l e R s m args below meth c H locs cells slots Q (F0 m (pc + 1) ls (.int (g i.toNatClampNeg) :: rest))) : W p l e R s m args below meth c H locs cells slots Q (F0 m pc ls (.int i :: .ref a :: rest)) := by
  obtain ⟨hx, hb, hml, hown, hts, hK, -⟩ := X
  have hat := (hW.2 a _ ha).1
  unfold atC at hat
  dsimp only at hat
  have hlt : i.toNatClampNeg < n := Nat.not_le.mp fun q => hin (Or.inr q)
  by_cases h2 : t = 2
  · rw [if_pos h2] at hat
    obtain ⟨scr, h1, h2, h3, h4, h5⟩ := hat
    exact W.iald (v := .int (g i.toNatClampNeg)) hx hb h1 h2 h3 (by rw [h4]; exact hin) (h5 _ hlt) rfl rfl hdg kk
  · rw [if_neg h2] at hat
    have h0 : t = 0 := by omega
    subst h0
    have hP : va_P G cls9 [(a, .inl (dA 0, n, .inl g))] H := fun j q hj => by
      match j, hj with
      | 0, hj => cases hj; exact hat.2
      | j + 1, hj => simp at hj
    exact va_iald hx hb hK.1 hP 0 0 rfl rfl hin hdg kk
theorem am_zald {nL own d : Nat} {ini : Bool} (X : CX p R s m args meth c cc nL own ini d G dA) {n : Nat} {g : Nat → Int32} {i : Int32} {a : Nat} {h : AH} (hW : WD G dA lo s h H) (ha : h.1 a = some (aI 1 n g)) (hin : vp_in i n) (hdg : decode cc pc = .ok (.baload, 1))
    (kk : W p l e R s m args below meth c H locs cells slots Q (F0 m (pc + 1) ls (.int (g i.toNatClampNeg) :: rest))) : W p l e R s m args below meth c H locs cells slots Q (F0 m pc ls (.int i :: .ref a :: rest)) := by
  obtain ⟨hx, hb, hml, hown, hts, hK, -⟩ := X
  have hat := (hW.2 a _ ha).1
  have hP : va_P G cls9 [(a, .inl (dA 1, n, .inl g))] H := fun j q hj => by
    match j, hj with
    | 0, hj => cases hj; exact hat.2
    | j + 1, hj => simp at hj
  exact va_zald hx hb hK.1 hP 0 1 rfl rfl hin hdg kk
theorem am_tq {t : Nat} (ht : t = 2 ∨ t = 3 ∨ t = 4) : ∃ (k : Nat) (r : String) (q : u_T × Nat), (tys dA)[k]? = some (dA t, FieldType.object r) ∧ cls9[qcl t]? = some (r, q) := by
  rcases ht with rfl | rfl | rfl
  · exact ⟨2, RX0, _, rfl, rfl⟩
  · exact ⟨3, RX6, _, rfl, rfl⟩
  · exact ⟨4, RX4, _, rfl, rfl⟩
theorem am_qald {nL own d : Nat} {ini : Bool} (X : CX p R s m args meth c cc nL own ini d G dA) {t n : Nat} {g : Nat → Option Nat} {i : Int32} {a : Nat} {h : AH} (hW : WD G dA lo s h H) (ha : h.1 a = some (aQ t n g)) (hin : vp_in i n) (hdg : decode cc pc = .ok (.aaload, 1))
    (kk : W p l e R s m args below meth c H locs cells slots Q (F0 m (pc + 1) ls (va_rf (g i.toNatClampNeg) :: rest))) : W p l e R s m args below meth c H locs cells slots Q (F0 m pc ls (.int i :: .ref a :: rest)) := by
  obtain ⟨hx, hb, hml, hown, hts, hK, -⟩ := X
  obtain ⟨ht, hat⟩ := (hW.2 a _ ha).1
  obtain ⟨k, r, rq, hk, -⟩ := am_tq (dA := dA) ht
  have hP : va_P G cls9 [(a, .inl (dA t, n, .inr (.inr (.inr (.inr g)))))] H := fun j q hj => by
    match j, hj with
    | 0, hj => cases hj; exact hat
    | j + 1, hj => simp at hj
  exact va_aldq hx hb hK.1 hP 0 k rfl hk hin hdg kk
theorem am_iast {nL own d : Nat} {ini : Bool} (X : CX p R s m args meth c cc nL own ini d G dA) {n : Nat} {g : Nat → Int32} {i x : Int32} {a : Nat} {h : AH} (hW : WD G dA lo s h H) (hl : ∀ q ∈ locs, lo ≤ q.base) (ha : h.1 a = some (aI 0 n g)) (hin : vp_in i n) (hdg : decode cc pc = .ok (.iastore, 1))
    (kk : ∀ (H1 : Heap) (locs1 : List Loc), WD G dA lo s (hS h a (aI 0 n (upd g i.toNatClampNeg x))) H1 → (∀ q ∈ locs1, lo ≤ q.base) → W p l e R s m args below meth c H1 locs1 cells slots Q (F0 m (pc + 1) ls rest)) : W p l e R s m args below meth c H locs cells slots Q (F0 m pc ls (.int x :: .int i :: .ref a :: rest)) := by
  obtain ⟨hx, hb, hml, hown, hts, hK, -⟩ := X
  have hat : H[a]? = some (vp_cell (dA 0) (n, .inl g)) := (hW.2 a _ ha).1.2
  have hloa : lo ≤ a := hW.lo ha (fun n f q => by cases q)
  refine W.iast hx hb hat ((hK.1.2 0 _ rfl).1 n (fun j => .int (g j))) (fun q => by cases q) (by show ¬ (i < 0 ∨ (arrV _ _ _).slots.size ≤ _); rw [arrV_size]; exact hin) rfl rfl hdg fun H1 e1 z oq => ?_
  refine kk H1 _ (hW.set ha (fun n f q => by cases q) ⟨by decide, ?_⟩ z oq) (fun q hq => ?_)
  · rw [e1, vp_cell_i, vp_cell_i, arrV_store]
    congr 2
    funext q
    by_cases hq : q = i.toNatClampNeg
    · subst hq
      simp [updV, upd]
    · simp [updV, upd, hq]
  · rcases List.mem_append.mp hq with h | h
    · exact hl q h
    · rw [List.mem_singleton.mp h]; exact hloa
theorem am_zast {nL own d : Nat} {ini : Bool} (X : CX p R s m args meth c cc nL own ini d G dA) {n : Nat} {g : Nat → Int32} {i x : Int32} {a : Nat} {h : AH} (hW : WD G dA lo s h H) (hl : ∀ q ∈ locs, lo ≤ q.base) (ha : h.1 a = some (aI 1 n g)) (hin : vp_in i n) (hdg : decode cc pc = .ok (.bastore, 1))
    (kk : ∀ (H1 : Heap) (locs1 : List Loc), WD G dA lo s (hS h a (aI 1 n (upd g i.toNatClampNeg (vp_nar .boolean x)))) H1 → (∀ q ∈ locs1, lo ≤ q.base) → W p l e R s m args below meth c H1 locs1 cells slots Q (F0 m (pc + 1) ls rest)) : W p l e R s m args below meth c H locs cells slots Q (F0 m pc ls (.int x :: .int i :: .ref a :: rest)) := by
  obtain ⟨hx, hb, hml, hown, hts, hK, -⟩ := X
  have hat : H[a]? = some (vp_cell (dA 1) (n, .inl g)) := (hW.2 a _ ha).1.2
  have hloa : lo ≤ a := hW.lo ha (fun n f q => by cases q)
  refine W.zast hx hb hat ((hK.1.2 1 _ rfl).1 n (fun j => .int (g j))) (fun q => by cases q) (by show ¬ (i < 0 ∨ (arrV _ _ _).slots.size ≤ _); rw [arrV_size]; exact hin) rfl rfl hdg fun H1 e1 z oq => ?_
  refine kk H1 _ (hW.set ha (fun n f q => by cases q) ⟨by decide, ?_⟩ z oq) (fun q hq => ?_)
  · rw [e1, vp_cell_i, vp_cell_i, arrV_store]
    congr 2
    funext q
    by_cases hq : q = i.toNatClampNeg
    · subst hq
      simp [updV, upd, vp_nar]
      try rfl
    · simp [updV, upd, hq]
  · rcases List.mem_append.mp hq with h | h
    · exact hl q h
    · rw [List.mem_singleton.mp h]; exact hloa
theorem am_qast {nL own d : Nat} {ini : Bool} (X : CX p R s m args meth c cc nL own ini d G dA) {t n : Nat} {g : Nat → Option Nat} {i : Int32} {a v : Nat} {fs : List Value} {h : AH} (hW : WD G dA lo s h H) (hl : ∀ q ∈ locs, lo ≤ q.base) (ha : h.1 a = some (aQ t n g)) (hin : vp_in i n) (hv : h.1 v = some (oB (qcl t) fs)) (hdg : decode cc pc = .ok (.aastore, 1))
    (kk : ∀ (H1 : Heap) (locs1 : List Loc), WD G dA lo s (hS h a (aQ t n (va_up g i.toNatClampNeg (some v)))) H1 → (∀ q ∈ locs1, lo ≤ q.base) → W p l e R s m args below meth c H1 locs1 cells slots Q (F0 m (pc + 1) ls rest)) : W p l e R s m args below meth c H locs cells slots Q (F0 m pc ls (.ref v :: .int i :: .ref a :: rest)) := by
  obtain ⟨hx, hb, hml, hown, hts, hK, -⟩ := X
  obtain ⟨ht, hat⟩ := (hW.2 a _ ha).1
  have hloa : lo ≤ a := hW.lo ha (fun n f q => by cases q)
  obtain ⟨k, rn, rq, hk, hc⟩ := am_tq (dA := dA) ht
  have hlt : i.toNatClampNeg < n := Nat.not_le.mp fun q => hin (Or.inr q)
  have h0 : ¬ i < 0 := fun q => hin (Or.inl q)
  obtain ⟨r', hr', cellV, g1, g2, g3, -⟩ := (hW.2 v _ hv).1
  have hcls := (hK.1.1 (qcl t) _ hc).2
  obtain ⟨kA, comp, k1, k2, k3, -⟩ := (hK.1.2 k _ hk).2
  have hcomp : comp = G.1 (qcl t) := Option.some.inj (k3.symm.trans hcls.1)
  subst hcomp
  obtain ⟨kC, hkC, -⟩ := id hcls.2
  refine W.aast hx hb hat (fun q h => by cases h) (fun h => by cases h) k1 k2 rfl hkC ⟨h0, by show _ < (arrV _ _ _).slots.size; rw [arrV_size]; exact hlt⟩ g1 (fun q h => by rw [g3] at h; cases h) (by rw [g2]; exact hkC) (by rw [g2]; exact va_assign hcls) rfl rfl hdg fun H1 e1 z oq => ?_
  refine kk H1 _ (hW.set ha (fun n f q => by cases q) ⟨ht, ?_⟩ z oq) (fun q hq => ?_)
  · rw [e1, vp_cell_q, vp_cell_q, arrV_store]
    congr 2
    funext q
    by_cases hq : q = i.toNatClampNeg
    · subst hq
      simp [updV, va_up, va_rf]
    · simp [updV, va_up, hq]
  · rcases List.mem_append.mp hq with h | h
    · exact hl q h
    · rw [List.mem_singleton.mp h]; exact hloa
theorem am_alen {nL own d : Nat} {ini : Bool} (X : CX p R s m args meth c cc nL own ini d G dA) {t n : Nat} {g : Nat → Int32} {a : Nat} {h : AH} (hW : WD G dA lo s h H) (ha : h.1 a = some (aI t n g)) (hdg : decode cc pc = .ok (.arraylength, 1))
    (kk : W p l e R s m args below meth c H locs cells slots Q (F0 m (pc + 1) ls (.int (Int32.ofNat n) :: rest))) : W p l e R s m args below meth c H locs cells slots Q (F0 m pc ls (.ref a :: rest)) := by
  obtain ⟨hx, hb, hml, hown, hts, hK, -⟩ := X
  have hat := (hW.2 a _ ha).1
  unfold atC at hat
  dsimp only at hat
  by_cases h2 : t = 2
  · rw [if_pos h2] at hat
    obtain ⟨scr, h1, h2, h3, h4, h5⟩ := hat
    exact W.alen (n := Int32.ofNat n) hx hb h1 h2 (by rw [h4] <;> rfl) rfl rfl hdg kk
  · rw [if_neg h2] at hat
    have hP : va_P G cls9 [(a, .inl (dA t, n, .inl g))] H := fun j q hj => by
      match j, hj with
      | 0, hj => cases hj; exact hat.2
      | j + 1, hj => simp at hj
    have h01 : t = 0 ∨ t = 1 := by omega
    rcases h01 with rfl | rfl
    · exact va_alen hx hb hK.1 hP 0 0 rfl (ty := .int) rfl rfl hdg kk
    · exact va_alen hx hb hK.1 hP 0 1 rfl (ty := .boolean) rfl rfl hdg kk
theorem am_qlen {nL own d : Nat} {ini : Bool} (X : CX p R s m args meth c cc nL own ini d G dA) {t n : Nat} {g : Nat → Option Nat} {a : Nat} {h : AH} (hW : WD G dA lo s h H) (ha : h.1 a = some (aQ t n g)) (hdg : decode cc pc = .ok (.arraylength, 1))
    (kk : W p l e R s m args below meth c H locs cells slots Q (F0 m (pc + 1) ls (.int (Int32.ofNat n) :: rest))) : W p l e R s m args below meth c H locs cells slots Q (F0 m pc ls (.ref a :: rest)) := by
  obtain ⟨hx, hb, hml, hown, hts, hK, -⟩ := X
  obtain ⟨ht, hat⟩ := (hW.2 a _ ha).1
  obtain ⟨k, r, rq, hk, -⟩ := am_tq (dA := dA) ht
  have hP : va_P G cls9 [(a, .inl (dA t, n, .inr (.inr (.inr (.inr g)))))] H := fun j q hj => by
    match j, hj with
    | 0, hj => cases hj; exact hat
    | j + 1, hj => simp at hj
  exact va_alen hx hb hK.1 hP 0 k rfl hk rfl hdg kk
end AM
end
section
section AM2
variable {p : Program} {l : Launch} {e : Env} {R : Room} {s : State} {m : MethodId} {args : Array Value} {below : List Frame} {meth : Method} {c : Code} {H : Heap} {locs : List Loc} {cells slots : Nat} {Q : State → Prop}
variable {cc : ByteArray} {pc : Nat} {ls : Array Slot} {rest : List Value} {G : va_G} {dA : Nat → ClassId} {lo : Nat}
theorem am_new {nL own d : Nat} {ini : Bool} (X : CX p R s m args meth c cc nL own ini d G dA) {x ci : Nat} (hlk : klT.elem (own, x, ci) = true) {h : AH} (hW : WD G dA lo s h H) (hcell : cells + 1 ≤ R.cells) (hslot : slots + (dfl ci).length ≤ R.slots) (hdg : decode cc pc = .ok (.new x, 3))
    (kk : ∀ H1 : Heap, WD G dA lo s (hN h (oB ci (dfl ci)) (dfl ci).length) H1 → W p l e R s m args below meth c H1 locs (cells + 1) (slots + (dfl ci).length) Q (F0 m (pc + 3) ls (.ref h.2.1 :: rest))) : W p l e R s m args below meth c H locs cells slots Q (F0 m pc ls rest) := by
  obtain ⟨hx, hb, hml, hown, hts, hK, -⟩ := X
  obtain ⟨r, hc, h1, h2, h3⟩ := kl_use hlk
  dsimp only at hc h1 h2 h3
  obtain ⟨hin, hty, hnm⟩ := cls_ok _ _ hc
  obtain ⟨hdl, hdf⟩ := dfl_ok _ _ hc
  have hKn := hK.1.1 ci _ hc
  rw [hdl] at hslot kk
  refine W.newcK hx hb hown (hts _ h1) (hts _ h2) (hts _ h3) rfl hdg hcell hslot hKn.2.1 hW.1.1 fun H1 kC hkC e1 z1 o1 => ?_
  have hsz := hW.1.1
  refine kk H1 (hW.new _ ?_ (by rw [z1, hsz]) (fun q hq => o1 q (by rw [← hsz]; exact hq)))
  rw [hsz]
  exact ⟨_, hc, (u_born (tyT ci) hts hin hKn hkC e1 hty).to hdf⟩
theorem am_newq {nL own d : Nat} {ini : Bool} (X : CX p R s m args meth c cc nL own ini d G dA) {x t : Nat} (hlk : qlT.elem (own, x, t) = true) {n : Int32} {h : AH} (hW : WD G dA lo s h H) (hn : ¬ n < 0) (hNb : n.toNatClampNeg ≤ 100000) (hcell : cells + 1 ≤ R.cells) (hslot : slots + n.toNatClampNeg ≤ R.slots) (hdg : decode cc pc = .ok (.anewarray x, 3))
    (kk : ∀ H1 : Heap, WD G dA lo s (hN h (aQ t n.toNatClampNeg fun _ => none) n.toNatClampNeg) H1 → W p l e R s m args below meth c H1 locs (cells + 1) (slots + n.toNatClampNeg) Q (F0 m (pc + 3) ls (.ref h.2.1 :: rest))) : W p l e R s m args below meth c H locs cells slots Q (F0 m pc ls (.int n :: rest)) := by
  obtain ⟨hx, hb, hml, hown, hts, hK, -⟩ := X
  obtain ⟨h1, ht⟩ := ql_use hlk
  dsimp only at h1 ht
  have hAO : va_AO (qlc t) s := by
    rcases ht with rfl | rfl | rfl
    · exact hK.2.2.1
    · exact hK.2.2.2.1
    · exact hK.2.2.2.2
  have hRA : s.vm.findClass ("[" ++ (FieldType.object (qlc t)).toString) = some (dA t) := by
    rcases ht with rfl | rfl | rfl
    · obtain ⟨_, _, -, -, -, h4⟩ := (hK.1.2 2 _ rfl).2; exact h4
    · obtain ⟨_, _, -, -, -, h4⟩ := (hK.1.2 3 _ rfl).2; exact h4
    · obtain ⟨_, _, -, -, -, h4⟩ := (hK.1.2 4 _ rfl).2; exact h4
  refine W.anew hx hb hown (hts _ h1) (va_AO.use hAO) rfl hdg rfl hn (by omega) hcell hslot fun cA kA comp f1 f2 f3 f4 => ?_
  have hcA : cA = dA t := Option.some.inj (f1.symm.trans hRA)
  subst hcA
  have hsz := hW.1.1
  generalize hH1 : H.push ({ cls := dA t, slots := Array.replicate n.toNatClampNeg .null, vm := .none } : Cell) = H1
  have z1 : H1.size = H.size + 1 := by rw [← hH1, Array.size_push]
  have e1 : H1[H.size]? = some (arrV (dA t) n.toNatClampNeg (fun _ => .null)) := by rw [← hH1, Array.getElem?_push_size, ← arrV_new]
  have o1 : ∀ q : Nat, q < H.size → H1[q]? = H[q]? := fun q hq => by rw [← hH1, Array.getElem?_push, if_neg (Nat.ne_of_lt hq)]
  rw [hsz]
  refine kk H1 (hW.new _ ⟨ht, ?_⟩ z1 o1)
  rw [vp_cell_q]
  exact e1
theorem room_of {st : List Value} (h : roomOk st = true) : (st.map fun v => v.category).sum ≤ 8 := Nat.le_of_ble_eq_true h
theorem nfw_ok : 8 + (nativeFrameWords "java/lang/System" "arraycopy" 5 + 11) ≤ 36 := by decide +kernel
theorem am_copy {nL own d : Nat} {ini : Bool} (X : CX p R s m args meth c cc nL own ini d G dA) (hd : 1 ≤ d) {x : Nat} (hlk : alT.elem (own, x) = true) {a0 a n0 n1 : Nat} {f g : Nat → Int32} {sp dp n : Int32} {h : AH} (hW : WD G dA lo s h H) (hl : ∀ q ∈ locs, lo ≤ q.base) (hlen : ls.size = nL) (ha0 : h.1 a0 = some (aI 0 n0 f)) (ha1 : h.1 a = some (aI 0 n1 g))
    (h1 : ¬ sp < 0) (h2 : ¬ dp < 0) (h3 : ¬ n < 0) (h4 : sp.toNatClampNeg + n.toNatClampNeg ≤ n0) (h5 : dp.toNatClampNeg + n.toNatClampNeg ≤ n1) (hroom : roomOk rest = true) (hdg : decode cc pc = .ok (.invokestatic x, 3))
    (kk : ∀ (H1 : Heap) (locs1 : List Loc), WD G dA lo s (hS h a (aI 0 n1 (va_cpy f g sp.toNatClampNeg dp.toNatClampNeg n.toNatClampNeg))) H1 → (∀ q ∈ locs1, lo ≤ q.base) → W p l e R s m args below meth c H1 locs1 cells slots Q (F0 m (pc + 3) ls rest)) : W p l e R s m args below meth c H locs cells slots Q (F0 m pc ls (.int n :: .int dp :: .ref a :: .int sp :: .ref a0 :: rest)) := by
  obtain ⟨hx, hb, hml, hown, hts, hK, -, hfr, hlc⟩ := X
  have hro := room_of hroom
  have hnf := nfw_ok
  have nn : ∀ z : Int32, ¬ z < 0 → z.toInt = (z.toNatClampNeg : Int) := by
    intro z hz
    have hz0 : (0 : Int) ≤ z.toInt := by
      have := Int32.not_lt.mp hz
      simpa using Int32.le_iff_toInt_le.mp this
    show z.toInt = ((z.toInt.toNat : Nat) : Int)
    omega
  intro T hT X
  have hc0 : H[a0]? = some (vp_cell (dA 0) (n0, .inl f)) := (hW.2 a0 _ ha0).1.2
  have hc1 : H[a]? = some (vp_cell (dA 0) (n1, .inl g)) := (hW.2 a _ ha1).1.2
  have hloa : lo ≤ a := hW.lo ha1 (fun n f q => by cases q)
  obtain ⟨-, k0, hk0, cm0, hkk0⟩ := (hK.1.2 0 _ rfl).1 n0 (fun j => .int (f j))
  obtain ⟨-, k1, hk1, cm1, hkk1⟩ := (hK.1.2 0 _ rfl).1 n1 (fun j => .int (g j))
  obtain ⟨vm', X', step⟩ := X.arraycopy hx hown (hts _ (al_use hlk)) (hts _ w_an) (hts _ w_as) (hts _ w_ai) (src := a0) (dst := a) (cs := vp_cell (dA 0) (n0, .inl f)) (cd := vp_cell (dA 0) (n1, .inl g)) (srcPos := sp) (destPos := dp) (n := n) (by rw [hT]; exact hc0) (by rw [hT]; exact hc1)
    (fun _ h => by cases h) (fun _ h => by cases h) (fun h => by cases h) (fun h => by cases h) hk0 hk1 hkk0 hkk1 (by simp) h1 h2 h3
    (by rw [nn sp h1, nn n h3]; show ¬ _ > ((arrV (dA 0) n0 (fun j => .int (f j))).slots.size : Int); rw [arrV_size]; omega)
    (by rw [nn dp h2, nn n h3]; show ¬ _ > ((arrV (dA 0) n1 (fun j => .int (g j))).slots.size : Int); rw [arrV_size]; omega)
    (fun vm₁ _ i hi => by
      have e : (vp_cell (dA 0) (n0, .inl f)).slots.getD (sp.toNatClampNeg + i) .null = .int (f (sp.toNatClampNeg + i)) := by
        show (arrV (dA 0) n0 (fun j => .int (f j))).slots.getD _ _ = _
        rw [Array.getD_eq_getD_getElem?, arrV_read _ _ (by omega)]
        rfl
      refine ⟨?_, ?_⟩
      · rw [e]
        rfl
      · rw [e]
        exact trivial)
    (g := F0 m pc ls (.int n :: .int dp :: .ref a :: .int sp :: .ref a0 :: rest)) rfl (by rw [hml]; exact hlen) (rest := rest) rfl (by rw [hb]; exact hdg) (by omega) (by show 2 * 0 + _ + _ ≤ _; omega)
  have e1 : copied (vp_cell (dA 0) (n0, .inl f)) (vp_cell (dA 0) (n1, .inl g)) sp dp n = vp_cell (dA 0) (n1, .inl (va_cpy f g sp.toNatClampNeg dp.toNatClampNeg n.toNatClampNeg)) := va_copied (fun z => .int z) (dA 0) (dA 0) f g h4
  rw [e1] at X' step
  have hlt : a < H.size := (Array.getElem?_eq_some_iff.mp hc1).1
  have hheap : ((T.setVm vm').setCell a (vp_cell (dA 0) (n1, .inl (va_cpy f g sp.toNatClampNeg dp.toNatClampNeg n.toNatClampNeg)))).heap = H.setIfInBounds a (vp_cell (dA 0) (n1, .inl (va_cpy f g sp.toNatClampNeg dp.toNatClampNeg n.toNatClampNeg))) := by rw [← hT]; rfl
  have oq : ∀ q : Nat, q ≠ a → (H.setIfInBounds a (vp_cell (dA 0) (n1, .inl (va_cpy f g sp.toNatClampNeg dp.toNatClampNeg n.toNatClampNeg))))[q]? = H[q]? := fun q hq => by simp [Array.getElem?_setIfInBounds, Ne.symm hq]
  obtain ⟨t, a1, b1⟩ := kk _ _ (hW.set ha1 (fun n f q => by cases q) ⟨by decide, show (H.setIfInBounds a _)[a]? = some _ by simp [Array.getElem?_setIfInBounds, hlt]⟩ (by simp) oq) (fun q hq => by
      rcases List.mem_append.mp hq with h | h
      · exact hl q h
      · obtain ⟨z, -, hz⟩ := List.mem_map.mp h
        rw [← hz]
        exact hloa) _ hheap X'
  exact ⟨t, step t a1, b1⟩
theorem take_len {st r : List Value} {v : Value} {n : Nat} (h : st.drop n = v :: r) : (st.take n).reverse.length = n := by
  have h1 : (st.drop n).length = r.length + 1 := by rw [h]; rfl
  rw [List.length_drop] at h1
  rw [List.length_reverse, List.length_take]
  omega
theorem take_st {st r : List Value} {v : Value} {n : Nat} (h : st.drop n = v :: r) : st = (st.take n).reverse.reverse ++ v :: r := by
  rw [List.reverse_reverse, ← h, List.take_append_drop]
theorem am_meth {d y : Nat} {cl : Ct} (hC : CM l G dA lo d cl) {k : Nat} (hkd : mkd[y]? = some k) (hy : y < 169) {as : List Value} {h : AH} {res : RV} (hs : cl y as h = some res) : ∃ (d' : Nat) (q : MT), d = d' + 1 ∧ mnm y = q.1.1 ∧ clsOf y = q.2.1 ∧ mOK q k ∧ Met l q.1.1 (wsm q) (rmm d' h res.2) (Pm G dA lo as h) (Qm G dA lo res) (res.2.2.1 - h.2.1) (res.2.2.2 - h.2.2) (fun x => lo ≤ x) := by
  obtain ⟨-, hM⟩ := hC _ _ _ _ hs
  obtain ⟨d', q, hd, hq, hM⟩ := hM hy
  obtain ⟨k', hk, hok⟩ := mt_ok y q hq (by omega)
  have : k' = k := Option.some.inj (hk.symm.trans hkd)
  subst this
  exact ⟨d', q, hd, by unfold mnm; rw [hq], by unfold clsOf; rw [hq], hok, hM⟩
theorem am_callV {nL own d : Nat} {ini : Bool} (X : CX p R s m args meth c cc nL own ini d G dA) {cl : Ct} (hC : CM l G dA lo d cl) {x y n : Nat} (hlk : mlT.elem (own, x, y) = true) (hkd : mkd[y]? = some 0) (hnp : npar y = some n) (hy : y < 169) {st : List Value} {b : Nat} (hst : st.drop n = .ref b :: rest) (hroom : roomOk rest = true) {fs : List Value} {h : AH} (hW : WD G dA lo s h H) (hl : ∀ q ∈ locs, lo ≤ q.base) (hlen : ls.size = nL) (hb0 : h.1 b = some (oB (clsOf y) fs)) {res : RV} (hs : cl y (.ref b :: (st.take n).reverse) h = some res) (hcs : cells + (res.2.2.1 - h.2.1) ≤ R.cells ∧ slots + (res.2.2.2 - h.2.2) ≤ R.slots) (hdg : decode cc pc = .ok (.invokevirtual x, 3))
    (kk : ∀ (H1 : Heap) (locs1 : List Loc), WD G dA lo s res.2 H1 → (∀ q ∈ locs1, lo ≤ q.base) → W p l e R s m args below meth c H1 locs1 (cells + (res.2.2.1 - h.2.1)) (slots + (res.2.2.2 - h.2.2)) Q (F0 m (pc + 3) ls (res.1.toList ++ rest))) : W p l e R s m args below meth c H locs cells slots Q (F0 m pc ls st) := by
  obtain ⟨hx, hb, hml, hown, hts, hK, -, hfr, hlc⟩ := X
  obtain ⟨d', q, hd, hnm, hcl, ⟨hcw, hkw, hpl, hmh, hcn, hmx, -⟩, hM⟩ := am_meth hC hkd hy hs
  subst hd
  have hlw := ml_use hlk
  dsimp only at hlw
  rw [hnm] at hlw
  unfold npar at hnp
  rw [hnm] at hnp
  obtain ⟨r', hr', cell, q1, q2, q3, q4⟩ := (hW.2 b _ hb0).1
  have hrn := cls_nm _ _ hr'
  have hgood : ∀ w ∈ wsm q, w ∈ gtbl := fun w hw => (List.mem_cons.mp hw).elim (fun e => e ▸ hcw) id
  refine am_back (va_runV (As := (st.take n).reverse) (rest := rest) (b := b) (C := q.1.1.cls) (own := cnm own) (Ts := gtbl) (nL := nL) ⟨hx, hb, hml, hown, hts⟩ hM (cwV n hts (gt_gtbl ?_) rfl rfl rfl ⟨rfl, hmh.1, hmh.2, hnp⟩ ⟨hfr, ?_⟩) ⟨Pm_blind, ⟨cell, q1, by rw [q3]; rfl, ?_⟩, fun U hU hWm => ⟨rfl, by rw [hU]; exact hW.moved hWm.alike, hK.warm hWm⟩⟩ rfl (take_len hst) hlen (take_st hst) (lv_room (room_of hroom)) hdg hcs) hl kk
  · intro w hw
    rcases List.mem_append.mp hw with h | h
    · simp only [List.mem_cons, List.not_mem_nil, or_false] at h
      rcases h with rfl | rfl | rfl | rfl
      · exact hlw
      · exact hkw _ (by simp [kwd])
      · exact hkw _ (by simp [kwd])
      · exact hkw _ (by simp [kwd])
    · exact hgood w h
  · show 8 + (q.1.2.2.1 + 11) + 36 * d' ≤ R.locals
    omega
  · rw [hcn, q2, ← hcl, ← hrn]
    exact (hK.1.1 _ _ hr').2.1
theorem am_callS {nL own d : Nat} {ini : Bool} (X : CX p R s m args meth c cc nL own ini d G dA) {cl : Ct} (hC : CM l G dA lo d cl) {x y n : Nat} (hlk : mlT.elem (own, x, y) = true) (hkd : mkd[y]? = some 1) (hnp : npar y = some n) (hy : y < 169) {st : List Value} (hst : n ≤ st.length) (hroom : roomOk (st.drop n) = true) {h : AH} (hW : WD G dA lo s h H) (hl : ∀ q ∈ locs, lo ≤ q.base) (hlen : ls.size = nL) {res : RV} (hs : cl y (st.take n).reverse h = some res) (hcs : cells + (res.2.2.1 - h.2.1) ≤ R.cells ∧ slots + (res.2.2.2 - h.2.2) ≤ R.slots) (hdg : decode cc pc = .ok (.invokestatic x, 3))
    (kk : ∀ (H1 : Heap) (locs1 : List Loc), WD G dA lo s res.2 H1 → (∀ q ∈ locs1, lo ≤ q.base) → W p l e R s m args below meth c H1 locs1 (cells + (res.2.2.1 - h.2.1)) (slots + (res.2.2.2 - h.2.2)) Q (F0 m (pc + 3) ls (res.1.toList ++ st.drop n))) : W p l e R s m args below meth c H locs cells slots Q (F0 m pc ls st) := by
  obtain ⟨hx, hb, hml, hown, hts, hK, -, hfr, hlc⟩ := X
  obtain ⟨d', q, hd, hnm, hcl, ⟨hcw, hkw, hpl, hmh, hcn, hmx, -⟩, hM⟩ := am_meth hC hkd hy hs
  subst hd
  have hlw := ml_use hlk
  dsimp only at hlw
  rw [hnm] at hlw
  unfold npar at hnp
  rw [hnm] at hnp
  have hgood : ∀ w ∈ wsm q, w ∈ gtbl := fun w hw => (List.mem_cons.mp hw).elim (fun e => e ▸ hcw) id
  refine am_back (va_runS (As := (st.take n).reverse) (rest := st.drop n) (own := cnm own) (Ts := gtbl) (nL := nL) ⟨hx, hb, hml, hown, hts⟩ hM ⟨callB_of n hts (gt_gtbl hgood) rfl rfl rfl (hts _ (hkw _ (by simp [kwd]))) (hts _ hlw) ⟨hmh.1, hmh.2, hnp⟩ ⟨hfr, ?_⟩, hts _ (hkw _ (by simp [kwd]))⟩ ⟨Pm_blind, fun U hU hWm => ⟨rfl, by rw [hU]; exact hW.moved hWm.alike, hK.warm hWm⟩⟩ rfl (by rw [List.length_reverse, List.length_take]; omega) hlen (by show st = _; rw [List.reverse_reverse, List.take_append_drop]) (lv_room (room_of hroom)) hdg hcs) hl kk
  show 8 + (q.1.2.2.1 + 11) + 36 * d' ≤ R.locals
  omega
theorem am_callI {nL own d : Nat} {ini : Bool} (X : CX p R s m args meth c cc nL own ini d G dA) {cl : Ct} (hC : CM l G dA lo d cl) {x y n : Nat} (hlk : (mlT.elem (own, x, y) || nlT.elem (own, x, y)) = true) (hkd : mkd[y]? = some 2) (hnp : npar y = some n) (hy : y < 169) {st : List Value} {b : Nat} (hst : st.drop n = .ref b :: rest) (hroom : roomOk rest = true) {h : AH} (hW : WD G dA lo s h H) (hl : ∀ q ∈ locs, lo ≤ q.base) (hlen : ls.size = nL) {res : RV} (hs : cl y (.ref b :: (st.take n).reverse) h = some res) (hcs : cells + (res.2.2.1 - h.2.1) ≤ R.cells ∧ slots + (res.2.2.2 - h.2.2) ≤ R.slots) (hdg : decode cc pc = .ok (.invokespecial x, 3))
    (kk : ∀ (H1 : Heap) (locs1 : List Loc), WD G dA lo s res.2 H1 → (∀ q ∈ locs1, lo ≤ q.base) → W p l e R s m args below meth c H1 locs1 (cells + (res.2.2.1 - h.2.1)) (slots + (res.2.2.2 - h.2.2)) Q (F0 m (pc + 3) ls (res.1.toList ++ rest))) : W p l e R s m args below meth c H locs cells slots Q (F0 m pc ls st) := by
  obtain ⟨hx, hb, hml, hown, hts, hK, -, hfr, hlc⟩ := X
  obtain ⟨d', q, hd, hnm, hcl, ⟨hcw, hkw, hpl, hmh, hcn, hmx, hin⟩, hM⟩ := am_meth hC hkd hy hs
  subst hd
  obtain ⟨hin1, hin2⟩ := hin rfl
  unfold npar at hnp
  rw [hnm] at hnp
  have hgood : ∀ w ∈ wsm q, w ∈ gtbl := fun w hw => (List.mem_cons.mp hw).elim (fun e => e ▸ hcw) id
  have hwm : wsm q = Cond.code q.1.1 q.1.2.1 q.1.2.2.1 none :: gtbl := by unfold wsm cwd; rw [hin2]
  rw [Bool.or_eq_true] at hlk
  rcases hlk with hlk | hlk
  · have hlw := ml_use hlk
    dsimp only at hlw
    rw [hnm] at hlw
    refine am_back (va_runI (As := (st.take n).reverse) (rest := rest) (b := b) (own := cnm own) (Ts := gtbl) (nL := nL) ⟨hx, hb, hml, hown, hts⟩ hM ⟨callB_of n hts (gt_gtbl hgood) hwm rfl rfl (hts _ (hkw _ (by simp [kwd]))) (hts _ hlw) ⟨hmh.1, hmh.2, hnp⟩ ⟨hfr, ?_⟩, hin1, hts _ (hkw _ (by simp [kwd]))⟩ ⟨Pm_blind, fun U hU hWm => ⟨rfl, by rw [hU]; exact hW.moved hWm.alike, hK.warm hWm⟩⟩ rfl (take_len hst) hlen (take_st hst) (lv_room (room_of hroom)) hdg hcs) hl kk
    show 8 + (q.1.2.2.1 + 11) + 36 * d' ≤ R.locals
    omega
  · have hlw := hK.2.1 _ (elem_in hlk)
    dsimp only at hlw
    rw [hnm] at hlw
    refine am_back (va_runIN (As := (st.take n).reverse) (rest := rest) (b := b) (own := cnm own) (Ts := gtbl) (nL := nL) ⟨hx, hb, hml, hown, hts⟩ hM ⟨va_cnB n hts (gt_gtbl hgood) hwm rfl rfl hlw (hts _ (hkw _ (by simp [kwd]))) ⟨hmh.1, hmh.2, hnp⟩ ⟨hfr, ?_⟩, hin1, hts _ (hkw _ (by simp [kwd]))⟩ ⟨Pm_blind, fun U hU hWm => ⟨rfl, by rw [hU]; exact hW.moved hWm.alike, hK.warm hWm⟩⟩ rfl (take_len hst) hlen (take_st hst) (lv_room (room_of hroom)) hdg hcs) hl kk
    show 8 + (q.1.2.2.1 + 11) + 36 * d' ≤ R.locals
    omega
end AM2
end
section
section AM3
variable {p : Program} {l : Launch} {e : Env} {R : Room} {s : State} {m : MethodId} {args : Array Value} {below : List Frame} {meth : Method} {c : Code} {H : Heap} {locs : List Loc} {cells slots : Nat} {Q : State → Prop}
variable {cc : ByteArray} {pc : Nat} {ls : Array Slot} {rest : List Value} {G : va_G} {dA : Nat → ClassId} {lo : Nat}
theorem cb_i : componentBytes (newarray.typeOf .int) = 4 := by decide +kernel
theorem cb_z : componentBytes (newarray.typeOf .boolean) = 1 := by decide +kernel
set_option maxHeartbeats 200000 in
theorem am_newi {nL own d : Nat} {ini : Bool} (X : CX p R s m args meth c cc nL own ini d G dA) {n : Int32} {h : AH} (hW : WD G dA lo s h H) (hn : ¬ n < 0) (hNb : n.toNatClampNeg ≤ 100000) (hcell : cells + 1 ≤ R.cells) (hslot : slots + n.toNatClampNeg ≤ R.slots) (hdg : decode cc pc = .ok (.newarray .int, 2))
    (kk : ∀ H1 : Heap, WD G dA lo s (hN h (aI 0 n.toNatClampNeg fun _ => 0) n.toNatClampNeg) H1 → W p l e R s m args below meth c H1 locs (cells + 1) (slots + n.toNatClampNeg) Q (F0 m (pc + 2) ls (.ref h.2.1 :: rest))) : W p l e R s m args below meth c H locs cells slots Q (F0 m pc ls (.int n :: rest)) := by
  obtain ⟨hx, hb, hml, hown, hts, hK, -⟩ := X
  have hbt : n.toNatClampNeg * componentBytes (newarray.typeOf .int) ≤ 536870912 := by rw [cb_i]; omega
  have hac : (Cond.arrayClass (newarray.typeOf .int)).before args s = true := hts (.arrayClass .int) w_ci
  refine va_newaK (atype := .int) (N := n.toNatClampNeg) (h := h.2.1) hx hb hac (g := F0 m pc ls (.int n :: rest)) rfl hdg (n := n) (rest := rest) rfl hn rfl hbt hcell hslot hW.1.1 fun H1 cA e1 z1 o1 hAr hNm => ?_
  have hsz := hW.1.1
  have hRA : s.vm.findClass ("[" ++ (newarray.typeOf .int).toString) = some (dA 0) := (hK.1.2 0 _ rfl).2
  have hcA : cA = dA 0 := Option.some.inj (hNm.symm.trans hRA)
  subst hcA
  refine kk H1 (hW.new _ ⟨by decide, ?_⟩ (by rw [z1, hsz]) (fun q hq => o1 q (by rw [← hsz]; exact hq)))
  rw [hsz, vp_cell_i]
  exact e1
set_option maxHeartbeats 200000 in
theorem am_newz {nL own d : Nat} {ini : Bool} (X : CX p R s m args meth c cc nL own ini d G dA) {n : Int32} {h : AH} (hW : WD G dA lo s h H) (hn : ¬ n < 0) (hNb : n.toNatClampNeg ≤ 100000) (hcell : cells + 1 ≤ R.cells) (hslot : slots + n.toNatClampNeg ≤ R.slots) (hdg : decode cc pc = .ok (.newarray .boolean, 2))
    (kk : ∀ H1 : Heap, WD G dA lo s (hN h (aI 1 n.toNatClampNeg fun _ => 0) n.toNatClampNeg) H1 → W p l e R s m args below meth c H1 locs (cells + 1) (slots + n.toNatClampNeg) Q (F0 m (pc + 2) ls (.ref h.2.1 :: rest))) : W p l e R s m args below meth c H locs cells slots Q (F0 m pc ls (.int n :: rest)) := by
  obtain ⟨hx, hb, hml, hown, hts, hK, -⟩ := X
  have hbt : n.toNatClampNeg * componentBytes (newarray.typeOf .boolean) ≤ 536870912 := by rw [cb_z]; omega
  have hac : (Cond.arrayClass (newarray.typeOf .boolean)).before args s = true := hts (.arrayClass .boolean) w_cz
  refine va_newaK (atype := .boolean) (N := n.toNatClampNeg) (h := h.2.1) hx hb hac (g := F0 m pc ls (.int n :: rest)) rfl hdg (n := n) (rest := rest) rfl hn rfl hbt hcell hslot hW.1.1 fun H1 cA e1 z1 o1 hAr hNm => ?_
  have hsz := hW.1.1
  have hRA : s.vm.findClass ("[" ++ (newarray.typeOf .boolean).toString) = some (dA 1) := (hK.1.2 1 _ rfl).2
  have hcA : cA = dA 1 := Option.some.inj (hNm.symm.trans hRA)
  subst hcA
  refine kk H1 (hW.new _ ⟨by decide, ?_⟩ (by rw [z1, hsz]) (fun q hq => o1 q (by rw [← hsz]; exact hq)))
  rw [hsz, vp_cell_i]
  exact e1
end AM3
end
section
theorem aft_inv {k : Nat} {q : RV} {pc : Nat} {L : List (Option Value)} {rest : List Value} {K : Kt} {res : RV} (h : aft k q pc L rest K = some res) : K (pc + 3) L (q.1.toList ++ rest) q.2 = some res := by
  obtain ⟨v, h'⟩ := q
  unfold aft at h
  split at h
  · unfold rV at h
    split at h
    · next hq => dsimp only at hq; subst hq; exact h
    · cases h
  · unfold rQ at h
    split at h
    · next hq => dsimp only at hq; subst hq; exact h
    · next hq => dsimp only at hq; subst hq; exact h
    · cases h
  · unfold rI at h
    split at h
    · next hq => dsimp only at hq; subst hq; exact h
    · cases h
def isRet (i : Instr) : Bool := match i with
  | .ireturn => true
  | .areturn => true
  | .return_ => true
  | _ => false
section AM4
variable {p : Program} {l : Launch} {e : Env} {R : Room} {s : State} {m : MethodId} {args : Array Value} {below : List Frame} {meth : Method} {c : Code} {H : Heap} {locs : List Loc} {cells slots : Nat} {Q : State → Prop}
variable {cc : ByteArray} {pc : Nat} {ls : Array Slot} {rest : List Value} {G : va_G} {dA : Nat → ClassId} {lo : Nat}
set_option maxHeartbeats 4000000 in
theorem am_step {nL own d : Nat} {ini : Bool} (X : CX p R s m args meth c cc nL own ini d G dA) {cl : Ct} (hC : CM l G dA lo d cl) {rt : Option FieldType} {t0 s0 : Nat} {i : Instr} {r : Nat × (Nat × Nat)} (hdec : decode cc pc = .ok (i, lenI i r)) (hlk : lk own ini i r = true) (hnr : isRet i = false)
    {L : List (Option Value)} {st : List Value} {h : AH} {K : Kt} {res : RV} (hs : stp cl (Nat.blt 0 d) rt i r pc L st h K = some res) (hR : Re G dA lo s nL t0 s0 L h H locs cells slots ls) (hmx : res.2.2.1 ≤ t0 + R.cells ∧ res.2.2.2 ≤ s0 + R.slots)
    (hmo : ∀ pc L st h', K pc L st h' = some res → leH h' res.2)
    (kk : ∀ (pc' : Nat) (L' : List (Option Value)) (st' : List Value) (h' : AH) (H' : Heap) (locs' : List Loc) (cells' slots' : Nat) (ls' : Array Slot), K pc' L' st' h' = some res → Re G dA lo s nL t0 s0 L' h' H' locs' cells' slots' ls' → W p l e R s m args below meth c H' locs' cells' slots' Q (F0 m pc' ls' st')) :
    W p l e R s m args below meth c H locs cells slots Q (F0 m pc ls st) := by
  obtain ⟨hW, hL, hn, hl, hc1, hc2⟩ := id hR
  have hx := X.1
  have hb := X.2.1
  have hml := X.2.2.1
  have hown := X.2.2.2.1
  have hts := X.2.2.2.2.1
  have hfr := X.2.2.2.2.2.2.2.1
  have hlc := X.2.2.2.2.2.2.2.2
  have hlen : ls.size = nL := hL.1.trans hn
  have go : ∀ {pc' : Nat} {L' : List (Option Value)} {st' : List Value} {ls' : Array Slot}, K pc' L' st' h = some res → lvr ls' L' → L'.length = nL → W p l e R s m args below meth c H locs cells slots Q (F0 m pc' ls' st') := fun hk h1 h2 => kk _ _ _ _ _ _ _ _ _ hk ⟨hW, h1, h2, hl, hc1, hc2⟩
  have st1 : ∀ {pc' : Nat} {st' : List Value} {i : Nat} {v : Value} {ls' : Array Slot}, i < L.length → noL L i = true → K pc' (L.set i (some v)) st' h = some res → lv_has ls' L.length ((i, v) :: (lvP L).filter (fun q => !(q.1 == i) && !(q.1 + 1 == i && q.2.category == 2))) → W p l e R s m args below meth c H locs cells slots Q (F0 m pc' ls' st') := fun h1 h2 hk h3 => go hk (lvr_set h1 h2 h3) (by rw [List.length_set]; exact hn)
  cases i with
  | aconst_null =>
    exact lv_null hx hb hdec (go hs hL hn)
  | iconst n =>
    exact lv_iconst hx hb hdec rfl (go hs hL hn)
  | bipush n =>
    exact lv_bipush hx hb hdec rfl (go hs hL hn)
  | sipush n =>
    exact lv_sipush hx hb hdec rfl (go hs hL hn)
  | lconst n =>
    exact lv_lconst hx hb hdec rfl (go hs hL hn)
  | ldc2_w n =>
    exact lv_ldc2 hx hb hown (hts _ (ll_use hlk)) hdec (go hs hL hn)
  | iload_n k =>
    obtain ⟨x, h1, h9⟩ := gLI_inv hs
    clear hs
    have hs := h9
    clear h9
    exact lv_iload_n hx hb hdec rfl (hL.2.2 _ _ h1) (go hs hL hn)
  | iload k =>
    obtain ⟨x, h1, h9⟩ := gLI_inv hs
    clear hs
    have hs := h9
    clear h9
    exact lv_iload hx hb hdec (hL.2.2 _ _ h1) (go hs hL hn)
  | lload_n k =>
    obtain ⟨x, h1, h9⟩ := gLL_inv hs
    clear hs
    have hs := h9
    clear h9
    exact lv_lload_n hx hb hdec rfl (hL.2.2 _ _ h1) (go hs hL hn)
  | lload k =>
    obtain ⟨x, h1, h9⟩ := gLL_inv hs
    clear hs
    have hs := h9
    clear h9
    exact lv_lload hx hb hdec (hL.2.2 _ _ h1) (go hs hL hn)
  | aload_n k =>
    rcases gLQ_inv hs with ⟨x, h1, hs⟩ | ⟨h1, hs⟩
    · exact lv_aload_n hx hb hdec rfl (hL.2.2 _ _ h1) (go hs hL hn)
    · exact lv_aload_nN hx hb hdec rfl (hL.2.2 _ _ h1) (go hs hL hn)
  | aload k =>
    rcases gLQ_inv hs with ⟨x, h1, hs⟩ | ⟨h1, hs⟩
    · exact lv_aload hx hb hdec (hL.2.2 _ _ h1) (go hs hL hn)
    · exact lv_aloadN hx hb hdec (hL.2.2 _ _ h1) (go hs hL hn)
  | istore_n k =>
    obtain ⟨x, r, e0, h9⟩ := pI_inv hs
    clear hs
    have hs := h9
    clear h9
    subst e0
    obtain ⟨h1, h2, h9⟩ := sL_inv hs
    clear hs
    have hs := h9
    clear h9
    exact lv_istore_n hx hb hdec rfl (lvr_has hL) h1 rfl (fun ls2 h3 => st1 h1 h2 hs h3)
  | istore k =>
    obtain ⟨x, r, e0, h9⟩ := pI_inv hs
    clear hs
    have hs := h9
    clear h9
    subst e0
    obtain ⟨h1, h2, h9⟩ := sL_inv hs
    clear hs
    have hs := h9
    clear h9
    exact lv_istore hx hb hdec (lvr_has hL) h1 rfl (fun ls2 h3 => st1 h1 h2 hs h3)
  | lstore k =>
    obtain ⟨x, r, e0, h9⟩ := pL_inv hs
    clear hs
    have hs := h9
    clear h9
    subst e0
    obtain ⟨h1, h2, h9⟩ := sLL_inv hs
    clear hs
    have hs := h9
    clear h9
    exact lv_lstore hx hb hdec (lvr_has hL) h1 rfl (fun ls2 h3 => go hs (lvr_set2 h1 h2 h3) (by rw [List.length_set, List.length_set]; exact hn))
  | astore_n k =>
    rcases pQ_inv hs with ⟨x, r, e0, h9⟩ | ⟨r, e0, h9⟩ <;> (clear hs; have hs := h9; clear h9; subst e0)
    · obtain ⟨h1, h2, h9⟩ := sL_inv hs
      clear hs
      have hs := h9
      clear h9
      exact lv_astore_n hx hb hdec rfl (lvr_has hL) h1 rfl (fun ls2 h3 => st1 h1 h2 hs h3)
    · obtain ⟨h1, h2, h9⟩ := sL_inv hs
      clear hs
      have hs := h9
      clear h9
      exact lv_astore_nN hx hb hdec rfl (lvr_has hL) h1 rfl (fun ls2 h3 => st1 h1 h2 hs h3)
  | astore k =>
    rcases pQ_inv hs with ⟨x, r, e0, h9⟩ | ⟨r, e0, h9⟩ <;> (clear hs; have hs := h9; clear h9; subst e0)
    · obtain ⟨h1, h2, h9⟩ := sL_inv hs
      clear hs
      have hs := h9
      clear h9
      exact lv_astore hx hb hdec (lvr_has hL) h1 rfl (fun ls2 h3 => st1 h1 h2 hs h3)
    · obtain ⟨h1, h2, h9⟩ := sL_inv hs
      clear hs
      have hs := h9
      clear h9
      exact lv_astoreN hx hb hdec (lvr_has hL) h1 rfl (fun ls2 h3 => st1 h1 h2 hs h3)
  | iinc k n =>
    obtain ⟨x, h0, h9⟩ := gLI_inv hs
    clear hs
    have hs := h9
    clear h9
    obtain ⟨h1, h2, h9⟩ := sL_inv hs
    clear hs
    have hs := h9
    clear h9
    obtain ⟨j, hj⟩ := List.getElem?_of_mem (mem_lvP.mpr h0)
    exact lv_iinc hx hb hdec (lvr_has hL) hj rfl h1 rfl (fun ls2 h3 => st1 h1 h2 hs h3)
  | iadd =>
    obtain ⟨y, r, e0, h9⟩ := pI_inv hs
    clear hs
    have hs := h9
    clear h9
    subst e0
    obtain ⟨x, r, e0, h9⟩ := pI_inv hs
    clear hs
    have hs := h9
    clear h9
    subst e0
    exact lv_iadd hx hb hdec (go hs hL hn)
  | isub =>
    obtain ⟨y, r, e0, h9⟩ := pI_inv hs
    clear hs
    have hs := h9
    clear h9
    subst e0
    obtain ⟨x, r, e0, h9⟩ := pI_inv hs
    clear hs
    have hs := h9
    clear h9
    subst e0
    exact lv_isub hx hb hdec (go hs hL hn)
  | imul =>
    obtain ⟨y, r, e0, h9⟩ := pI_inv hs
    clear hs
    have hs := h9
    clear h9
    subst e0
    obtain ⟨x, r, e0, h9⟩ := pI_inv hs
    clear hs
    have hs := h9
    clear h9
    subst e0
    exact lv_imul hx hb hdec (go hs hL hn)
  | iand =>
    obtain ⟨y, r, e0, h9⟩ := pI_inv hs
    clear hs
    have hs := h9
    clear h9
    subst e0
    obtain ⟨x, r, e0, h9⟩ := pI_inv hs
    clear hs
    have hs := h9
    clear h9
    subst e0
    exact lv_iand hx hb hdec (go hs hL hn)
  | ior =>
    obtain ⟨y, r, e0, h9⟩ := pI_inv hs
    clear hs
    have hs := h9
    clear h9
    subst e0
    obtain ⟨x, r, e0, h9⟩ := pI_inv hs
    clear hs
    have hs := h9
    clear h9
    subst e0
    exact lv_ior hx hb hdec (go hs hL hn)
  | ishl =>
    obtain ⟨y, r, e0, h9⟩ := pI_inv hs
    clear hs
    have hs := h9
    clear h9
    subst e0
    obtain ⟨x, r, e0, h9⟩ := pI_inv hs
    clear hs
    have hs := h9
    clear h9
    subst e0
    exact lv_ishl hx hb hdec (go hs hL hn)
  | ishr =>
    obtain ⟨y, r, e0, h9⟩ := pI_inv hs
    clear hs
    have hs := h9
    clear h9
    subst e0
    obtain ⟨x, r, e0, h9⟩ := pI_inv hs
    clear hs
    have hs := h9
    clear h9
    subst e0
    exact lv_ishr hx hb hdec (go hs hL hn)
  | idiv =>
    obtain ⟨y, r, e0, h9⟩ := pI_inv hs
    clear hs
    have hs := h9
    clear h9
    subst e0
    obtain ⟨x, r, e0, h9⟩ := pI_inv hs
    clear hs
    have hs := h9
    clear h9
    subst e0
    by_cases h0 : y = 0
    · rw [if_pos h0] at hs; cases hs
    · rw [if_neg h0] at hs
      exact lv_idiv hx hb hdec h0 (go hs hL hn)
  | irem =>
    obtain ⟨y, r, e0, h9⟩ := pI_inv hs
    clear hs
    have hs := h9
    clear h9
    subst e0
    obtain ⟨x, r, e0, h9⟩ := pI_inv hs
    clear hs
    have hs := h9
    clear h9
    subst e0
    by_cases h0 : y = 0
    · rw [if_pos h0] at hs; cases hs
    · rw [if_neg h0] at hs
      exact lv_irem hx hb hdec h0 (go hs hL hn)
  | i2l =>
    obtain ⟨x, r, e0, h9⟩ := pI_inv hs
    clear hs
    have hs := h9
    clear h9
    subst e0
    exact lv_i2l hx hb hdec rfl (go hs hL hn)
  | l2i =>
    obtain ⟨x, r, e0, h9⟩ := pL_inv hs
    clear hs
    have hs := h9
    clear h9
    subst e0
    exact lv_l2i hx hb hdec rfl (go hs hL hn)
  | i2b =>
    obtain ⟨x, r, e0, h9⟩ := pI_inv hs
    clear hs
    have hs := h9
    clear h9
    subst e0
    exact lv_i2b hx hb hdec rfl (go hs hL hn)
  | i2s =>
    obtain ⟨x, r, e0, h9⟩ := pI_inv hs
    clear hs
    have hs := h9
    clear h9
    subst e0
    exact lv_i2s hx hb hdec rfl (go hs hL hn)
  | ladd =>
    obtain ⟨y, r, e0, h9⟩ := pL_inv hs
    clear hs
    have hs := h9
    clear h9
    subst e0
    obtain ⟨x, r, e0, h9⟩ := pL_inv hs
    clear hs
    have hs := h9
    clear h9
    subst e0
    exact lv_ladd hx hb hdec (go hs hL hn)
  | lcmp =>
    obtain ⟨y, r, e0, h9⟩ := pL_inv hs
    clear hs
    have hs := h9
    clear h9
    subst e0
    obtain ⟨x, r, e0, h9⟩ := pL_inv hs
    clear hs
    have hs := h9
    clear h9
    subst e0
    exact W.lcmp hx hb hdec (go hs hL hn)
  | dup =>
    rcases pQ_inv hs with ⟨x, r, e0, h9⟩ | ⟨r, e0, h9⟩ <;> (clear hs; have hs := h9; clear h9; subst e0)
    · exact lv_dup hx hb hdec rfl (go hs hL hn)
    · cases hs
  | dup2 =>
    obtain ⟨x, r, e0, h9⟩ := pI_inv hs
    clear hs
    have hs := h9
    clear h9
    subst e0
    obtain ⟨a, r, e0, h9⟩ := pR_inv hs
    clear hs
    have hs := h9
    clear h9
    subst e0
    exact lv_dup2_11 hx hb hdec rfl rfl (go hs hL hn)
  | pop =>
    obtain ⟨x, r, e0, h9⟩ := pI_inv hs
    clear hs
    have hs := h9
    clear h9
    subst e0
    exact lv_pop hx hb hdec rfl (go hs hL hn)
  | goto off =>
    obtain ⟨t, ht, h9⟩ := jmp_inv hs
    clear hs
    have hs := h9
    clear h9
    exact lv_goto hx hb hdec ht (go hs hL hn)
  | if_icmp cd off =>
    obtain ⟨y, r, e0, h9⟩ := pI_inv hs
    clear hs
    have hs := h9
    clear h9
    subst e0
    obtain ⟨x, r, e0, h9⟩ := pI_inv hs
    clear hs
    have hs := h9
    clear h9
    subst e0
    obtain ⟨t, ht, h9⟩ := jmp_inv hs
    clear hs
    have hs := h9
    clear h9
    cases cd with
    | eq => exact lv_icmp_eq hx hb hdec ht (fun q => go ((if_pos q).symm.trans hs) hL hn) (fun q => go ((if_neg q).symm.trans hs) hL hn)
    | ne => exact lv_icmp_ne hx hb hdec ht (fun q => go ((if_neg q).symm.trans hs) hL hn) (fun q => go ((if_pos q).symm.trans hs) hL hn)
    | lt => exact lv_icmp_lt hx hb hdec ht (fun q => go ((if_pos q).symm.trans hs) hL hn) (fun q => go ((if_neg q).symm.trans hs) hL hn)
    | ge => exact lv_icmp_ge hx hb hdec ht (fun q => go ((if_pos q).symm.trans hs) hL hn) (fun q => go ((if_neg q).symm.trans hs) hL hn)
    | gt => exact lv_icmp_gt hx hb hdec ht (fun q => go ((if_pos q).symm.trans hs) hL hn) (fun q => go ((if_neg q).symm.trans hs) hL hn)
    | le => exact lv_icmp_le hx hb hdec ht (fun q => go ((if_pos q).symm.trans hs) hL hn) (fun q => go ((if_neg q).symm.trans hs) hL hn)
  | ifCond cd off =>
    obtain ⟨x, r, e0, h9⟩ := pI_inv hs
    clear hs
    have hs := h9
    clear h9
    subst e0
    obtain ⟨t, ht, h9⟩ := jmp_inv hs
    clear hs
    have hs := h9
    clear h9
    cases cd with
    | eq => exact lv_if_eq hx hb hdec ht (fun q => go ((if_pos q).symm.trans hs) hL hn) (fun q => go ((if_neg q).symm.trans hs) hL hn)
    | ne => exact lv_if_ne hx hb hdec ht (fun q => go ((if_neg q).symm.trans hs) hL hn) (fun q => go ((if_pos q).symm.trans hs) hL hn)
    | lt => exact lv_if_lt hx hb hdec ht (fun q => go ((if_pos q).symm.trans hs) hL hn) (fun q => go ((if_neg q).symm.trans hs) hL hn)
    | ge => exact lv_if_ge hx hb hdec ht (fun q => go ((if_pos q).symm.trans hs) hL hn) (fun q => go ((if_neg q).symm.trans hs) hL hn)
    | gt => exact lv_if_gt hx hb hdec ht (fun q => go ((if_pos q).symm.trans hs) hL hn) (fun q => go ((if_neg q).symm.trans hs) hL hn)
    | le => exact lv_if_le hx hb hdec ht (fun q => go ((if_pos q).symm.trans hs) hL hn) (fun q => go ((if_neg q).symm.trans hs) hL hn)
  | ifnull off =>
    obtain ⟨t, ht, h9⟩ := jmp_inv hs
    clear hs
    have hs := h9
    clear h9
    rcases pQ_inv hs with ⟨x, r, e0, h9⟩ | ⟨r, e0, h9⟩ <;> (clear hs; have hs := h9; clear h9; subst e0)
    · exact lv_ifnull hx hb hdec (go hs hL hn)
    · exact lv_ifnullN hx hb hdec ht (go hs hL hn)
  | ifnonnull off =>
    obtain ⟨t, ht, h9⟩ := jmp_inv hs
    clear hs
    have hs := h9
    clear h9
    rcases pQ_inv hs with ⟨x, r, e0, h9⟩ | ⟨r, e0, h9⟩ <;> (clear hs; have hs := h9; clear h9; subst e0)
    · exact lv_ifnonnull hx hb hdec ht (go hs hL hn)
    · exact lv_ifnonnullN hx hb hdec (go hs hL hn)
  | tableswitch df low hi offs =>
    obtain ⟨x, r, e0, h9⟩ := pI_inv hs
    clear hs
    have hs := h9
    clear h9
    subst e0
    obtain ⟨hq, h9⟩ := cond_inv hs
    clear hs
    have hs := h9
    clear h9
    have hq : hi - low + 1 = (offs.toList.length : Int) := by simpa using hq
    rcases swt_inv _ _ hs with ⟨k, o, h1, h2, hs⟩ | ⟨h1, hs⟩
    · obtain ⟨t, ht, h9⟩ := jmp_inv hs
      clear hs
      have hs := h9
      clear h9
      have hk : k < offs.toList.length := (List.getElem?_eq_some_iff.mp h1).1
      refine lv_tableIn hx hb hdec (by omega) (by omega) (off := o) ?_ ht (go hs hL hn)
      rw [show (x.toInt - low).toNat = k by omega, ← Array.getElem?_toList]
      exact h1
    · obtain ⟨t, ht, h9⟩ := jmp_inv hs
      clear hs
      have hs := h9
      clear h9
      refine lv_tableOut hx hb hdec ?_ ht (go hs hL hn)
      by_cases h2 : x.toInt < low
      · exact Or.inl h2
      · right
        have h3 := h1 (x.toInt - low).toNat
        omega
  | getfield n =>
    obtain ⟨a, st, e0, h9⟩ := pR_inv hs
    clear hs
    have hs := h9
    clear h9
    subst e0
    obtain ⟨r1, r2, r3⟩ := r
    match r3 with
    | 0 =>
      obtain ⟨fs, x, h1, h2, h9⟩ := gfI_inv hs
      clear hs
      have hs := h9
      clear h9
      exact am_get X hlk hW h1 h2 hdec (go hs hL hn)
    | 1 =>
      obtain ⟨fs, h1, ⟨x, h2, hs⟩ | ⟨h2, hs⟩⟩ := gfQ_inv hs
      · exact am_get X hlk hW h1 h2 hdec (go hs hL hn)
      · cases hs
    | 2 =>
      obtain ⟨fs, x, h1, h2, h9⟩ := gfI_inv hs
      clear hs
      have hs := h9
      clear h9
      exact am_get X hlk hW h1 h2 hdec (go hs hL hn)
    | 3 =>
      obtain ⟨fs, x, h1, h2, h9⟩ := gfI_inv hs
      clear hs
      have hs := h9
      clear h9
      exact am_get X hlk hW h1 h2 hdec (go hs hL hn)
    | 4 =>
      obtain ⟨fs, h1, ⟨x, h2, hs⟩ | ⟨h2, hs⟩⟩ := gfQ_inv hs
      · exact am_get X hlk hW h1 h2 hdec (go hs hL hn)
      · exact am_get X hlk hW h1 h2 hdec (go hs hL hn)
    | k + 5 =>
      obtain ⟨fs, x, h1, h2, h9⟩ := gfI_inv hs
      clear hs
      have hs := h9
      clear h9
      exact am_get X hlk hW h1 h2 hdec (go hs hL hn)
  | putfield n =>
    obtain ⟨r1, r2, r3⟩ := r
    have hlk : (flT.elem (own, n, r1, r2) && (fkOk r1 r2 r3 && ffin own ini r1 r2)) = true := hlk
    rw [Bool.and_eq_true, Bool.and_eq_true] at hlk
    obtain ⟨hk1, hk2, hk3⟩ := hlk
    match r3, hk2 with
    | 0, hk2 =>
      obtain ⟨x, st, e0, h9⟩ := pI_inv hs
      clear hs
      have hs := h9
      clear h9
      subst e0
      obtain ⟨a, st, e0, h9⟩ := pR_inv hs
      clear hs
      have hs := h9
      clear h9
      subst e0
      obtain ⟨fs, h1, h2, h9⟩ := pfV_inv hs
      clear hs
      have hs := h9
      clear h9
      exact am_put X hk1 hk2 hk3 hW hl h1 h2 (Or.inl ⟨rfl, x, rfl⟩) hdec (fun H1 locs1 g1 g2 => kk _ _ _ _ _ _ _ _ _ hs ⟨g1, hL, hn, g2, hc1, hc2⟩)
    | 1, hk2 =>
      rcases pQ_inv hs with ⟨x, st, e0, h9⟩ | ⟨st, e0, h9⟩ <;> (clear hs; have hs := h9; clear h9; subst e0)
      · obtain ⟨a, st, e0, h9⟩ := pR_inv hs
        clear hs
        have hs := h9
        clear h9
        subst e0
        obtain ⟨fs, h1, h2, h9⟩ := pfV_inv hs
        clear hs
        have hs := h9
        clear h9
        exact am_put X hk1 hk2 hk3 hW hl h1 h2 (Or.inr (Or.inl ⟨rfl, Or.inr ⟨x, rfl⟩⟩)) hdec (fun H1 locs1 g1 g2 => kk _ _ _ _ _ _ _ _ _ hs ⟨g1, hL, hn, g2, hc1, hc2⟩)
      · obtain ⟨a, st, e0, h9⟩ := pR_inv hs
        clear hs
        have hs := h9
        clear h9
        subst e0
        obtain ⟨fs, h1, h2, h9⟩ := pfV_inv hs
        clear hs
        have hs := h9
        clear h9
        exact am_put X hk1 hk2 hk3 hW hl h1 h2 (Or.inr (Or.inl ⟨rfl, Or.inl rfl⟩)) hdec (fun H1 locs1 g1 g2 => kk _ _ _ _ _ _ _ _ _ hs ⟨g1, hL, hn, g2, hc1, hc2⟩)
    | 2, hk2 =>
      obtain ⟨x, st, e0, h9⟩ := pI_inv hs
      clear hs
      have hs := h9
      clear h9
      subst e0
      obtain ⟨a, st, e0, h9⟩ := pR_inv hs
      clear hs
      have hs := h9
      clear h9
      subst e0
      obtain ⟨hz, h9⟩ := isZ_inv hs
      clear hs
      have hs := h9
      clear h9
      obtain ⟨fs, h1, h2, h9⟩ := pfV_inv hs
      clear hs
      have hs := h9
      clear h9
      exact am_put X hk1 hk2 hk3 hW hl h1 h2 (Or.inr (Or.inr ⟨rfl, x, rfl, hz⟩)) hdec (fun H1 locs1 g1 g2 => kk _ _ _ _ _ _ _ _ _ hs ⟨g1, hL, hn, g2, hc1, hc2⟩)
    | k + 3, hk2 =>
      exfalso
      unfold fkOk at hk2
      generalize tyT r1 r2 = ty at hk2
      cases ty <;> simp at hk2
  | iaload =>
    obtain ⟨x, st, e0, h9⟩ := pI_inv hs
    clear hs
    have hs := h9
    clear h9
    subst e0
    obtain ⟨a, st, e0, h9⟩ := pR_inv hs
    clear hs
    have hs := h9
    clear h9
    subst e0
    obtain ⟨t, n, g, h1, h2, h3, h9⟩ := ldI_inv hs
    clear hs
    have hs := h9
    clear h9
    exact am_iald X hW h1 h2 h3 hdec (go hs hL hn)
  | baload =>
    obtain ⟨x, st, e0, h9⟩ := pI_inv hs
    clear hs
    have hs := h9
    clear h9
    subst e0
    obtain ⟨a, st, e0, h9⟩ := pR_inv hs
    clear hs
    have hs := h9
    clear h9
    subst e0
    obtain ⟨n, g, h1, h3, h9⟩ := ldZ_inv hs
    clear hs
    have hs := h9
    clear h9
    exact am_zald X hW h1 h3 hdec (go hs hL hn)
  | aaload =>
    obtain ⟨x, st, e0, h9⟩ := pI_inv hs
    clear hs
    have hs := h9
    clear h9
    subst e0
    obtain ⟨a, st, e0, h9⟩ := pR_inv hs
    clear hs
    have hs := h9
    clear h9
    subst e0
    obtain ⟨t, n, g, h1, h3, ⟨b, h4, hs⟩ | ⟨h4, hs⟩⟩ := ldQ_inv hs
    · refine am_qald X hW h1 h3 hdec ?_
      rw [h4]
      exact go hs hL hn
    · cases hs
  | iastore =>
    obtain ⟨x, st, e0, h9⟩ := pI_inv hs
    clear hs
    have hs := h9
    clear h9
    subst e0
    obtain ⟨j, st, e0, h9⟩ := pI_inv hs
    clear hs
    have hs := h9
    clear h9
    subst e0
    obtain ⟨a, st, e0, h9⟩ := pR_inv hs
    clear hs
    have hs := h9
    clear h9
    subst e0
    obtain ⟨n, g, h1, h3, h9⟩ := stI_inv hs
    clear hs
    have hs := h9
    clear h9
    exact am_iast X hW hl h1 h3 hdec (fun H1 locs1 g1 g2 => kk _ _ _ _ _ _ _ _ _ hs ⟨g1, hL, hn, g2, hc1, hc2⟩)
  | bastore =>
    obtain ⟨x, st, e0, h9⟩ := pI_inv hs
    clear hs
    have hs := h9
    clear h9
    subst e0
    obtain ⟨j, st, e0, h9⟩ := pI_inv hs
    clear hs
    have hs := h9
    clear h9
    subst e0
    obtain ⟨a, st, e0, h9⟩ := pR_inv hs
    clear hs
    have hs := h9
    clear h9
    subst e0
    obtain ⟨n, g, h1, h3, h9⟩ := stZ_inv hs
    clear hs
    have hs := h9
    clear h9
    exact am_zast X hW hl h1 h3 hdec (fun H1 locs1 g1 g2 => kk _ _ _ _ _ _ _ _ _ hs ⟨g1, hL, hn, g2, hc1, hc2⟩)
  | aastore =>
    obtain ⟨v, st, e0, h9⟩ := pR_inv hs
    clear hs
    have hs := h9
    clear h9
    subst e0
    obtain ⟨j, st, e0, h9⟩ := pI_inv hs
    clear hs
    have hs := h9
    clear h9
    subst e0
    obtain ⟨a, st, e0, h9⟩ := pR_inv hs
    clear hs
    have hs := h9
    clear h9
    subst e0
    obtain ⟨t, n, g, fs, h1, h3, h4, h9⟩ := stQ_inv hs
    clear hs
    have hs := h9
    clear h9
    exact am_qast X hW hl h1 h3 h4 hdec (fun H1 locs1 g1 g2 => kk _ _ _ _ _ _ _ _ _ hs ⟨g1, hL, hn, g2, hc1, hc2⟩)
  | arraylength =>
    obtain ⟨a, st, e0, h9⟩ := pR_inv hs
    clear hs
    have hs := h9
    clear h9
    subst e0
    rcases lnA_inv hs with ⟨t, n, g, h1, hs⟩ | ⟨t, n, g, h1, hs⟩
    · exact am_alen X hW h1 hdec (go hs hL hn)
    · exact am_qlen X hW h1 hdec (go hs hL hn)
  | new n =>
    obtain ⟨m1, m2⟩ := hmo _ _ _ _ hs
    have m1 : h.2.1 + 1 ≤ res.2.2.1 := m1
    have m2 : h.2.2 + (dfl r.1).length ≤ res.2.2.2 := m2
    exact am_new X hlk hW (by omega) (by omega) hdec (fun H1 g1 => kk _ _ _ _ _ _ _ _ _ hs ⟨g1, hL, hn, hl, by show _ = h.2.1 + 1; omega, by show _ = h.2.2 + _; omega⟩)
  | newarray ty =>
    obtain ⟨n, st, e0, h9⟩ := pI_inv hs
    clear hs
    have hs := h9
    clear h9
    subst e0
    by_cases h0 : n < 0 ∨ 100000 < n.toNatClampNeg
    · rw [if_pos h0] at hs; cases hs
    · rw [if_neg h0] at hs
      rw [not_or] at h0
      cases ty with
      | int =>
        obtain ⟨m1, m2⟩ := hmo _ _ _ _ hs
        have m1 : h.2.1 + 1 ≤ res.2.2.1 := m1
        have m2 : h.2.2 + n.toNatClampNeg ≤ res.2.2.2 := m2
        exact am_newi X hW h0.1 (by omega) (by omega) (by omega) hdec (fun H1 g1 => kk _ _ _ _ _ _ _ _ _ hs ⟨g1, hL, hn, hl, by show _ = h.2.1 + 1; omega, by show _ = h.2.2 + _; omega⟩)
      | boolean =>
        obtain ⟨m1, m2⟩ := hmo _ _ _ _ hs
        have m1 : h.2.1 + 1 ≤ res.2.2.1 := m1
        have m2 : h.2.2 + n.toNatClampNeg ≤ res.2.2.2 := m2
        exact am_newz X hW h0.1 (by omega) (by omega) (by omega) hdec (fun H1 g1 => kk _ _ _ _ _ _ _ _ _ hs ⟨g1, hL, hn, hl, by show _ = h.2.1 + 1; omega, by show _ = h.2.2 + _; omega⟩)
      | _ => cases hs
  | anewarray x =>
    obtain ⟨n, st, e0, h9⟩ := pI_inv hs
    clear hs
    have hs := h9
    clear h9
    subst e0
    by_cases h0 : n < 0 ∨ 100000 < n.toNatClampNeg
    · rw [if_pos h0] at hs; cases hs
    · rw [if_neg h0] at hs
      rw [not_or] at h0
      obtain ⟨m1, m2⟩ := hmo _ _ _ _ hs
      have m1 : h.2.1 + 1 ≤ res.2.2.1 := m1
      have m2 : h.2.2 + n.toNatClampNeg ≤ res.2.2.2 := m2
      exact am_newq X hlk hW h0.1 (by omega) (by omega) (by omega) hdec (fun H1 g1 => kk _ _ _ _ _ _ _ _ _ hs ⟨g1, hL, hn, hl, by show _ = h.2.1 + 1; omega, by show _ = h.2.2 + _; omega⟩)
  | invokevirtual n =>
    obtain ⟨r1, r2, r3⟩ := r
    have hlk : (mlT.elem (own, n, r1) && (decide (mkd[r1]? = some 0) && (decide (npar r1 = some r2) && decide (r1 < 169)))) = true := hlk
    simp only [Bool.and_eq_true, decide_eq_true_eq] at hlk
    obtain ⟨k1, k2, k3, k4⟩ := hlk
    obtain ⟨b, rest, hst, h9⟩ := pR_inv hs
    clear hs
    have hs := h9
    clear h9
    obtain ⟨hro, h9⟩ := cond_inv hs
    clear hs
    have hs := h9
    clear h9
    obtain ⟨fs, hb0, h9⟩ := isO_inv hs
    clear hs
    have hs := h9
    clear h9
    obtain ⟨q, hq, hs⟩ := Option.bind_eq_some_iff.mp hs
    have hs := aft_inv hs
    obtain ⟨m1, m2⟩ := hmo _ _ _ _ hs
    obtain ⟨n1, n2⟩ := (hC _ _ _ _ hq).1
    exact am_callV X hC k1 k2 k3 k4 hst hro hW hl hlen hb0 hq ⟨by omega, by omega⟩ hdec (fun H1 locs1 g1 g2 => kk _ _ _ _ _ _ _ _ _ hs ⟨g1, hL, hn, g2, by omega, by omega⟩)
  | invokespecial n =>
    obtain ⟨r1, r2, r3⟩ := r
    by_cases h1000 : r1 = 1000
    · subst h1000
      have hlk : olT.elem (own, n) = true := hlk
      replace hs : (pR st fun _ rest => bif roomOk rest && Nat.blt 0 d then K (pc + 3) L rest h else none) = some res := hs
      obtain ⟨b, rest, e0, h9⟩ := pR_inv hs
      clear hs
      have hs := h9
      clear h9
      subst e0
      obtain ⟨hro, h9⟩ := cond_inv hs
      clear hs
      have hs := h9
      clear h9
      rw [Bool.and_eq_true] at hro
      have hd : 0 < d := Nat.le_of_ble_eq_true hro.2
      have hr8 := room_of hro.1
      refine W.objInit hx hb hown (hts _ (ol_use hlk)) (hts _ w_oi) (hts _ w_oc) rfl (by rw [hml]; exact hlen) rfl hdec (by omega) (by show 2 * 0 + _ + 12 ≤ _; omega) ?_
      exact W.eq (g2 := F0 m (pc + 3) ls rest) rfl (go hs hL hn)
    · have hne : Nat.beq r1 1000 = false := by
        cases hq : Nat.beq r1 1000 with
        | false => rfl
        | true => exact absurd (Nat.eq_of_beq_eq_true hq) h1000
      have hlk : (bif Nat.beq r1 1000 then olT.elem (own, n) else (mlT.elem (own, n, r1) || nlT.elem (own, n, r1)) && (decide (mkd[r1]? = some 2) && (decide (npar r1 = some r2) && decide (r1 < 169)))) = true := hlk
      rw [hne] at hlk
      have hlk : ((mlT.elem (own, n, r1) || nlT.elem (own, n, r1)) && (decide (mkd[r1]? = some 2) && (decide (npar r1 = some r2) && decide (r1 < 169)))) = true := hlk
      rw [Bool.and_eq_true, Bool.and_eq_true, Bool.and_eq_true, decide_eq_true_eq, decide_eq_true_eq, decide_eq_true_eq] at hlk
      obtain ⟨k1, k2, k3, k4⟩ := hlk
      replace hs : (bif Nat.beq r1 1000 then (pR st fun _ rest => bif roomOk rest && Nat.blt 0 d then K (pc + 3) L rest h else none) else pR (st.drop r2) fun b rest => bif roomOk rest then (cl r1 (.ref b :: (st.take r2).reverse) h).bind fun q => aft r3 q pc L rest K else none) = some res := hs
      rw [hne] at hs
      replace hs : (pR (st.drop r2) fun b rest => bif roomOk rest then (cl r1 (.ref b :: (st.take r2).reverse) h).bind fun q => aft r3 q pc L rest K else none) = some res := hs
      obtain ⟨b, rest, hst, h9⟩ := pR_inv hs
      clear hs
      have hs := h9
      clear h9
      obtain ⟨hro, h9⟩ := cond_inv hs
      clear hs
      have hs := h9
      clear h9
      obtain ⟨q, hq, hs⟩ := Option.bind_eq_some_iff.mp hs
      have hs := aft_inv hs
      obtain ⟨m1, m2⟩ := hmo _ _ _ _ hs
      obtain ⟨n1, n2⟩ := (hC _ _ _ _ hq).1
      exact am_callI X hC k1 k2 k3 k4 hst hro hW hl hlen hq ⟨by omega, by omega⟩ hdec (fun H1 locs1 g1 g2 => kk _ _ _ _ _ _ _ _ _ hs ⟨g1, hL, hn, g2, by omega, by omega⟩)
  | invokestatic n =>
    obtain ⟨r1, r2, r3⟩ := r
    have nb : ∀ k : Nat, ¬ r1 = k → Nat.beq r1 k = false := fun k hk => by
      cases hq : Nat.beq r1 k with
      | false => rfl
      | true => exact absurd (Nat.eq_of_beq_eq_true hq) hk
    by_cases h1000 : r1 = 1000
    · subst h1000
      have hlk : alT.elem (own, n) = true := hlk
      replace hs : (pI st fun n s => pI s fun dp s => pR s fun d' s => pI s fun sp s => pR s fun a s => bif roomOk s && Nat.blt 0 d then cpA h a sp d' dp n fun h => K (pc + 3) L s h else none) = some res := hs
      obtain ⟨nn, st, e0, h9⟩ := pI_inv hs
      clear hs
      have hs := h9
      clear h9
      subst e0
      obtain ⟨dp, st, e0, h9⟩ := pI_inv hs
      clear hs
      have hs := h9
      clear h9
      subst e0
      obtain ⟨a1, st, e0, h9⟩ := pR_inv hs
      clear hs
      have hs := h9
      clear h9
      subst e0
      obtain ⟨sp, st, e0, h9⟩ := pI_inv hs
      clear hs
      have hs := h9
      clear h9
      subst e0
      obtain ⟨a0, st, e0, h9⟩ := pR_inv hs
      clear hs
      have hs := h9
      clear h9
      subst e0
      obtain ⟨hro, h9⟩ := cond_inv hs
      clear hs
      have hs := h9
      clear h9
      rw [Bool.and_eq_true] at hro
      have hd : 0 < d := Nat.le_of_ble_eq_true hro.2
      obtain ⟨n0, g0, n1, g1, c1, c2, c3, c4, c5, c6, c7, c8, h9⟩ := cpA_inv hs
      clear hs
      have hs := h9
      clear h9
      exact am_copy X hd hlk hW hl hlen c1 c2 c4 c5 c6 c7 c8 hro.1 hdec (fun H1 locs1 g1 g2 => kk _ _ _ _ _ _ _ _ _ hs ⟨g1, hL, hn, g2, hc1, hc2⟩)
    · by_cases h1001 : r1 = 1001
      · subst h1001
        have hlk : xlT.elem (own, n, 1001) = true := hlk
        replace hs : (pI st fun y s => pI s fun x s => bif roomOk s && Nat.blt 0 d then K (pc + 3) L (.int (if x < y then y else x) :: s) h else none) = some res := hs
        obtain ⟨y, st, e0, h9⟩ := pI_inv hs
        clear hs
        have hs := h9
        clear h9
        subst e0
        obtain ⟨x, st, e0, h9⟩ := pI_inv hs
        clear hs
        have hs := h9
        clear h9
        subst e0
        obtain ⟨hro, h9⟩ := cond_inv hs
        clear hs
        have hs := h9
        clear h9
        rw [Bool.and_eq_true] at hro
        have hd : 0 < d := Nat.le_of_ble_eq_true hro.2
        have hr8 := room_of hro.1
        obtain ⟨m1, m2⟩ := hmo _ _ _ _ hs
        exact va_mmax hx hb (hml.trans hlen.symm) hown (hts _ (xl_use hlk)) (hts _ w_mxs) (hts _ w_mi) (hts _ w_mxc) (by omega) (by omega) (by omega) (by omega) hdec (go hs hL hn)
      · by_cases h1002 : r1 = 1002
        · subst h1002
          have hlk : xlT.elem (own, n, 1002) = true := hlk
          replace hs : (pI st fun y s => pI s fun x s => bif roomOk s && Nat.blt 0 d then K (pc + 3) L (.int (if y < x then y else x) :: s) h else none) = some res := hs
          obtain ⟨y, st, e0, h9⟩ := pI_inv hs
          clear hs
          have hs := h9
          clear h9
          subst e0
          obtain ⟨x, st, e0, h9⟩ := pI_inv hs
          clear hs
          have hs := h9
          clear h9
          subst e0
          obtain ⟨hro, h9⟩ := cond_inv hs
          clear hs
          have hs := h9
          clear h9
          rw [Bool.and_eq_true] at hro
          have hd : 0 < d := Nat.le_of_ble_eq_true hro.2
          have hr8 := room_of hro.1
          obtain ⟨m1, m2⟩ := hmo _ _ _ _ hs
          exact va_mmin hx hb (hml.trans hlen.symm) hown (hts _ (xl_use hlk)) (hts _ w_mns) (hts _ w_mi) (hts _ w_mnc) (by omega) (by omega) (by omega) (by omega) hdec (go hs hL hn)
        · have e0 := nb _ h1000
          have e1 := nb _ h1001
          have e2 := nb _ h1002
          unfold lk at hlk
          dsimp only at hlk
          rw [e0, e1, e2] at hlk
          have hlk : (mlT.elem (own, n, r1) && (decide (mkd[r1]? = some 1) && (decide (npar r1 = some r2) && decide (r1 < 169)))) = true := hlk
          rw [Bool.and_eq_true, Bool.and_eq_true, Bool.and_eq_true, decide_eq_true_eq, decide_eq_true_eq, decide_eq_true_eq] at hlk
          obtain ⟨k1, k2, k3, k4⟩ := hlk
          unfold stp at hs
          dsimp only at hs
          rw [e0, e1, e2] at hs
          replace hs : (bif Nat.ble r2 st.length && roomOk (st.drop r2) then (cl r1 (st.take r2).reverse h).bind fun q => aft r3 q pc L (st.drop r2) K else none) = some res := hs
          obtain ⟨hro, h9⟩ := cond_inv hs
          clear hs
          have hs := h9
          clear h9
          rw [Bool.and_eq_true] at hro
          obtain ⟨q, hq, hs⟩ := Option.bind_eq_some_iff.mp hs
          have hs := aft_inv hs
          obtain ⟨m1, m2⟩ := hmo _ _ _ _ hs
          obtain ⟨n1, n2⟩ := (hC _ _ _ _ hq).1
          exact am_callS X hC k1 k2 k3 k4 (Nat.le_of_ble_eq_true hro.1) hro.2 hW hl hlen hq ⟨by omega, by omega⟩ hdec (fun H1 locs1 g1 g2 => kk _ _ _ _ _ _ _ _ _ hs ⟨g1, hL, hn, g2, by omega, by omega⟩)
  | ireturn =>
    cases hnr
  | areturn =>
    cases hnr
  | return_ =>
    cases hnr
  | _ => cases hs
end AM4
end
section
/-! ===== runs of ours are runs of the machine's; every call at every depth; the law ===== -/
def slV (x : Slot) : Option Value := match x with
  | .val v => some v
  | _ => none
theorem entL_sl (nL : Nat) (as : List Value) : entL nL as = (lg_sl as ++ List.replicate (nL - (lg_sl as).length) Slot.unset).map slV := by
  have e1 : (as.flatMap fun v => bif Nat.beq v.category 2 then [some v, none] else [some v]) = (lg_sl as).map slV := by
    unfold lg_sl
    induction as with
    | nil => rfl
    | cons v r ih =>
      rw [List.flatMap_cons, List.flatMap_cons, List.map_append, ih]
      congr 1
      rcases lv_cat v with hc | hc
      · rw [hc]; rfl
      · rw [hc]; rfl
  unfold entL
  dsimp only
  rw [e1, List.map_append, List.length_map]
  congr 1
  rw [List.map_replicate]
  rfl
theorem entL_lvr {nL : Nat} {as : List Value} (h : (entL nL as).length ≤ nL) : lvr ((lg_sl as ++ List.replicate (nL - (lg_sl as).length) Slot.unset).toArray) (entL nL as) ∧ (entL nL as).length = nL := by
  have hle : (lg_sl as).length ≤ nL := by
    rw [entL_sl] at h
    simp only [List.length_map, List.length_append, List.length_replicate] at h
    omega
  have h1 := lv_entry as hle
  have hlen : (entL nL as).length = nL := by
    rw [entL_sl]
    simp only [List.length_map, List.length_append, List.length_replicate]
    omega
  refine ⟨⟨by rw [hlen]; exact h1.1, h1.2.1, fun i v hi => ?_⟩, hlen⟩
  rw [entL_sl, List.getElem?_map] at hi
  rw [List.getElem?_toArray]
  cases hq : (lg_sl as ++ List.replicate (nL - (lg_sl as).length) Slot.unset)[i]? with
  | none => rw [hq] at hi; cases hi
  | some x =>
    rw [hq] at hi
    cases x <;> simp [slV] at hi
    subst hi
    rfl
section AM5
variable {p : Program} {l : Launch} {e : Env} {R : Room} {s : State} {m : MethodId} {args : Array Value} {below : List Frame} {meth : Method} {c : Code} {Q : State → Prop}
variable {G : va_G} {dA : Nat → ClassId} {lo : Nat}
theorem am_run {y d : Nat} {q : MT} (hq : mtab[y]? = some q) (X : CX p R s m args meth c q.1.2.1 q.1.2.2.1 q.2.1 (mini q) d G dA) (hC : CM l G dA lo d (call d)) {t0 s0 : Nat} {res : RV} (hmx : res.2.2.1 ≤ t0 + R.cells ∧ res.2.2.2 ≤ s0 + R.slots)
    (hret : ∀ (i : Instr) (r : Nat × (Nat × Nat)) (pc : Nat) (L : List (Option Value)) (st : List Value) (h : AH) (K : Kt) (H : Heap) (locs : List Loc) (cells slots : Nat) (ls : Array Slot), isRet i = true → decode q.1.2.1 pc = .ok (i, lenI i r) → stp (call d) (Nat.blt 0 d) q.1.2.2.2 i r pc L st h K = some res → Re G dA lo s q.1.2.2.1 t0 s0 L h H locs cells slots ls → W p l e R s m args below meth c H locs cells slots Q (F0 m pc ls st)) :
    ∀ (n : Nat) (pc : Nat) (L : List (Option Value)) (st : List Value) (h : AH) (H : Heap) (locs : List Loc) (cells slots : Nat) (ls : Array Slot), rAt (call d) (Nat.blt 0 d) q n pc L st h = some res → Re G dA lo s q.1.2.2.1 t0 s0 L h H locs cells slots ls → W p l e R s m args below meth c H locs cells slots Q (F0 m pc ls st)
  | 0, _, _, _, _, _, _, _, _, _, hs, _ => by cases hs
  | n + 1, pc, L, st, h, H, locs, cells, slots, ls, hs, hR => by
    unfold rAt at hs
    cases hi : q.2.2.1[pc]? with
    | none => rw [hi] at hs; cases hs
    | some o =>
      cases o with
      | none => rw [hi] at hs; cases hs
      | some ir =>
        obtain ⟨i, r⟩ := ir
        rw [hi] at hs
        dsimp only at hs
        obtain ⟨hdec, hlk⟩ := ck_all y q hq pc i r hi
        cases hr : isRet i with
        | true => exact hret i r pc L st h _ H locs cells slots ls hr hdec hs hR
        | false =>
          refine am_step X hC hdec hlk hr hs hR hmx (fun pc L st h' hk => (rAt_mono (call_le d) _ _ _ _ _ _ hk).2) (fun pc' L' st' h' H' locs' cells' slots' ls' hk hR' => ?_)
          obtain ⟨a1, a2, a3, a4⟩ := hR'
          exact am_run hq X hC hmx hret n pc' _ st' h' H' locs' cells' slots' ls' hk ⟨a1, lvr_msk _ _ a2, by rw [msk_len]; exact a3, a4⟩
theorem am_sim (l : Launch) (G : va_G) (dA : Nat → ClassId) (lo : Nat) : ∀ d, CM l G dA lo d (call d)
  | 0 => fun _ _ _ _ hs => by cases hs
  | d + 1 => fun y as h res hs => by
    refine ⟨call_le _ _ _ _ _ hs, fun hy => ?_⟩
    have hge := call_le _ _ _ _ _ hs
    unfold call at hs
    cases hq : mtab[y]? with
    | none => rw [hq] at hs; cases hs
    | some q =>
      rw [hq] at hs
      dsimp only at hs
      obtain ⟨hle, hs⟩ := cond_inv hs
      have hle := Nat.le_of_ble_eq_true hle
      obtain ⟨n, hn⟩ := (rn_some (call_le d)).mp hs
      obtain ⟨k, hk, hok⟩ := mt_ok y q hq (by omega)
      obtain ⟨hcw, hkw, hpl, hmh, hcn, hmxl, -⟩ := hok
      refine ⟨d, q, rfl, rfl, ?_⟩
      refine Met.ofW (cc := q.1.2.1) (maxL := q.1.2.2.1) (ret := q.1.2.2.2) hpl rfl ?_
      intro p e s m args below meth c s₁ B hml hv
      obtain ⟨rfl, hWD, hK⟩ := hv
      have hx := B.exec
      have hb := B.bytes
      have hr := B.returns
      have hts := atoms_spec (ws := wsm q) B.pre
      have hown : s.vm.findClass (cnm q.2.1) = some m.cls := by rw [← hcn]; exact findClass_of_methodNamed B.named
      have hlocks := B.notSynchronized
      have hin : mini q = true → meth.name = "<init>" := fun h => by
        rw [(name_of_methodNamed B.named B.method).1]
        exact of_decide_eq_true h
      rw [lg_entry_eq]
      obtain ⟨hl1, hl2⟩ := entL_lvr hle
      have X : CX p (headSpec (wsm q) (rmm d h res.2)).room s m as.toArray meth c q.1.2.1 q.1.2.2.1 q.2.1 (mini q) d G dA := ⟨hx, hb, hml, hown, fun w hw => hts w (List.mem_cons_of_mem _ hw), hK, hin, Nat.le_refl d, Nat.le_refl _⟩
      refine am_run (e := e) (below := below) hq X (am_sim l G dA lo d) (t0 := h.2.1) (s0 := h.2.2) (res := res) ⟨?_, ?_⟩ ?_ n 0 (entL q.1.2.2.1 as) [] h s.heap [] 0 0 _ hn ⟨hWD, hl1, hl2, fun _ hq => absurd hq List.not_mem_nil, Nat.zero_add _, Nat.zero_add _⟩
      · show res.2.2.1 ≤ h.2.1 + (res.2.2.1 - h.2.1)
        have := hge.1
        omega
      · show res.2.2.2 ≤ h.2.2 + (res.2.2.2 - h.2.2)
        have := hge.2
        omega
      · intro i r pc L st hh K H locs cells slots ls hi hdg hst hRe
        obtain ⟨hW, hL, hn', hlo, hc1, hc2⟩ := hRe
        have fin : ∀ {v : Option Value}, res = (v, hh) → ∀ t : State, t.heap = H → s.WarmedH t.vm → Qm G dA lo res as.toArray s (.returned v) t := fun {v} e t ht hWm => by
          subst e
          exact ⟨rfl, by rw [ht]; exact hW.moved hWm.alike⟩
        have cs : ∀ {v : Option Value}, res = (v, hh) → res.2.2.1 - h.2.1 = cells ∧ res.2.2.2 - h.2.2 = slots := fun {v} e => by
          subst e
          exact ⟨by show hh.2.1 - _ = _; omega, by show hh.2.2 - _ = _; omega⟩
        cases i with
        | ireturn =>
          obtain ⟨x, st', e0, h9⟩ := pI_inv hst
          clear hst
          subst e0
          cases st' with
          | cons v r => cases h9
          | nil =>
            cases hrt : q.1.2.2.2 with
            | none => rw [hrt] at h9; cases h9
            | some ty =>
              rw [hrt] at h9 hr
              cases ty <;> first | (cases h9; done) | skip
              · have e1 : res = (some (.int x), hh) := (Option.some.inj h9).symm
                rw [(cs e1).1, (cs e1).2]
                exact W.iret (v := x) hx hb hr (fin e1) hlo hdg
              · obtain ⟨hz, h9⟩ := isZ_inv h9
                have e1 : res = (some (.int x), hh) := (Option.some.inj h9).symm
                rw [(cs e1).1, (cs e1).2]
                refine W.zret (v := x) hx hb hr ?_ (fin e1) hlo hdg
                rcases hz with rfl | rfl <;> decide +kernel
        | areturn =>
          cases hrt : q.1.2.2.2 with
          | none => rw [hrt] at hst; cases hst
          | some ty =>
            rw [hrt] at hst hr
            cases ty <;> first | (cases hst; done) | skip
            rcases pQ_inv hst with ⟨x, st', e0, h9⟩ | ⟨st', e0, h9⟩ <;> (clear hst; subst e0)
            · cases st' with
              | cons v r => cases h9
              | nil =>
                have e1 : res = (some (.ref x), hh) := (Option.some.inj h9).symm
                rw [(cs e1).1, (cs e1).2]
                exact W.aret (v := .ref x) hx hb hr (Or.inl ⟨_, rfl⟩) (Or.inr ⟨x, rfl⟩) (fin e1) hlo hdg
            · cases st' with
              | cons v r => cases h9
              | nil =>
                have e1 : res = (some .null, hh) := (Option.some.inj h9).symm
                rw [(cs e1).1, (cs e1).2]
                exact W.aret (v := .null) hx hb hr (Or.inl ⟨_, rfl⟩) (Or.inl rfl) (fin e1) hlo hdg
        | return_ =>
          cases hrt : q.1.2.2.2 with
          | some ty => rw [hrt] at hst; cases hst
          | none =>
            rw [hrt] at hst hr
            cases st with
            | cons v r => cases hst
            | nil =>
              have e1 : res = (none, hh) := (Option.some.inj hst).symm
              rw [(cs e1).1, (cs e1).2]
              exact W.vret hx hb hr (fin e1) hlo hdg
        | _ => cases hi
end AM5
end
section
/-! THE CLAIM OUT OF ONE WALK OF THE LAW'S BODY. Your part is whole_start (and what it stands on); all else here is the same for every law, but numbers. -/
def R_law : String := "NameRowsLaw"
def lw_P (b : Addr) (xs : List Int32) (args : Array Value) (s : State) : Prop := args = #[.ref b] ∧ s.IntsAt b xs ∧ xs.length ≤ 3584 ∧ (Jvm.Cond.and given_1 narrow_1).before args s = true
def lw_Q (_ : Array Value) (s : State) (o : Outcome) (t : State) : Prop := o = .returned (some (.int 1)) ∧ Framed s o t [] 600000 7302250
def lw_Z (below : List Frame) (a : Array Value) (s : State) : State → Prop := fun t => ∃ o, t.status = .running ∧ Ended t below o ∧ lw_Q a s o t
/-- the law's own end, with 1 on the stack, nothing written that was there before, its room as the claim has it -/
theorem lw_ret {p : Program} {l : Launch} {e : Env} {s : State} {m : MethodId} {below : List Frame} {meth : Method} {c : Code} {b : Nat} (hx : p.tables.exec = Jvm.exec) (hb : c.code = code) (hr : meth.sig.returnType = ret) (hlocks : meth.locks = false) {pc : Nat} {H : Heap} {ls : Array Slot} (hdg : decode code pc = .ok (.ireturn, 1)) : W p l e room_1 s m #[Value.ref b] below meth c H [] 600000 7302250 (lw_Z below #[Value.ref b] s) (F0 m pc ls [.int 1]) := by
  intro T hT X
  obtain ⟨fs, hret, hrun, hended, hW, hframe⟩ := X.leave (v := some (.int 1)) (hlocks := hlocks) (fun h => by rw [hr] at h; cases h)
  have hmeth' : T.vm.method? m = some meth := X.method'
  refine ⟨T.setFrames fs, ?_, .returned (some (.int 1)), hrun, hended, rfl, ⟨_, rfl⟩, hW, hframe⟩
  jvm_step X.here [X.here.top, hx, hb, hdg, hmeth', hr, ret, narrow_b1]
  (try refine ⟨rfl, ?_⟩); (try refine ⟨rfl, ?_⟩)
  first | (intro acts; rw [hret _ acts rfl rfl rfl]) | rw [hret _ _ rfl rfl rfl]
  exact Steps.refl _
/-- what holds at the law's entry: the machine, the code, the tables' words (any of lw_tbl by 'hts w (by decide +kernel)'), the script of L ints xs at the cell b, what the Statement gives of the start (any of its parts by flat_of_before) -/
def lw_At (p : Program) (s : State) (m : MethodId) (meth : Method) (c : Code) (b L : Nat) (xs : Nat → Int32) : Prop :=
  p.tables.exec = Jvm.exec ∧ c.code = code ∧ meth.sig.returnType = ret ∧ c.maxLocals = 4 ∧ s.vm.findClass R_law = some m.cls ∧ (∀ w ∈ lw_tbl, w.before #[Value.ref b] s = true) ∧ va_X b L xs s s.heap ∧ b < s.heap.size ∧ meth.locks = false ∧ (Jvm.Cond.and given_1 narrow_1).before #[Value.ref b] s = true
theorem w_in0 : Cond.instantiable RX0 8 ∈ gtbl := gt_of (i := 114) (by decide +kernel) rfl
theorem w_in1 : Cond.instantiable RX1 2 ∈ gtbl := gt_of (i := 165) (by decide +kernel) rfl
theorem w_in2 : Cond.instantiable RX2 3 ∈ gtbl := gt_of (i := 83) (by decide +kernel) rfl
theorem w_in3 : Cond.instantiable RX3 5 ∈ gtbl := gt_of (i := 178) (by decide +kernel) rfl
theorem w_in4 : Cond.instantiable RX4 3 ∈ gtbl := gt_of (i := 292) (by decide +kernel) rfl
theorem w_in5 : Cond.instantiable RX5 18 ∈ gtbl := gt_of (i := 207) (by decide +kernel) rfl
theorem w_in6 : Cond.instantiable RX6 4 ∈ gtbl := gt_of (i := 269) (by decide +kernel) rfl
theorem w_in7 : Cond.instantiable RX7 16 ∈ gtbl := gt_of (i := 75) (by decide +kernel) rfl
theorem w_in8 : Cond.instantiable RX8 42 ∈ gtbl := gt_of (i := 775) (by decide +kernel) rfl
theorem w_aoRX0 : Cond.arrayOver (.object RX0) ∈ lw_tbl := List.mem_of_getElem? (i := 109) (by decide +kernel)
theorem w_aoRX6 : Cond.arrayOver (.object RX6) ∈ lw_tbl := List.mem_of_getElem? (i := 111) (by decide +kernel)
theorem w_aoRX4 : Cond.arrayOver (.object RX4) ∈ lw_tbl := List.mem_of_getElem? (i := 113) (by decide +kernel)
/-- the start: the script alone -/
def h00 (b L lo : Nat) (xs : Nat → Int32) : AH := (fun q => if q = b then some (aI 2 L xs) else none, (lo, 0))
theorem kk_start {args : Array Value} {s : State} (hts : ∀ w ∈ lw_tbl, w.before args s = true) : ∃ (G : va_G) (dA : Nat → ClassId), KK G dA s := by
  have htg : ∀ w ∈ gtbl, w.before args s = true := fun w hw => hts w (gt_in hw)
  obtain ⟨c0, i0, k0⟩ := u_known (C := RX0) (T := TX0) (N := 8) (n := 8) htg lay_0 (htg _ w_in0)
  obtain ⟨c1, i1, k1⟩ := u_known (C := RX1) (T := TX1) (N := 2) (n := 2) htg lay_1 (htg _ w_in1)
  obtain ⟨c2, i2, k2⟩ := u_known (C := RX2) (T := TX2) (N := 3) (n := 3) htg lay_2 (htg _ w_in2)
  obtain ⟨c3, i3, k3⟩ := u_known (C := RX3) (T := TX3) (N := 5) (n := 5) htg lay_3 (htg _ w_in3)
  obtain ⟨c4, i4, k4⟩ := u_known (C := RX4) (T := TX4) (N := 3) (n := 3) htg lay_4 (htg _ w_in4)
  obtain ⟨c5, i5, k5⟩ := u_known (C := RX5) (T := TX5) (N := 18) (n := 18) htg lay_5 (htg _ w_in5)
  obtain ⟨c6, i6, k6⟩ := u_known (C := RX6) (T := TX6) (N := 4) (n := 4) htg lay_6 (htg _ w_in6)
  obtain ⟨c7, i7, k7⟩ := u_known (C := RX7) (T := TX7) (N := 16) (n := 16) htg lay_7 (htg _ w_in7)
  obtain ⟨c8, i8, k8⟩ := u_known (C := RX8) (T := TX8) (N := 42) (n := 42) htg lay_8 (htg _ w_in8)
  obtain ⟨a0, ka0, cm0, f00, f01, f02⟩ := Cond.arrayClass_spec (htg _ w_ci)
  obtain ⟨a1, ka1, cm1, f10, f11, f12⟩ := Cond.arrayClass_spec (htg _ w_cz)
  have ao2 : va_AO RX0 s := va_AO.of (hts _ w_aoRX0)
  have ao3 : va_AO RX6 s := va_AO.of (hts _ w_aoRX6)
  have ao4 : va_AO RX4 s := va_AO.of (hts _ w_aoRX4)
  obtain ⟨cm2, a2, ka2, e20, -, e21, e22, e23⟩ := Cond.arrayOver_spec ao2
  obtain ⟨cm3, a3, ka3, e30, -, e31, e32, e33⟩ := Cond.arrayOver_spec ao3
  obtain ⟨cm4, a4, ka4, e40, -, e41, e42, e43⟩ := Cond.arrayOver_spec ao4
  refine ⟨(fun k => match k with
    | 0 => c0
    | 1 => c1
    | 2 => c2
    | 3 => c3
    | 4 => c4
    | 5 => c5
    | 6 => c6
    | 7 => c7
    | _ => c8, fun k => match k with
    | 0 => i0
    | 1 => i1
    | 2 => i2
    | 3 => i3
    | 4 => i4
    | 5 => i5
    | 6 => i6
    | 7 => i7
    | _ => i8), fun k => match k with
    | 0 => a0
    | 1 => a1
    | 2 => a2
    | 3 => a3
    | _ => a4, ⟨fun ci q hq => ?_, fun k q hq => ?_⟩, fun q hq => ?_, ao2, ao3, ao4⟩
  · match ci, hq with
    | 0, hq => cases hq; exact k0
    | 1, hq => cases hq; exact k1
    | 2, hq => cases hq; exact k2
    | 3, hq => cases hq; exact k3
    | 4, hq => cases hq; exact k4
    | 5, hq => cases hq; exact k5
    | 6, hq => cases hq; exact k6
    | 7, hq => cases hq; exact k7
    | 8, hq => cases hq; exact k8
    | n + 9, hq => simp [cls9] at hq
  · match k, hq with
    | 0, hq => cases hq; exact ⟨fun n z => ⟨(fun k h => by cases h), ka0, f01, cm0, f02⟩, f00⟩
    | 1, hq => cases hq; exact ⟨fun n z => ⟨(fun k h => by cases h), ka1, f11, cm1, f12⟩, f10⟩
    | 2, hq => cases hq; exact ⟨fun n z => ⟨(fun k h => by cases h), ka2, e21, cm2, e22⟩, ka2, cm2, e21, e22, e20, e23⟩
    | 3, hq => cases hq; exact ⟨fun n z => ⟨(fun k h => by cases h), ka3, e31, cm3, e32⟩, ka3, cm3, e31, e32, e30, e33⟩
    | 4, hq => cases hq; exact ⟨fun n z => ⟨(fun k h => by cases h), ka4, e41, cm4, e42⟩, ka4, cm4, e41, e42, e40, e43⟩
    | n + 5, hq => simp [tys] at hq
  · obtain ⟨p, hp⟩ := map_in nl_eq hq
    exact va_Nw.of rfl (hts _ (List.mem_of_getElem? (nl_ok _ hp)))
/-- the law's walk out of our run of it -/
theorem whole_of {p : Program} {e : Env} {s : State} {m : MethodId} {below : List Frame} {meth : Method} {c : Code} (l : Launch) {b L : Nat} {xs : Nat → Int32} (C0 : lw_At p s m meth c b L xs)
    (hrun : ∃ h' : AH, run 10 mt_169 0 (entL 4 [.ref b]) [] (h00 b L s.heap.size xs) = some (some (.int 1), h') ∧ h'.2.1 ≤ s.heap.size + 600000 ∧ h'.2.2 ≤ 7302250) : W p l e room_1 s m #[Value.ref b] below meth c s.heap [] 0 0 (lw_Z below #[Value.ref b] s) (entryFrame m ([Value.ref b] : List Value).toArray 4) := by
  obtain ⟨hx, hb, hr, hml, hown, hts, hX, hbl, hlocks, hgv⟩ := C0
  obtain ⟨G, dA, hK⟩ := kk_start hts
  obtain ⟨h', hrun, hm1, hm2⟩ := hrun
  obtain ⟨n, hn⟩ := (rn_some (call_le 10)).mp hrun
  rw [lg_entry_eq]
  obtain ⟨hl1, hl2⟩ := entL_lvr (nL := 4) (as := [.ref b]) (Nat.le_refl 4)
  have hq : mtab[169]? = some mt_169 := rfl
  have hX1 : CX p room_1 s m #[Value.ref b] meth c mt_169.1.2.1 mt_169.1.2.2.1 mt_169.2.1 (mini mt_169) 10 G dA := ⟨hx, hb, hml, hown, fun w hw => hts w (gt_in hw), hK, fun h => absurd h (by decide +kernel), by decide, by decide⟩
  have hWD : WD G dA s.heap.size s (h00 b L s.heap.size xs) s.heap := by
    refine ⟨⟨rfl, Nat.le_refl _⟩, fun a ae ha => ?_⟩
    unfold h00 at ha
    dsimp only at ha
    by_cases hab : a = b
    · rw [if_pos hab] at ha
      cases ha
      subst hab
      exact ⟨hX, Or.inr ⟨_, _, rfl⟩⟩
    · rw [if_neg hab] at ha
      cases ha
  refine am_run (e := e) (below := below) hq hX1 (am_sim l G dA s.heap.size 10) (t0 := s.heap.size) (s0 := 0) (res := (some (.int 1), h')) ⟨hm1, by show h'.2.2 ≤ 0 + 7302250; omega⟩ ?_ n 0 _ [] _ s.heap [] 0 0 _ hn ⟨hWD, hl1, hl2, fun _ hq => absurd hq List.not_mem_nil, Nat.zero_add _, Nat.zero_add _⟩
  intro i r pc L' st hh K H locs cells slots ls hi hdg hst hRe
  obtain ⟨hW, hL', hn', hlo, hc1, hc2⟩ := hRe
  cases i with
  | ireturn =>
    obtain ⟨x, st', e0, h9⟩ := pI_inv hst
    clear hst
    subst e0
    cases st' with
    | cons v r => cases h9
    | nil =>
      obtain ⟨hz, h9⟩ := isZ_inv h9
      have e1 : (some (Value.int x), hh) = ((some (Value.int 1), h') : RV) := Option.some.inj h9
      have e2 : hh = h' := congrArg Prod.snd e1
      have e3 : x = 1 := by
        have := congrArg Prod.fst e1
        simpa using this
      subst e2
      subst e3
      refine va_forget (fun q hq => hlo q hq) ?_
      refine W.widen (k := 600000) (n := 7302250) (by omega) (by omega) ?_
      exact lw_ret hx hb hr hlocks hdg
  | areturn => cases hst
  | return_ => cases hst
  | _ => cases hi
end
section
/-! ===== laws of one instruction, for whatever runs by our steps ===== -/
def St (c : Ct) (dd : Bool) (q : MT) (ρ : Kt) : Prop := ∀ (pc : Nat) (L : List (Option Value)) (st : List Value) (h : AH) (i : Instr) (r : Nat × (Nat × Nat)), q.2.2.1[pc]? = some (some (i, r)) → ρ pc L st h = stp c dd q.1.2.2.2 i r pc L st h fun pc L st h => ρ pc (msk q.2.2.2 pc L) st h
theorem St_run (d : Nat) (q : MT) : St (call d) (Nat.blt 0 d) q (run d q) := fun _ _ _ _ i r hi => run_step i r hi
theorem msk0 {mk : List (Nat × List Nat)} {pc : Nat} (h : mk.lookup pc = none) (L : List (Option Value)) : msk mk pc L = L := by
  unfold msk
  rw [h]
theorem T1 {mk : List (Nat × List Nat)} {ρ : Kt} {X B : Option RV} {pc : Nat} {L : List (Option Value)} {st : List Value} {h : AH} (h1 : X = ρ pc (msk mk pc L) st h) (hm : mk.lookup pc = none) (h2 : ρ pc L st h = B) : X = B := by
  rw [h1, msk0 hm]
  exact h2
theorem T2 {ρ : Kt} {X B : Option RV} {pc : Nat} {L : List (Option Value)} {st : List Value} {h : AH} (L' : List (Option Value)) (h1 : X = ρ pc L st h) (hL : L = L') (h2 : ρ pc L' st h = B) : X = B := by
  rw [h1, hL]
  exact h2
theorem U1 {mk : List (Nat × List Nat)} {ρ : Kt} {B : Option RV} {pc : Nat} {L : List (Option Value)} {st : List Value} {h : AH} (hm : mk.lookup pc = none) (h2 : ρ pc L st h = B) : ρ pc (msk mk pc L) st h = B := by
  rw [msk0 hm]
  exact h2
theorem U2 {ρ : Kt} {B : Option RV} {pc : Nat} {L : List (Option Value)} {st : List Value} {h : AH} (L' : List (Option Value)) (hL : L = L') (h2 : ρ pc L' st h = B) : ρ pc L st h = B := by
  rw [hL]
  exact h2
theorem bi_c {o : Option RV} {f g : RV → Option RV} (h : ∀ q, f q = g q) : o.bind f = o.bind g := by
  cases o with
  | none => rfl
  | some q => exact h q
theorem if_c {p : Prop} [Decidable p] {a a' b b' : Option RV} (h1 : a = a') (h2 : b = b') : (if p then a else b) = if p then a' else b' := by rw [h1, h2]
theorem gfI_c {h : AH} {a ci k : Nat} {f g : Int32 → Option RV} (e : ∀ x, f x = g x) : gfI h a ci k f = gfI h a ci k g := by rw [funext e]
theorem gfQ_c {h : AH} {a ci k : Nat} {n n' : Option RV} {f g : Nat → Option RV} (e0 : n = n') (e : ∀ x, f x = g x) : gfQ h a ci k n f = gfQ h a ci k n' g := by rw [funext e, e0]
theorem pfV_c {h : AH} {a ci k : Nat} {v : Value} {f g : AH → Option RV} (e : ∀ x, f x = g x) : pfV h a ci k v f = pfV h a ci k v g := by rw [funext e]
theorem isZ_c {x : Int32} {f g : Option RV} (e : f = g) : isZ x f = isZ x g := by rw [e]
theorem ldI_c {h : AH} {a : Nat} {i : Int32} {f g : Int32 → Option RV} (e : ∀ x, f x = g x) : ldI h a i f = ldI h a i g := by rw [funext e]
theorem ldZ_c {h : AH} {a : Nat} {i : Int32} {f g : Int32 → Option RV} (e : ∀ x, f x = g x) : ldZ h a i f = ldZ h a i g := by rw [funext e]
theorem ldQ_c {h : AH} {a : Nat} {i : Int32} {n n' : Option RV} {f g : Nat → Option RV} (e0 : n = n') (e : ∀ x, f x = g x) : ldQ h a i n f = ldQ h a i n' g := by rw [funext e, e0]
theorem stI_c {h : AH} {a : Nat} {i x : Int32} {f g : AH → Option RV} (e : ∀ x, f x = g x) : stI h a i x f = stI h a i x g := by rw [funext e]
theorem stZ_c {h : AH} {a : Nat} {i x : Int32} {f g : AH → Option RV} (e : ∀ x, f x = g x) : stZ h a i x f = stZ h a i x g := by rw [funext e]
theorem stQ_c {h : AH} {a : Nat} {i : Int32} {v : Nat} {f g : AH → Option RV} (e : ∀ x, f x = g x) : stQ h a i v f = stQ h a i v g := by rw [funext e]
theorem isO_c {h : AH} {a ci : Nat} {f g : Option RV} (e : f = g) : isO h a ci f = isO h a ci g := by rw [e]
theorem lnA_c {h : AH} {a : Nat} {f g : Int32 → Option RV} (e : ∀ x, f x = g x) : lnA h a f = lnA h a g := by rw [funext e]
theorem cpA_c {h : AH} {a d : Nat} {sp dp n : Int32} {f g : AH → Option RV} (e : ∀ x, f x = g x) : cpA h a sp d dp n f = cpA h a sp d dp n g := by rw [funext e]
theorem rV_c {q : RV} {f g : AH → Option RV} (e : ∀ h, f h = g h) : rV q f = rV q g := by rw [funext e]
theorem rI_c {q : RV} {f g : Int32 → AH → Option RV} (e : ∀ x h, f x h = g x h) : rI q f = rI q g := by rw [funext fun x => funext (e x)]
theorem rQ_c {q : RV} {m n : AH → Option RV} {f g : Nat → AH → Option RV} (e0 : ∀ h, m h = n h) (e : ∀ x h, f x h = g x h) : rQ q m f = rQ q n g := by rw [funext e0, funext fun x => funext (e x)]
section XL
variable {c : Ct} {dd : Bool} {q : MT} {ρ : Kt} {pc t : Nat} {L : List (Option Value)} {st rest : List Value} {h : AH} {r : Nat × (Nat × Nat)}
theorem nb00 : Nat.beq 1000 1000 = true := by decide +kernel
theorem nb10 : Nat.beq 1001 1000 = false := by decide +kernel
theorem nb11 : Nat.beq 1001 1001 = true := by decide +kernel
theorem nb20 : Nat.beq 1002 1000 = false := by decide +kernel
theorem nb21 : Nat.beq 1002 1001 = false := by decide +kernel
theorem nb22 : Nat.beq 1002 1002 = true := by decide +kernel
theorem x_null (H : St c dd q ρ) (hi : q.2.2.1[pc]? = some (some (.aconst_null, r))) : ρ pc L (st) h = ρ (pc + 1) (msk q.2.2.2 (pc + 1) L) (.null :: st) h := by
  exact H pc L _ h _ _ hi
theorem x_iconst (H : St c dd q ρ) {n : Int} {v : Int32} (hi : q.2.2.1[pc]? = some (some (.iconst n, r))) (hv : Int32.ofInt n = v) : ρ pc L (st) h = ρ (pc + 1) (msk q.2.2.2 (pc + 1) L) (.int v :: st) h := by
  subst hv; exact H pc L _ h _ _ hi
theorem x_bipush (H : St c dd q ρ) {n : Int} {v : Int32} (hi : q.2.2.1[pc]? = some (some (.bipush n, r))) (hv : (Int8.ofInt n).toInt32 = v) : ρ pc L (st) h = ρ (pc + 2) (msk q.2.2.2 (pc + 2) L) (.int v :: st) h := by
  subst hv; exact H pc L _ h _ _ hi
theorem x_sipush (H : St c dd q ρ) {n : Int} {v : Int32} (hi : q.2.2.1[pc]? = some (some (.sipush n, r))) (hv : (Int16.ofInt n).toInt32 = v) : ρ pc L (st) h = ρ (pc + 3) (msk q.2.2.2 (pc + 3) L) (.int v :: st) h := by
  subst hv; exact H pc L _ h _ _ hi
theorem x_lconst (H : St c dd q ρ) {n : Fin 2} {v : Int64} (hi : q.2.2.1[pc]? = some (some (.lconst n, r))) (hv : Int64.ofNat n.val = v) : ρ pc L (st) h = ρ (pc + 1) (msk q.2.2.2 (pc + 1) L) (.long v :: st) h := by
  subst hv; exact H pc L _ h _ _ hi
theorem x_ldc2 (H : St c dd q ρ) {n k : Nat} {v : Int64} (hi : q.2.2.1[pc]? = some (some (.ldc2_w n, (k, (0, 0))))) (hv : Int64.ofNat k = v) : ρ pc L (st) h = ρ (pc + 3) (msk q.2.2.2 (pc + 3) L) (.long v :: st) h := by
  subst hv; exact H pc L _ h _ _ hi
theorem x_iload_n (H : St c dd q ρ) {k : Fin 4} {x : Int32} (hi : q.2.2.1[pc]? = some (some (.iload_n k, r))) (hl : L[k.val]? = some (some (.int x))) : ρ pc L (st) h = ρ (pc + 1) (msk q.2.2.2 (pc + 1) L) (.int x :: st) h := by
  rw [H pc L _ h _ _ hi]; show gLI L k.val _ = _; unfold gLI; rw [hl]
theorem x_iload (H : St c dd q ρ) {k : Nat} {x : Int32} (hi : q.2.2.1[pc]? = some (some (.iload k, r))) (hl : L[k]? = some (some (.int x))) : ρ pc L (st) h = ρ (pc + 2) (msk q.2.2.2 (pc + 2) L) (.int x :: st) h := by
  rw [H pc L _ h _ _ hi]; show gLI L k _ = _; unfold gLI; rw [hl]
theorem x_lload_n (H : St c dd q ρ) {k : Fin 4} {x : Int64} (hi : q.2.2.1[pc]? = some (some (.lload_n k, r))) (hl : L[k.val]? = some (some (.long x))) : ρ pc L (st) h = ρ (pc + 1) (msk q.2.2.2 (pc + 1) L) (.long x :: st) h := by
  rw [H pc L _ h _ _ hi]; show gLL L k.val _ = _; unfold gLL; rw [hl]
theorem x_lload (H : St c dd q ρ) {k : Nat} {x : Int64} (hi : q.2.2.1[pc]? = some (some (.lload k, r))) (hl : L[k]? = some (some (.long x))) : ρ pc L (st) h = ρ (pc + 2) (msk q.2.2.2 (pc + 2) L) (.long x :: st) h := by
  rw [H pc L _ h _ _ hi]; show gLL L k _ = _; unfold gLL; rw [hl]
theorem x_aload_n (H : St c dd q ρ) {k : Fin 4} {x : Nat} (hi : q.2.2.1[pc]? = some (some (.aload_n k, r))) (hl : L[k.val]? = some (some (.ref x))) : ρ pc L (st) h = ρ (pc + 1) (msk q.2.2.2 (pc + 1) L) (.ref x :: st) h := by
  rw [H pc L _ h _ _ hi]; show gLQ L k.val _ _ = _; unfold gLQ; rw [hl]
theorem x_aload_nN (H : St c dd q ρ) {k : Fin 4} (hi : q.2.2.1[pc]? = some (some (.aload_n k, r))) (hl : L[k.val]? = some (some .null)) : ρ pc L (st) h = ρ (pc + 1) (msk q.2.2.2 (pc + 1) L) (.null :: st) h := by
  rw [H pc L _ h _ _ hi]; show gLQ L k.val _ _ = _; unfold gLQ; rw [hl]
theorem x_aload (H : St c dd q ρ) {k : Nat} {x : Nat} (hi : q.2.2.1[pc]? = some (some (.aload k, r))) (hl : L[k]? = some (some (.ref x))) : ρ pc L (st) h = ρ (pc + 2) (msk q.2.2.2 (pc + 2) L) (.ref x :: st) h := by
  rw [H pc L _ h _ _ hi]; show gLQ L k _ _ = _; unfold gLQ; rw [hl]
theorem x_aloadN (H : St c dd q ρ) {k : Nat} (hi : q.2.2.1[pc]? = some (some (.aload k, r))) (hl : L[k]? = some (some .null)) : ρ pc L (st) h = ρ (pc + 2) (msk q.2.2.2 (pc + 2) L) (.null :: st) h := by
  rw [H pc L _ h _ _ hi]; show gLQ L k _ _ = _; unfold gLQ; rw [hl]
theorem x_istore_n (H : St c dd q ρ) {k : Fin 4} {x : Int32} (hi : q.2.2.1[pc]? = some (some (.istore_n k, r))) (hl : (Nat.blt k.val L.length && noL L k.val) = true) : ρ pc L (.int x :: st) h = ρ (pc + 1) (msk q.2.2.2 (pc + 1) (L.set k.val (some (.int x)))) (st) h := by
  rw [H pc L _ h _ _ hi]; simp only [stp, pI, pQ, sL, hl, cond_true]
theorem x_istore (H : St c dd q ρ) {k : Nat} {x : Int32} (hi : q.2.2.1[pc]? = some (some (.istore k, r))) (hl : (Nat.blt k L.length && noL L k) = true) : ρ pc L (.int x :: st) h = ρ (pc + 2) (msk q.2.2.2 (pc + 2) (L.set k (some (.int x)))) (st) h := by
  rw [H pc L _ h _ _ hi]; simp only [stp, pI, pQ, sL, hl, cond_true]
theorem x_astore_n (H : St c dd q ρ) {k : Fin 4} {x : Nat} (hi : q.2.2.1[pc]? = some (some (.astore_n k, r))) (hl : (Nat.blt k.val L.length && noL L k.val) = true) : ρ pc L (.ref x :: st) h = ρ (pc + 1) (msk q.2.2.2 (pc + 1) (L.set k.val (some (.ref x)))) (st) h := by
  rw [H pc L _ h _ _ hi]; simp only [stp, pI, pQ, sL, hl, cond_true]
theorem x_astore_nN (H : St c dd q ρ) {k : Fin 4} (hi : q.2.2.1[pc]? = some (some (.astore_n k, r))) (hl : (Nat.blt k.val L.length && noL L k.val) = true) : ρ pc L (.null :: st) h = ρ (pc + 1) (msk q.2.2.2 (pc + 1) (L.set k.val (some .null))) (st) h := by
  rw [H pc L _ h _ _ hi]; simp only [stp, pI, pQ, sL, hl, cond_true]
theorem x_astore (H : St c dd q ρ) {k : Nat} {x : Nat} (hi : q.2.2.1[pc]? = some (some (.astore k, r))) (hl : (Nat.blt k L.length && noL L k) = true) : ρ pc L (.ref x :: st) h = ρ (pc + 2) (msk q.2.2.2 (pc + 2) (L.set k (some (.ref x)))) (st) h := by
  rw [H pc L _ h _ _ hi]; simp only [stp, pI, pQ, sL, hl, cond_true]
theorem x_astoreN (H : St c dd q ρ) {k : Nat} (hi : q.2.2.1[pc]? = some (some (.astore k, r))) (hl : (Nat.blt k L.length && noL L k) = true) : ρ pc L (.null :: st) h = ρ (pc + 2) (msk q.2.2.2 (pc + 2) (L.set k (some .null))) (st) h := by
  rw [H pc L _ h _ _ hi]; simp only [stp, pI, pQ, sL, hl, cond_true]
theorem x_lstore (H : St c dd q ρ) {k : Nat} {x : Int64} (hi : q.2.2.1[pc]? = some (some (.lstore k, r))) (hl : (Nat.blt (k + 1) L.length && noL L k) = true) : ρ pc L (.long x :: st) h = ρ (pc + 2) (msk q.2.2.2 (pc + 2) ((L.set k (some (.long x))).set (k + 1) none)) (st) h := by
  rw [H pc L _ h _ _ hi]; simp only [stp, pL, sLL, hl, cond_true]
theorem x_iinc (H : St c dd q ρ) {k : Nat} {n : Int} {x v : Int32} (hi : q.2.2.1[pc]? = some (some (.iinc k n, r))) (hv : Int32.ofInt n = v) (h0 : L[k]? = some (some (.int x))) (hl : (Nat.blt k L.length && noL L k) = true) : ρ pc L (st) h = ρ (pc + 3) (msk q.2.2.2 (pc + 3) (L.set k (some (.int (x + v))))) (st) h := by
  subst hv; rw [H pc L _ h _ _ hi]; simp only [stp, gLI, h0, sL, hl, cond_true]
theorem x_iadd (H : St c dd q ρ) {x y : Int32} (hi : q.2.2.1[pc]? = some (some (.iadd, r))) : ρ pc L (.int y :: .int x :: st) h = ρ (pc + 1) (msk q.2.2.2 (pc + 1) L) (.int (x + y) :: st) h := by
  exact H pc L _ h _ _ hi
theorem x_isub (H : St c dd q ρ) {x y : Int32} (hi : q.2.2.1[pc]? = some (some (.isub, r))) : ρ pc L (.int y :: .int x :: st) h = ρ (pc + 1) (msk q.2.2.2 (pc + 1) L) (.int (x - y) :: st) h := by
  exact H pc L _ h _ _ hi
theorem x_imul (H : St c dd q ρ) {x y : Int32} (hi : q.2.2.1[pc]? = some (some (.imul, r))) : ρ pc L (.int y :: .int x :: st) h = ρ (pc + 1) (msk q.2.2.2 (pc + 1) L) (.int (x * y) :: st) h := by
  exact H pc L _ h _ _ hi
theorem x_iand (H : St c dd q ρ) {x y : Int32} (hi : q.2.2.1[pc]? = some (some (.iand, r))) : ρ pc L (.int y :: .int x :: st) h = ρ (pc + 1) (msk q.2.2.2 (pc + 1) L) (.int (x &&& y) :: st) h := by
  exact H pc L _ h _ _ hi
theorem x_ior (H : St c dd q ρ) {x y : Int32} (hi : q.2.2.1[pc]? = some (some (.ior, r))) : ρ pc L (.int y :: .int x :: st) h = ρ (pc + 1) (msk q.2.2.2 (pc + 1) L) (.int (x ||| y) :: st) h := by
  exact H pc L _ h _ _ hi
theorem x_ishl (H : St c dd q ρ) {x y : Int32} (hi : q.2.2.1[pc]? = some (some (.ishl, r))) : ρ pc L (.int y :: .int x :: st) h = ρ (pc + 1) (msk q.2.2.2 (pc + 1) L) (.int (x <<< (y &&& 31)) :: st) h := by
  exact H pc L _ h _ _ hi
theorem x_ishr (H : St c dd q ρ) {x y : Int32} (hi : q.2.2.1[pc]? = some (some (.ishr, r))) : ρ pc L (.int y :: .int x :: st) h = ρ (pc + 1) (msk q.2.2.2 (pc + 1) L) (.int (x >>> (y &&& 31)) :: st) h := by
  exact H pc L _ h _ _ hi
theorem x_idiv (H : St c dd q ρ) {x y : Int32} (hi : q.2.2.1[pc]? = some (some (.idiv, r))) (h0 : ¬ y = 0) : ρ pc L (.int y :: .int x :: st) h = ρ (pc + 1) (msk q.2.2.2 (pc + 1) L) (.int (x / y) :: st) h := by
  rw [H pc L _ h _ _ hi]; exact if_neg h0
theorem x_irem (H : St c dd q ρ) {x y : Int32} (hi : q.2.2.1[pc]? = some (some (.irem, r))) (h0 : ¬ y = 0) : ρ pc L (.int y :: .int x :: st) h = ρ (pc + 1) (msk q.2.2.2 (pc + 1) L) (.int (x - x / y * y) :: st) h := by
  rw [H pc L _ h _ _ hi]; exact if_neg h0
theorem x_i2l (H : St c dd q ρ) {x : Int32} (hi : q.2.2.1[pc]? = some (some (.i2l, r))) : ρ pc L (.int x :: st) h = ρ (pc + 1) (msk q.2.2.2 (pc + 1) L) (.long x.toInt64 :: st) h := by
  exact H pc L _ h _ _ hi
theorem x_l2i (H : St c dd q ρ) {x : Int64} (hi : q.2.2.1[pc]? = some (some (.l2i, r))) : ρ pc L (.long x :: st) h = ρ (pc + 1) (msk q.2.2.2 (pc + 1) L) (.int x.toInt32 :: st) h := by
  exact H pc L _ h _ _ hi
theorem x_i2b (H : St c dd q ρ) {x : Int32} (hi : q.2.2.1[pc]? = some (some (.i2b, r))) : ρ pc L (.int x :: st) h = ρ (pc + 1) (msk q.2.2.2 (pc + 1) L) (.int x.toInt8.toInt32 :: st) h := by
  exact H pc L _ h _ _ hi
theorem x_i2s (H : St c dd q ρ) {x : Int32} (hi : q.2.2.1[pc]? = some (some (.i2s, r))) : ρ pc L (.int x :: st) h = ρ (pc + 1) (msk q.2.2.2 (pc + 1) L) (.int x.toInt16.toInt32 :: st) h := by
  exact H pc L _ h _ _ hi
theorem x_ladd (H : St c dd q ρ) {x y : Int64} (hi : q.2.2.1[pc]? = some (some (.ladd, r))) : ρ pc L (.long y :: .long x :: st) h = ρ (pc + 1) (msk q.2.2.2 (pc + 1) L) (.long (x + y) :: st) h := by
  exact H pc L _ h _ _ hi
theorem x_lcmp (H : St c dd q ρ) {x y : Int64} (hi : q.2.2.1[pc]? = some (some (.lcmp, r))) : ρ pc L (.long y :: .long x :: st) h = ρ (pc + 1) (msk q.2.2.2 (pc + 1) L) (.int (lg_cmp x y) :: st) h := by
  exact H pc L _ h _ _ hi
theorem x_dup (H : St c dd q ρ) {x : Nat} (hi : q.2.2.1[pc]? = some (some (.dup, r))) : ρ pc L (.ref x :: st) h = ρ (pc + 1) (msk q.2.2.2 (pc + 1) L) (.ref x :: .ref x :: st) h := by
  exact H pc L _ h _ _ hi
theorem x_dup2 (H : St c dd q ρ) {x : Int32} {a : Nat} (hi : q.2.2.1[pc]? = some (some (.dup2, r))) : ρ pc L (.int x :: .ref a :: st) h = ρ (pc + 1) (msk q.2.2.2 (pc + 1) L) (.int x :: .ref a :: .int x :: .ref a :: st) h := by
  exact H pc L _ h _ _ hi
theorem x_pop (H : St c dd q ρ) {x : Int32} (hi : q.2.2.1[pc]? = some (some (.pop, r))) : ρ pc L (.int x :: st) h = ρ (pc + 1) (msk q.2.2.2 (pc + 1) L) (st) h := by
  exact H pc L _ h _ _ hi
theorem x_goto (H : St c dd q ρ) {off : Int} (hi : q.2.2.1[pc]? = some (some (.goto off, r))) (ht : (pc : Int) + off = (t : Int)) : ρ pc L (st) h = ρ (t) (msk q.2.2.2 (t) L) (st) h := by
  rw [H pc L _ h _ _ hi]; show jmp pc off _ = _; unfold jmp; rw [ht] <;> rfl
theorem x_icmp_eq (H : St c dd q ρ) {off : Int} {x y : Int32} (hi : q.2.2.1[pc]? = some (some (.if_icmp .eq off, r))) (ht : (pc : Int) + off = (t : Int)) : ρ pc L (.int y :: .int x :: st) h = if x = y then ρ (t) (msk q.2.2.2 (t) L) (st) h else ρ (pc + 3) (msk q.2.2.2 (pc + 3) L) (st) h := by
  rw [H pc L _ h _ _ hi]; show jmp pc off _ = _; unfold jmp; rw [ht] <;> rfl
theorem x_if_eq (H : St c dd q ρ) {off : Int} {x : Int32} (hi : q.2.2.1[pc]? = some (some (.ifCond .eq off, r))) (ht : (pc : Int) + off = (t : Int)) : ρ pc L (.int x :: st) h = if x = 0 then ρ (t) (msk q.2.2.2 (t) L) (st) h else ρ (pc + 3) (msk q.2.2.2 (pc + 3) L) (st) h := by
  rw [H pc L _ h _ _ hi]; show jmp pc off _ = _; unfold jmp; rw [ht] <;> rfl
theorem x_icmp_ne (H : St c dd q ρ) {off : Int} {x y : Int32} (hi : q.2.2.1[pc]? = some (some (.if_icmp .ne off, r))) (ht : (pc : Int) + off = (t : Int)) : ρ pc L (.int y :: .int x :: st) h = if x = y then ρ (pc + 3) (msk q.2.2.2 (pc + 3) L) (st) h else ρ (t) (msk q.2.2.2 (t) L) (st) h := by
  rw [H pc L _ h _ _ hi]; show jmp pc off _ = _; unfold jmp; rw [ht] <;> rfl
theorem x_if_ne (H : St c dd q ρ) {off : Int} {x : Int32} (hi : q.2.2.1[pc]? = some (some (.ifCond .ne off, r))) (ht : (pc : Int) + off = (t : Int)) : ρ pc L (.int x :: st) h = if x = 0 then ρ (pc + 3) (msk q.2.2.2 (pc + 3) L) (st) h else ρ (t) (msk q.2.2.2 (t) L) (st) h := by
  rw [H pc L _ h _ _ hi]; show jmp pc off _ = _; unfold jmp; rw [ht] <;> rfl
theorem x_icmp_lt (H : St c dd q ρ) {off : Int} {x y : Int32} (hi : q.2.2.1[pc]? = some (some (.if_icmp .lt off, r))) (ht : (pc : Int) + off = (t : Int)) : ρ pc L (.int y :: .int x :: st) h = if x < y then ρ (t) (msk q.2.2.2 (t) L) (st) h else ρ (pc + 3) (msk q.2.2.2 (pc + 3) L) (st) h := by
  rw [H pc L _ h _ _ hi]; show jmp pc off _ = _; unfold jmp; rw [ht] <;> rfl
theorem x_if_lt (H : St c dd q ρ) {off : Int} {x : Int32} (hi : q.2.2.1[pc]? = some (some (.ifCond .lt off, r))) (ht : (pc : Int) + off = (t : Int)) : ρ pc L (.int x :: st) h = if x < 0 then ρ (t) (msk q.2.2.2 (t) L) (st) h else ρ (pc + 3) (msk q.2.2.2 (pc + 3) L) (st) h := by
  rw [H pc L _ h _ _ hi]; show jmp pc off _ = _; unfold jmp; rw [ht] <;> rfl
theorem x_icmp_ge (H : St c dd q ρ) {off : Int} {x y : Int32} (hi : q.2.2.1[pc]? = some (some (.if_icmp .ge off, r))) (ht : (pc : Int) + off = (t : Int)) : ρ pc L (.int y :: .int x :: st) h = if y ≤ x then ρ (t) (msk q.2.2.2 (t) L) (st) h else ρ (pc + 3) (msk q.2.2.2 (pc + 3) L) (st) h := by
  rw [H pc L _ h _ _ hi]; show jmp pc off _ = _; unfold jmp; rw [ht] <;> rfl
theorem x_if_ge (H : St c dd q ρ) {off : Int} {x : Int32} (hi : q.2.2.1[pc]? = some (some (.ifCond .ge off, r))) (ht : (pc : Int) + off = (t : Int)) : ρ pc L (.int x :: st) h = if 0 ≤ x then ρ (t) (msk q.2.2.2 (t) L) (st) h else ρ (pc + 3) (msk q.2.2.2 (pc + 3) L) (st) h := by
  rw [H pc L _ h _ _ hi]; show jmp pc off _ = _; unfold jmp; rw [ht] <;> rfl
theorem x_icmp_gt (H : St c dd q ρ) {off : Int} {x y : Int32} (hi : q.2.2.1[pc]? = some (some (.if_icmp .gt off, r))) (ht : (pc : Int) + off = (t : Int)) : ρ pc L (.int y :: .int x :: st) h = if y < x then ρ (t) (msk q.2.2.2 (t) L) (st) h else ρ (pc + 3) (msk q.2.2.2 (pc + 3) L) (st) h := by
  rw [H pc L _ h _ _ hi]; show jmp pc off _ = _; unfold jmp; rw [ht] <;> rfl
theorem x_if_gt (H : St c dd q ρ) {off : Int} {x : Int32} (hi : q.2.2.1[pc]? = some (some (.ifCond .gt off, r))) (ht : (pc : Int) + off = (t : Int)) : ρ pc L (.int x :: st) h = if 0 < x then ρ (t) (msk q.2.2.2 (t) L) (st) h else ρ (pc + 3) (msk q.2.2.2 (pc + 3) L) (st) h := by
  rw [H pc L _ h _ _ hi]; show jmp pc off _ = _; unfold jmp; rw [ht] <;> rfl
theorem x_icmp_le (H : St c dd q ρ) {off : Int} {x y : Int32} (hi : q.2.2.1[pc]? = some (some (.if_icmp .le off, r))) (ht : (pc : Int) + off = (t : Int)) : ρ pc L (.int y :: .int x :: st) h = if x ≤ y then ρ (t) (msk q.2.2.2 (t) L) (st) h else ρ (pc + 3) (msk q.2.2.2 (pc + 3) L) (st) h := by
  rw [H pc L _ h _ _ hi]; show jmp pc off _ = _; unfold jmp; rw [ht] <;> rfl
theorem x_if_le (H : St c dd q ρ) {off : Int} {x : Int32} (hi : q.2.2.1[pc]? = some (some (.ifCond .le off, r))) (ht : (pc : Int) + off = (t : Int)) : ρ pc L (.int x :: st) h = if x ≤ 0 then ρ (t) (msk q.2.2.2 (t) L) (st) h else ρ (pc + 3) (msk q.2.2.2 (pc + 3) L) (st) h := by
  rw [H pc L _ h _ _ hi]; show jmp pc off _ = _; unfold jmp; rw [ht] <;> rfl
theorem x_ifnull (H : St c dd q ρ) {off : Int} {x : Nat} (hi : q.2.2.1[pc]? = some (some (.ifnull off, r))) (ht : (pc : Int) + off = (t : Int)) : ρ pc L (.ref x :: st) h = ρ (pc + 3) (msk q.2.2.2 (pc + 3) L) (st) h := by
  rw [H pc L _ h _ _ hi]; show jmp pc off _ = _; unfold jmp; rw [ht] <;> rfl
theorem x_ifnullN (H : St c dd q ρ) {off : Int} (hi : q.2.2.1[pc]? = some (some (.ifnull off, r))) (ht : (pc : Int) + off = (t : Int)) : ρ pc L (.null :: st) h = ρ (t) (msk q.2.2.2 (t) L) (st) h := by
  rw [H pc L _ h _ _ hi]; show jmp pc off _ = _; unfold jmp; rw [ht] <;> rfl
theorem x_ifnonnull (H : St c dd q ρ) {off : Int} {x : Nat} (hi : q.2.2.1[pc]? = some (some (.ifnonnull off, r))) (ht : (pc : Int) + off = (t : Int)) : ρ pc L (.ref x :: st) h = ρ (t) (msk q.2.2.2 (t) L) (st) h := by
  rw [H pc L _ h _ _ hi]; show jmp pc off _ = _; unfold jmp; rw [ht] <;> rfl
theorem x_ifnonnullN (H : St c dd q ρ) {off : Int} (hi : q.2.2.1[pc]? = some (some (.ifnonnull off, r))) (ht : (pc : Int) + off = (t : Int)) : ρ pc L (.null :: st) h = ρ (pc + 3) (msk q.2.2.2 (pc + 3) L) (st) h := by
  rw [H pc L _ h _ _ hi]; show jmp pc off _ = _; unfold jmp; rw [ht] <;> rfl
theorem x_switch (H : St c dd q ρ) {d lo hi : Int} {offs : Array Int} {x : Int32} (hi0 : q.2.2.1[pc]? = some (some (.tableswitch d lo hi offs, r))) (hl : (hi - lo + 1 == (offs.toList.length : Int)) = true) : ρ pc L (.int x :: st) h = swt x lo offs.toList (fun o => jmp pc o fun t => ρ t (msk q.2.2.2 t L) st h) (jmp pc d fun t => ρ t (msk q.2.2.2 t L) st h) := by
  rw [H pc L _ h _ _ hi0]; simp only [stp, pI, hl, cond_true]
theorem jmp_eq {pc t : Nat} {off : Int} {f : Nat → Option RV} (ht : (pc : Int) + off = (t : Int)) : jmp pc off f = f t := by unfold jmp; rw [ht]
theorem swt_c {x : Int32} {lo : Int} {o : Int} {rs : List Int} {f : Int → Option RV} {d a b : Option RV} (h1 : f o = a) (h2 : swt x (lo + 1) rs f d = b) : swt x lo (o :: rs) f d = if x.toInt = lo then a else b := by unfold swt; rw [h1, h2]
theorem x_getI (H : St c dd q ρ) {n ci k a : Nat} (hi : q.2.2.1[pc]? = some (some (.getfield n, (ci, (k, 0))))) : ρ pc L (.ref a :: st) h = gfI h a ci k fun x => ρ (pc + 3) (msk q.2.2.2 (pc + 3) L) (.int x :: st) h := by
  exact H pc L _ h _ _ hi
theorem x_getZ (H : St c dd q ρ) {n ci k a : Nat} (hi : q.2.2.1[pc]? = some (some (.getfield n, (ci, (k, 2))))) : ρ pc L (.ref a :: st) h = gfI h a ci k fun x => ρ (pc + 3) (msk q.2.2.2 (pc + 3) L) (.int x :: st) h := by
  exact H pc L _ h _ _ hi
theorem x_getR (H : St c dd q ρ) {n ci k a : Nat} (hi : q.2.2.1[pc]? = some (some (.getfield n, (ci, (k, 1))))) : ρ pc L (.ref a :: st) h = gfQ h a ci k none fun b => ρ (pc + 3) (msk q.2.2.2 (pc + 3) L) (.ref b :: st) h := by
  exact H pc L _ h _ _ hi
theorem x_getQ (H : St c dd q ρ) {n ci k a : Nat} (hi : q.2.2.1[pc]? = some (some (.getfield n, (ci, (k, 4))))) : ρ pc L (.ref a :: st) h = gfQ h a ci k (ρ (pc + 3) (msk q.2.2.2 (pc + 3) L) (.null :: st) h) fun b => ρ (pc + 3) (msk q.2.2.2 (pc + 3) L) (.ref b :: st) h := by
  exact H pc L _ h _ _ hi
theorem x_putI (H : St c dd q ρ) {n ci k a : Nat} {x : Int32} (hi : q.2.2.1[pc]? = some (some (.putfield n, (ci, (k, 0))))) : ρ pc L (.int x :: .ref a :: st) h = pfV h a ci k (.int x) fun h => ρ (pc + 3) (msk q.2.2.2 (pc + 3) L) (st) h := by
  exact H pc L _ h _ _ hi
theorem x_putZ (H : St c dd q ρ) {n ci k a : Nat} {x : Int32} (hi : q.2.2.1[pc]? = some (some (.putfield n, (ci, (k, 2))))) : ρ pc L (.int x :: .ref a :: st) h = isZ x (pfV h a ci k (.int x) fun h => ρ (pc + 3) (msk q.2.2.2 (pc + 3) L) (st) h) := by
  exact H pc L _ h _ _ hi
theorem x_putR (H : St c dd q ρ) {n ci k a b : Nat} (hi : q.2.2.1[pc]? = some (some (.putfield n, (ci, (k, 1))))) : ρ pc L (.ref b :: .ref a :: st) h = pfV h a ci k (.ref b) fun h => ρ (pc + 3) (msk q.2.2.2 (pc + 3) L) (st) h := by
  exact H pc L _ h _ _ hi
theorem x_putN (H : St c dd q ρ) {n ci k a : Nat} (hi : q.2.2.1[pc]? = some (some (.putfield n, (ci, (k, 1))))) : ρ pc L (.null :: .ref a :: st) h = pfV h a ci k .null fun h => ρ (pc + 3) (msk q.2.2.2 (pc + 3) L) (st) h := by
  exact H pc L _ h _ _ hi
theorem x_iaload (H : St c dd q ρ) {a : Nat} {i : Int32} (hi : q.2.2.1[pc]? = some (some (.iaload, r))) : ρ pc L (.int i :: .ref a :: st) h = ldI h a i fun x => ρ (pc + 1) (msk q.2.2.2 (pc + 1) L) (.int x :: st) h := by
  exact H pc L _ h _ _ hi
theorem x_baload (H : St c dd q ρ) {a : Nat} {i : Int32} (hi : q.2.2.1[pc]? = some (some (.baload, r))) : ρ pc L (.int i :: .ref a :: st) h = ldZ h a i fun x => ρ (pc + 1) (msk q.2.2.2 (pc + 1) L) (.int x :: st) h := by
  exact H pc L _ h _ _ hi
theorem x_aaload (H : St c dd q ρ) {a : Nat} {i : Int32} (hi : q.2.2.1[pc]? = some (some (.aaload, r))) : ρ pc L (.int i :: .ref a :: st) h = ldQ h a i none fun b => ρ (pc + 1) (msk q.2.2.2 (pc + 1) L) (.ref b :: st) h := by
  exact H pc L _ h _ _ hi
theorem x_iastore (H : St c dd q ρ) {a : Nat} {i x : Int32} (hi : q.2.2.1[pc]? = some (some (.iastore, r))) : ρ pc L (.int x :: .int i :: .ref a :: st) h = stI h a i x fun h => ρ (pc + 1) (msk q.2.2.2 (pc + 1) L) (st) h := by
  exact H pc L _ h _ _ hi
theorem x_bastore (H : St c dd q ρ) {a : Nat} {i x : Int32} (hi : q.2.2.1[pc]? = some (some (.bastore, r))) : ρ pc L (.int x :: .int i :: .ref a :: st) h = stZ h a i x fun h => ρ (pc + 1) (msk q.2.2.2 (pc + 1) L) (st) h := by
  exact H pc L _ h _ _ hi
theorem x_aastore (H : St c dd q ρ) {a v : Nat} {i : Int32} (hi : q.2.2.1[pc]? = some (some (.aastore, r))) : ρ pc L (.ref v :: .int i :: .ref a :: st) h = stQ h a i v fun h => ρ (pc + 1) (msk q.2.2.2 (pc + 1) L) (st) h := by
  exact H pc L _ h _ _ hi
theorem x_alen (H : St c dd q ρ) {a : Nat} (hi : q.2.2.1[pc]? = some (some (.arraylength, r))) : ρ pc L (.ref a :: st) h = lnA h a fun x => ρ (pc + 1) (msk q.2.2.2 (pc + 1) L) (.int x :: st) h := by
  exact H pc L _ h _ _ hi
theorem x_new (H : St c dd q ρ) {n ci k : Nat} (hi : q.2.2.1[pc]? = some (some (.new n, (ci, (k, 0))))) : ρ pc L (st) h = ρ (pc + 3) (msk q.2.2.2 (pc + 3) L) (.ref h.2.1 :: st) (hN h (oB ci (dfl ci)) (dfl ci).length) := by
  exact H pc L _ h _ _ hi
theorem x_newi (H : St c dd q ρ) {n : Int32} {N : Nat} (hi : q.2.2.1[pc]? = some (some (.newarray .int, r))) (hn : n.toNatClampNeg = N) (h0 : ¬ (n < 0 ∨ 100000 < n.toNatClampNeg)) : ρ pc L (.int n :: st) h = ρ (pc + 2) (msk q.2.2.2 (pc + 2) L) (.ref h.2.1 :: st) (hN h (aI 0 N fun _ => 0) N) := by
  subst hn; rw [H pc L _ h _ _ hi]; exact if_neg h0
theorem x_newz (H : St c dd q ρ) {n : Int32} {N : Nat} (hi : q.2.2.1[pc]? = some (some (.newarray .boolean, r))) (hn : n.toNatClampNeg = N) (h0 : ¬ (n < 0 ∨ 100000 < n.toNatClampNeg)) : ρ pc L (.int n :: st) h = ρ (pc + 2) (msk q.2.2.2 (pc + 2) L) (.ref h.2.1 :: st) (hN h (aI 1 N fun _ => 0) N) := by
  subst hn; rw [H pc L _ h _ _ hi]; exact if_neg h0
theorem x_newq (H : St c dd q ρ) {x t0 : Nat} {n : Int32} {N : Nat} (hi : q.2.2.1[pc]? = some (some (.anewarray x, (t0, (0, 0))))) (hn : n.toNatClampNeg = N) (h0 : ¬ (n < 0 ∨ 100000 < n.toNatClampNeg)) : ρ pc L (.int n :: st) h = ρ (pc + 3) (msk q.2.2.2 (pc + 3) L) (.ref h.2.1 :: st) (hN h (aQ t0 N fun _ => none) N) := by
  subst hn; rw [H pc L _ h _ _ hi]; exact if_neg h0
theorem x_callV (H : St c dd q ρ) {m n y b ci : Nat} (hi : q.2.2.1[pc]? = some (some (.invokevirtual m, (y, (n, 0))))) (as : List Value) (ha : (st.take n).reverse = as) (hd : st.drop n = .ref b :: rest) (hro : roomOk rest = true) (hc : clsOf y = ci) : ρ pc L (st) h = isO h b ci ((c y (.ref b :: as) h).bind fun q0 => rV q0 fun h => ρ (pc + 3) (msk q.2.2.2 (pc + 3) L) (rest) h) := by
  subst ha hc; rw [H pc L _ h _ _ hi]; show (pR (st.drop n) fun b rest => bif roomOk rest then isO h b (clsOf y) ((c y (.ref b :: (st.take n).reverse) h).bind fun q => aft 0 q pc L rest _) else none) = _; rw [hd]; show (bif roomOk rest then _ else none) = _; rw [hro]; rfl
theorem x_statV (H : St c dd q ρ) {m n y : Nat} (hi : q.2.2.1[pc]? = some (some (.invokestatic m, (y, (n, 0))))) (as : List Value) (ha : (st.take n).reverse = as) (hd : st.drop n = rest) (hle : Nat.ble n st.length = true) (hro : roomOk rest = true) (hy : (Nat.beq y 1000 || (Nat.beq y 1001 || Nat.beq y 1002)) = false) : ρ pc L (st) h = (c y as h).bind fun q0 => rV q0 fun h => ρ (pc + 3) (msk q.2.2.2 (pc + 3) L) (rest) h := by
  subst ha; simp only [Bool.or_eq_false_iff] at hy; rw [H pc L _ h _ _ hi]; show (bif Nat.beq y 1000 then _ else bif Nat.beq y 1001 then _ else bif Nat.beq y 1002 then _ else bif Nat.ble n st.length && roomOk (st.drop n) then (c y (st.take n).reverse h).bind fun q => aft 0 q pc L (st.drop n) _ else none) = _; rw [hy.1, hy.2.1, hy.2.2, hd, hle, hro]; rfl
theorem x_callI (H : St c dd q ρ) {m n y b ci : Nat} (hi : q.2.2.1[pc]? = some (some (.invokevirtual m, (y, (n, 1))))) (as : List Value) (ha : (st.take n).reverse = as) (hd : st.drop n = .ref b :: rest) (hro : roomOk rest = true) (hc : clsOf y = ci) : ρ pc L (st) h = isO h b ci ((c y (.ref b :: as) h).bind fun q0 => rI q0 fun x h => ρ (pc + 3) (msk q.2.2.2 (pc + 3) L) (.int x :: rest) h) := by
  subst ha hc; rw [H pc L _ h _ _ hi]; show (pR (st.drop n) fun b rest => bif roomOk rest then isO h b (clsOf y) ((c y (.ref b :: (st.take n).reverse) h).bind fun q => aft 1 q pc L rest _) else none) = _; rw [hd]; show (bif roomOk rest then _ else none) = _; rw [hro]; rfl
theorem x_statI (H : St c dd q ρ) {m n y : Nat} (hi : q.2.2.1[pc]? = some (some (.invokestatic m, (y, (n, 1))))) (as : List Value) (ha : (st.take n).reverse = as) (hd : st.drop n = rest) (hle : Nat.ble n st.length = true) (hro : roomOk rest = true) (hy : (Nat.beq y 1000 || (Nat.beq y 1001 || Nat.beq y 1002)) = false) : ρ pc L (st) h = (c y as h).bind fun q0 => rI q0 fun x h => ρ (pc + 3) (msk q.2.2.2 (pc + 3) L) (.int x :: rest) h := by
  subst ha; simp only [Bool.or_eq_false_iff] at hy; rw [H pc L _ h _ _ hi]; show (bif Nat.beq y 1000 then _ else bif Nat.beq y 1001 then _ else bif Nat.beq y 1002 then _ else bif Nat.ble n st.length && roomOk (st.drop n) then (c y (st.take n).reverse h).bind fun q => aft 1 q pc L (st.drop n) _ else none) = _; rw [hy.1, hy.2.1, hy.2.2, hd, hle, hro]; rfl
theorem x_callZ (H : St c dd q ρ) {m n y b ci : Nat} (hi : q.2.2.1[pc]? = some (some (.invokevirtual m, (y, (n, 3))))) (as : List Value) (ha : (st.take n).reverse = as) (hd : st.drop n = .ref b :: rest) (hro : roomOk rest = true) (hc : clsOf y = ci) : ρ pc L (st) h = isO h b ci ((c y (.ref b :: as) h).bind fun q0 => rI q0 fun x h => ρ (pc + 3) (msk q.2.2.2 (pc + 3) L) (.int x :: rest) h) := by
  subst ha hc; rw [H pc L _ h _ _ hi]; show (pR (st.drop n) fun b rest => bif roomOk rest then isO h b (clsOf y) ((c y (.ref b :: (st.take n).reverse) h).bind fun q => aft 3 q pc L rest _) else none) = _; rw [hd]; show (bif roomOk rest then _ else none) = _; rw [hro]; rfl
theorem x_statZ (H : St c dd q ρ) {m n y : Nat} (hi : q.2.2.1[pc]? = some (some (.invokestatic m, (y, (n, 3))))) (as : List Value) (ha : (st.take n).reverse = as) (hd : st.drop n = rest) (hle : Nat.ble n st.length = true) (hro : roomOk rest = true) (hy : (Nat.beq y 1000 || (Nat.beq y 1001 || Nat.beq y 1002)) = false) : ρ pc L (st) h = (c y as h).bind fun q0 => rI q0 fun x h => ρ (pc + 3) (msk q.2.2.2 (pc + 3) L) (.int x :: rest) h := by
  subst ha; simp only [Bool.or_eq_false_iff] at hy; rw [H pc L _ h _ _ hi]; show (bif Nat.beq y 1000 then _ else bif Nat.beq y 1001 then _ else bif Nat.beq y 1002 then _ else bif Nat.ble n st.length && roomOk (st.drop n) then (c y (st.take n).reverse h).bind fun q => aft 3 q pc L (st.drop n) _ else none) = _; rw [hy.1, hy.2.1, hy.2.2, hd, hle, hro]; rfl
theorem x_callR (H : St c dd q ρ) {m n y b ci : Nat} (hi : q.2.2.1[pc]? = some (some (.invokevirtual m, (y, (n, 2))))) (as : List Value) (ha : (st.take n).reverse = as) (hd : st.drop n = .ref b :: rest) (hro : roomOk rest = true) (hc : clsOf y = ci) : ρ pc L (st) h = isO h b ci ((c y (.ref b :: as) h).bind fun q0 => rQ q0 (fun h => ρ (pc + 3) (msk q.2.2.2 (pc + 3) L) (.null :: rest) h) (fun a h => ρ (pc + 3) (msk q.2.2.2 (pc + 3) L) (.ref a :: rest) h)) := by
  subst ha hc; rw [H pc L _ h _ _ hi]; show (pR (st.drop n) fun b rest => bif roomOk rest then isO h b (clsOf y) ((c y (.ref b :: (st.take n).reverse) h).bind fun q => aft 2 q pc L rest _) else none) = _; rw [hd]; show (bif roomOk rest then _ else none) = _; rw [hro]; rfl
theorem x_statR (H : St c dd q ρ) {m n y : Nat} (hi : q.2.2.1[pc]? = some (some (.invokestatic m, (y, (n, 2))))) (as : List Value) (ha : (st.take n).reverse = as) (hd : st.drop n = rest) (hle : Nat.ble n st.length = true) (hro : roomOk rest = true) (hy : (Nat.beq y 1000 || (Nat.beq y 1001 || Nat.beq y 1002)) = false) : ρ pc L (st) h = (c y as h).bind fun q0 => rQ q0 (fun h => ρ (pc + 3) (msk q.2.2.2 (pc + 3) L) (.null :: rest) h) (fun a h => ρ (pc + 3) (msk q.2.2.2 (pc + 3) L) (.ref a :: rest) h) := by
  subst ha; simp only [Bool.or_eq_false_iff] at hy; rw [H pc L _ h _ _ hi]; show (bif Nat.beq y 1000 then _ else bif Nat.beq y 1001 then _ else bif Nat.beq y 1002 then _ else bif Nat.ble n st.length && roomOk (st.drop n) then (c y (st.take n).reverse h).bind fun q => aft 2 q pc L (st.drop n) _ else none) = _; rw [hy.1, hy.2.1, hy.2.2, hd, hle, hro]; rfl
theorem x_init (H : St c dd q ρ) {m n y b : Nat} (hi : q.2.2.1[pc]? = some (some (.invokespecial m, (y, (n, 0))))) (as : List Value) (ha : (st.take n).reverse = as) (hd : st.drop n = .ref b :: rest) (hro : roomOk rest = true) (hy : Nat.beq y 1000 = false) : ρ pc L (st) h = (c y (.ref b :: as) h).bind fun q0 => rV q0 fun h => ρ (pc + 3) (msk q.2.2.2 (pc + 3) L) (rest) h := by
  subst ha; rw [H pc L _ h _ _ hi]; show (bif Nat.beq y 1000 then _ else (pR (st.drop n) fun b rest => bif roomOk rest then (c y (.ref b :: (st.take n).reverse) h).bind fun q => aft 0 q pc L rest _ else none)) = _; rw [hy, hd]; show (bif roomOk rest then _ else none) = _; rw [hro]; rfl
theorem x_oinit (H : St c dd q ρ) {m b : Nat} (hi : q.2.2.1[pc]? = some (some (.invokespecial m, (1000, (0, 0))))) (hro : (roomOk rest && dd) = true) : ρ pc L (.ref b :: rest) h = ρ (pc + 3) (msk q.2.2.2 (pc + 3) L) (rest) h := by
  rw [H pc L _ h _ _ hi]; simp only [stp, pI, pR, hro, cond_true, cond_false, nb00, nb10, nb11, nb20, nb21, nb22]
theorem x_acopy (H : St c dd q ρ) {m a d : Nat} {n dp sp : Int32} (hi : q.2.2.1[pc]? = some (some (.invokestatic m, (1000, (0, 0))))) (hro : (roomOk rest && dd) = true) : ρ pc L (.int n :: .int dp :: .ref d :: .int sp :: .ref a :: rest) h = cpA h a sp d dp n fun h => ρ (pc + 3) (msk q.2.2.2 (pc + 3) L) (rest) h := by
  rw [H pc L _ h _ _ hi]; simp only [stp, pI, pR, hro, cond_true, cond_false, nb00, nb10, nb11, nb20, nb21, nb22]
theorem x_max (H : St c dd q ρ) {m : Nat} {x y : Int32} (hi : q.2.2.1[pc]? = some (some (.invokestatic m, (1001, (2, 1))))) (hro : (roomOk rest && dd) = true) : ρ pc L (.int y :: .int x :: rest) h = ρ (pc + 3) (msk q.2.2.2 (pc + 3) L) (.int (if x < y then y else x) :: rest) h := by
  rw [H pc L _ h _ _ hi]; simp only [stp, pI, pR, hro, cond_true, cond_false, nb00, nb10, nb11, nb20, nb21, nb22]
theorem x_min (H : St c dd q ρ) {m : Nat} {x y : Int32} (hi : q.2.2.1[pc]? = some (some (.invokestatic m, (1002, (2, 1))))) (hro : (roomOk rest && dd) = true) : ρ pc L (.int y :: .int x :: rest) h = ρ (pc + 3) (msk q.2.2.2 (pc + 3) L) (.int (if y < x then y else x) :: rest) h := by
  rw [H pc L _ h _ _ hi]; simp only [stp, pI, pR, hro, cond_true, cond_false, nb00, nb10, nb11, nb20, nb21, nb22]
theorem x_ireturn (H : St c dd q ρ) {x : Int32} (hi : q.2.2.1[pc]? = some (some (.ireturn, r))) (hr : q.1.2.2.2 = some .int) : ρ pc L ([.int x]) h = some (some (.int x), h) := by
  rw [H pc L _ h _ _ hi, hr]; rfl
theorem x_zreturn (H : St c dd q ρ) {x : Int32} (hi : q.2.2.1[pc]? = some (some (.ireturn, r))) (hr : q.1.2.2.2 = some .boolean) : ρ pc L ([.int x]) h = isZ x (some (some (.int x), h)) := by
  rw [H pc L _ h _ _ hi, hr]; rfl
theorem x_areturn (H : St c dd q ρ) {a : Nat} {C : String} (hi : q.2.2.1[pc]? = some (some (.areturn, r))) (hr : q.1.2.2.2 = some (.object C)) : ρ pc L ([.ref a]) h = some (some (.ref a), h) := by
  rw [H pc L _ h _ _ hi, hr]; rfl
theorem x_areturnN (H : St c dd q ρ) {C : String} (hi : q.2.2.1[pc]? = some (some (.areturn, r))) (hr : q.1.2.2.2 = some (.object C)) : ρ pc L ([.null]) h = some (some .null, h) := by
  rw [H pc L _ h _ _ hi, hr]; rfl
theorem x_return (H : St c dd q ρ) (hi : q.2.2.1[pc]? = some (some (.return_, r))) (hr : q.1.2.2.2 = none) : ρ pc L ([]) h = some (none, h) := by
  rw [H pc L _ h _ _ hi, hr]; rfl
end XL
end
section
/-! ===== node equations: what each method does from a node to the next ===== -/
theorem kb_120 : (Int8.ofInt 120).toInt32 = 120 := by decide +kernel
theorem kb_15 : (Int8.ofInt 15).toInt32 = 15 := by decide +kernel
theorem kb_30 : (Int8.ofInt 30).toInt32 = 30 := by decide +kernel
theorem kb_31 : (Int8.ofInt 31).toInt32 = 31 := by decide +kernel
theorem kb_36 : (Int8.ofInt 36).toInt32 = 36 := by decide +kernel
theorem kb_40 : (Int8.ofInt 40).toInt32 = 40 := by decide +kernel
theorem kb_54 : (Int8.ofInt 54).toInt32 = 54 := by decide +kernel
theorem kb_6 : (Int8.ofInt 6).toInt32 = 6 := by decide +kernel
theorem kb_60 : (Int8.ofInt 60).toInt32 = 60 := by decide +kernel
theorem kb_7 : (Int8.ofInt 7).toInt32 = 7 := by decide +kernel
theorem kb_8 : (Int8.ofInt 8).toInt32 = 8 := by decide +kernel
theorem kb_9 : (Int8.ofInt 9).toInt32 = 9 := by decide +kernel
theorem kb_m11 : (Int8.ofInt (-11)).toInt32 = (-11) := by decide +kernel
theorem kb_m12 : (Int8.ofInt (-12)).toInt32 = (-12) := by decide +kernel
theorem kb_m13 : (Int8.ofInt (-13)).toInt32 = (-13) := by decide +kernel
theorem kb_m14 : (Int8.ofInt (-14)).toInt32 = (-14) := by decide +kernel
theorem kb_m2 : (Int8.ofInt (-2)).toInt32 = (-2) := by decide +kernel
theorem kb_m20 : (Int8.ofInt (-20)).toInt32 = (-20) := by decide +kernel
theorem kb_m3 : (Int8.ofInt (-3)).toInt32 = (-3) := by decide +kernel
theorem kb_m4 : (Int8.ofInt (-4)).toInt32 = (-4) := by decide +kernel
theorem kb_m5 : (Int8.ofInt (-5)).toInt32 = (-5) := by decide +kernel
theorem ki_0 : Int32.ofInt 0 = 0 := by decide +kernel
theorem ki_1 : Int32.ofInt 1 = 1 := by decide +kernel
theorem ki_2 : Int32.ofInt 2 = 2 := by decide +kernel
theorem ki_3 : Int32.ofInt 3 = 3 := by decide +kernel
theorem ki_4 : Int32.ofInt 4 = 4 := by decide +kernel
theorem ki_5 : Int32.ofInt 5 = 5 := by decide +kernel
theorem ki_7 : Int32.ofInt 7 = 7 := by decide +kernel
theorem ki_m1 : Int32.ofInt (-1) = (-1) := by decide +kernel
theorem kl_0 : Int64.ofNat 0 = 0 := by decide +kernel
theorem kl_1 : Int64.ofNat 1 = 1 := by decide +kernel
theorem kl_2 : Int64.ofNat 2 = 2 := by decide +kernel
theorem kl_3 : Int64.ofNat 3 = 3 := by decide +kernel
theorem kl_30 : Int64.ofNat 30 = 30 := by decide +kernel
theorem kl_6 : Int64.ofNat 6 = 6 := by decide +kernel
theorem ks_1872 : (Int16.ofInt 1872).toInt32 = 1872 := by decide +kernel
theorem ks_22500 : (Int16.ofInt 22500).toInt32 = 22500 := by decide +kernel
theorem ks_240 : (Int16.ofInt 240).toInt32 = 240 := by decide +kernel
theorem ks_324 : (Int16.ofInt 324).toInt32 = 324 := by decide +kernel
theorem ks_4320 : (Int16.ofInt 4320).toInt32 = 4320 := by decide +kernel
theorem ks_450 : (Int16.ofInt 450).toInt32 = 450 := by decide +kernel
-- X0_init ()V: 0
theorem nd_0_0 {c : Ct} {dd : Bool} {ρ : Kt} (H : St c dd mt_0 ρ) (hd : dd = true) (h : AH) (a0 : Nat) : ρ 0 [some (.ref a0)] [] h = pfV (hN h (aI 0 54 fun _ => 0) 54) a0 0 0 (.ref h.2.1) fun h1 => pfV (hN h1 (aI 0 54 fun _ => 0) 54) a0 0 1 (.ref h1.2.1) fun h2 => pfV (hN h2 (aI 1 6 fun _ => 0) 6) a0 0 2 (.ref h2.2.1) fun h3 => pfV h3 a0 0 3 (.int 1) fun h4 => pfV h4 a0 0 4 (.int 0) fun h5 => isZ 0 (pfV h5 a0 0 5 (.int 0) fun h6 => pfV (hN h6 (aI 0 36 fun _ => 0) 36) a0 0 6 (.ref h6.2.1) fun h7 => isZ 0 (pfV h7 a0 0 7 (.int 0) fun h8 => isO h8 a0 0 ((c 1 [.ref a0, .int 1, .int 0] h8).bind fun q9 => rV q9 fun h10 => some (none, h10)))) :=
 T1 (x_aload_n H rfl rfl) rfl
 (T1 (x_oinit H rfl (by rw [hd]; rfl)) rfl
 (T1 (x_aload_n H rfl rfl) rfl
 (T1 (x_bipush H rfl kb_54) rfl
 (T1 (x_newi H rfl (by decide) (by decide)) rfl
 ((x_putR H rfl).trans (pfV_c fun h1 =>
 U1 rfl (T1 (x_aload_n H rfl rfl) rfl
 (T1 (x_bipush H rfl kb_54) rfl
 (T1 (x_newi H rfl (by decide) (by decide)) rfl
 ((x_putR H rfl).trans (pfV_c fun h2 =>
 U1 rfl (T1 (x_aload_n H rfl rfl) rfl
 (T1 (x_bipush H rfl kb_6) rfl
 (T1 (x_newz H rfl (by decide) (by decide)) rfl
 ((x_putR H rfl).trans (pfV_c fun h3 =>
 U1 rfl (T1 (x_aload_n H rfl rfl) rfl
 (T1 (x_iconst H rfl ki_1) rfl
 ((x_putI H rfl).trans (pfV_c fun h4 =>
 U1 rfl (T1 (x_aload_n H rfl rfl) rfl
 (T1 (x_iconst H rfl ki_0) rfl
 ((x_putI H rfl).trans (pfV_c fun h5 =>
 U1 rfl (T1 (x_aload_n H rfl rfl) rfl
 (T1 (x_iconst H rfl ki_0) rfl
 ((x_putZ H rfl).trans (isZ_c (pfV_c fun h6 =>
 U1 rfl (T1 (x_aload_n H rfl rfl) rfl
 (T1 (x_bipush H rfl kb_36) rfl
 (T1 (x_newi H rfl (by decide) (by decide)) rfl
 ((x_putR H rfl).trans (pfV_c fun h7 =>
 U1 rfl (T1 (x_aload_n H rfl rfl) rfl
 (T1 (x_iconst H rfl ki_0) rfl
 ((x_putZ H rfl).trans (isZ_c (pfV_c fun h8 =>
 U1 rfl (T1 (x_aload_n H rfl rfl) rfl
 (T1 (x_iconst H rfl ki_1) rfl
 (T1 (x_iconst H rfl ki_0) rfl
 ((x_callV H rfl [.int 1, .int 0] rfl rfl rfl rfl).trans (isO_c (bi_c fun q9 => rV_c fun h10 =>
 U1 rfl (x_return H rfl rfl))))))))))))))))))))))))))))))))))))))))))))))
-- X0_begin (II)V: 1
theorem nd_1_0 {c : Ct} {dd : Bool} {ρ : Kt} (H : St c dd mt_1 ρ) (h : AH) (a0 : Nat) (x1 : Int32) (x2 : Int32) : ρ 0 [some (.ref a0), some (.int x1), some (.int x2), none] [] h = pfV h a0 0 3 (.int x1) fun h1 => pfV h1 a0 0 4 (.int x2) fun h2 => isZ 0 (pfV h2 a0 0 5 (.int 0) fun h3 => isZ 0 (pfV h3 a0 0 7 (.int 0) fun h4 => ρ 22 [some (.ref a0), none, none, some (.int 0)] [] h4)) :=
 T1 (x_aload_n H rfl rfl) rfl
 (T1 (x_iload_n H rfl rfl) rfl
 ((x_putI H rfl).trans (pfV_c fun h1 =>
 U1 rfl (T1 (x_aload_n H rfl rfl) rfl
 (T1 (x_iload_n H rfl rfl) rfl
 ((x_putI H rfl).trans (pfV_c fun h2 =>
 U1 rfl (T1 (x_aload_n H rfl rfl) rfl
 (T1 (x_iconst H rfl ki_0) rfl
 ((x_putZ H rfl).trans (isZ_c (pfV_c fun h3 =>
 U1 rfl (T1 (x_aload_n H rfl rfl) rfl
 (T1 (x_iconst H rfl ki_0) rfl
 ((x_putZ H rfl).trans (isZ_c (pfV_c fun h4 =>
 U1 rfl (T1 (x_iconst H rfl ki_0) rfl
 (T2 [some (.ref a0), none, none, some (.int 0)] (x_istore_n H rfl rfl) rfl rfl)))))))))))))))))))
theorem nd_1_22 {c : Ct} {dd : Bool} {ρ : Kt} (H : St c dd mt_1 ρ) (h : AH) (a0 : Nat) (x3 : Int32) : ρ 22 [some (.ref a0), none, none, some (.int x3)] [] h = gfQ h a0 0 0 none fun b1 => lnA h b1 fun v2 => if v2 ≤ x3 then (ρ 57 [some (.ref a0), none, none, some (.int 0)] [] h) else (gfQ h a0 0 0 none fun b3 => stI h b3 x3 (x3 / 9) fun h4 => gfQ h4 a0 0 1 none fun b5 => stI h4 b5 x3 (-4) fun h6 => ρ 22 [some (.ref a0), none, none, some (.int (x3 + 1))] [] h6) :=
 T1 (x_iload_n H rfl rfl) rfl
 (T1 (x_aload_n H rfl rfl) rfl
 ((x_getR H rfl).trans (gfQ_c rfl fun b1 =>
 U1 rfl ((x_alen H rfl).trans (lnA_c fun v2 =>
 U1 rfl ((x_icmp_ge H rfl (t := 55) (by decide)).trans (if_c
 (U1 rfl (T1 (x_iconst H rfl ki_0) rfl
 (T2 [some (.ref a0), none, none, some (.int 0)] (x_istore_n H rfl rfl) rfl rfl)))
 (U1 rfl (T1 (x_aload_n H rfl rfl) rfl
 ((x_getR H rfl).trans (gfQ_c rfl fun b3 =>
 U1 rfl (T1 (x_iload_n H rfl rfl) rfl
 (T1 (x_iload_n H rfl rfl) rfl
 (T1 (x_bipush H rfl kb_9) rfl
 (T1 (x_idiv H rfl (by decide)) rfl
 ((x_iastore H rfl).trans (stI_c fun h4 =>
 U1 rfl (T1 (x_aload_n H rfl rfl) rfl
 ((x_getR H rfl).trans (gfQ_c rfl fun b5 =>
 U1 rfl (T1 (x_iload_n H rfl rfl) rfl
 (T1 (x_bipush H rfl kb_m4) rfl
 ((x_iastore H rfl).trans (stI_c fun h6 =>
 U1 rfl (T2 [some (.ref a0), none, none, some (.int (x3 + 1))] (x_iinc H rfl ki_1 rfl rfl) rfl
 (T2 [some (.ref a0), none, none, some (.int (x3 + 1))] (x_goto H rfl (t := 22) (by decide)) rfl rfl))))))))))))))))))))))))))
theorem nd_1_57 {c : Ct} {dd : Bool} {ρ : Kt} (H : St c dd mt_1 ρ) (h : AH) (a0 : Nat) (x3 : Int32) : ρ 57 [some (.ref a0), none, none, some (.int x3)] [] h = if 6 ≤ x3 then (some (none, h)) else (gfQ h a0 0 2 none fun b1 => stZ h b1 x3 0 fun h2 => ρ 57 [some (.ref a0), none, none, some (.int (x3 + 1))] [] h2) :=
 T1 (x_iload_n H rfl rfl) rfl
 (T1 (x_bipush H rfl kb_6) rfl
 ((x_icmp_ge H rfl (t := 76) (by decide)).trans (if_c
 (U1 rfl (x_return H rfl rfl))
 (U1 rfl (T1 (x_aload_n H rfl rfl) rfl
 ((x_getR H rfl).trans (gfQ_c rfl fun b1 =>
 U1 rfl (T1 (x_iload_n H rfl rfl) rfl
 (T1 (x_iconst H rfl ki_0) rfl
 ((x_bastore H rfl).trans (stZ_c fun h2 =>
 U1 rfl (T2 [some (.ref a0), none, none, some (.int (x3 + 1))] (x_iinc H rfl ki_1 rfl rfl) rfl
 (T2 [some (.ref a0), none, none, some (.int (x3 + 1))] (x_goto H rfl (t := 57) (by decide)) rfl rfl)))))))))))))
-- X0_turnFrom (LNameRows$Machine;)V: 2
theorem nd_2_0 {c : Ct} {dd : Bool} {ρ : Kt} (H : St c dd mt_2 ρ) (hd : dd = true) (h : AH) (a0 : Nat) (a1 : Nat) : ρ 0 [some (.ref a0), some (.ref a1), none] [] h = gfI h a1 0 3 fun v1 => gfI h a1 0 4 fun v2 => isO h a0 0 ((c 1 [.ref a0, .int v1, .int v2] h).bind fun q3 => rV q3 fun h4 => gfQ h4 a1 0 0 none fun b5 => gfQ h4 a0 0 0 none fun b6 => gfQ h4 a0 0 0 none fun b7 => lnA h4 b7 fun v8 => cpA h4 b5 0 b6 0 v8 fun h9 => gfQ h9 a1 0 1 none fun b10 => gfQ h9 a0 0 1 none fun b11 => gfQ h9 a0 0 1 none fun b12 => lnA h9 b12 fun v13 => cpA h9 b10 0 b11 0 v13 fun h14 => ρ 50 [some (.ref a0), some (.ref a1), some (.int 0)] [] h14) :=
 T1 (x_aload_n H rfl rfl) rfl
 (T1 (x_aload_n H rfl rfl) rfl
 ((x_getI H rfl).trans (gfI_c fun v1 =>
 U1 rfl (T1 (x_aload_n H rfl rfl) rfl
 ((x_getI H rfl).trans (gfI_c fun v2 =>
 U1 rfl ((x_callV H rfl [.int v1, .int v2] rfl rfl rfl rfl).trans (isO_c (bi_c fun q3 => rV_c fun h4 =>
 U1 rfl (T1 (x_aload_n H rfl rfl) rfl
 ((x_getR H rfl).trans (gfQ_c rfl fun b5 =>
 U1 rfl (T1 (x_iconst H rfl ki_0) rfl
 (T1 (x_aload_n H rfl rfl) rfl
 ((x_getR H rfl).trans (gfQ_c rfl fun b6 =>
 U1 rfl (T1 (x_iconst H rfl ki_0) rfl
 (T1 (x_aload_n H rfl rfl) rfl
 ((x_getR H rfl).trans (gfQ_c rfl fun b7 =>
 U1 rfl ((x_alen H rfl).trans (lnA_c fun v8 =>
 U1 rfl ((x_acopy H rfl (by rw [hd]; rfl)).trans (cpA_c fun h9 =>
 U1 rfl (T1 (x_aload_n H rfl rfl) rfl
 ((x_getR H rfl).trans (gfQ_c rfl fun b10 =>
 U1 rfl (T1 (x_iconst H rfl ki_0) rfl
 (T1 (x_aload_n H rfl rfl) rfl
 ((x_getR H rfl).trans (gfQ_c rfl fun b11 =>
 U1 rfl (T1 (x_iconst H rfl ki_0) rfl
 (T1 (x_aload_n H rfl rfl) rfl
 ((x_getR H rfl).trans (gfQ_c rfl fun b12 =>
 U1 rfl ((x_alen H rfl).trans (lnA_c fun v13 =>
 U1 rfl ((x_acopy H rfl (by rw [hd]; rfl)).trans (cpA_c fun h14 =>
 U1 rfl (T1 (x_iconst H rfl ki_0) rfl
 (T2 [some (.ref a0), some (.ref a1), some (.int 0)] (x_istore_n H rfl rfl) rfl rfl)))))))))))))))))))))))))))))))))))))))))
theorem nd_2_50 {c : Ct} {dd : Bool} {ρ : Kt} (H : St c dd mt_2 ρ) (h : AH) (a0 : Nat) (a1 : Nat) (x2 : Int32) : ρ 50 [some (.ref a0), some (.ref a1), some (.int x2)] [] h = gfI h a0 0 3 fun v1 => if v1 ≤ x2 then (some (none, h)) else (gfQ h a0 0 2 none fun b2 => gfQ h a1 0 2 none fun b3 => ldZ h b3 x2 fun v4 => if v4 = 0 then (ρ 77 [some (.ref a0), some (.ref a1), some (.int x2)] [.int 1, .int x2, .ref b2] h) else (ρ 77 [some (.ref a0), some (.ref a1), some (.int x2)] [.int 0, .int x2, .ref b2] h)) :=
 T1 (x_iload_n H rfl rfl) rfl
 (T1 (x_aload_n H rfl rfl) rfl
 ((x_getI H rfl).trans (gfI_c fun v1 =>
 U1 rfl ((x_icmp_ge H rfl (t := 84) (by decide)).trans (if_c
 (U1 rfl (x_return H rfl rfl))
 (U1 rfl (T1 (x_aload_n H rfl rfl) rfl
 ((x_getR H rfl).trans (gfQ_c rfl fun b2 =>
 U1 rfl (T1 (x_iload_n H rfl rfl) rfl
 (T1 (x_aload_n H rfl rfl) rfl
 ((x_getR H rfl).trans (gfQ_c rfl fun b3 =>
 U1 rfl (T1 (x_iload_n H rfl rfl) rfl
 ((x_baload H rfl).trans (ldZ_c fun v4 =>
 U1 rfl ((x_if_ne H rfl (t := 76) (by decide)).trans (if_c
 (U1 rfl (T1 (x_iconst H rfl ki_1) rfl
 (T2 [some (.ref a0), some (.ref a1), some (.int x2)] (x_goto H rfl (t := 77) (by decide)) rfl rfl)))
 (U1 rfl (T2 [some (.ref a0), some (.ref a1), some (.int x2)] (x_iconst H rfl ki_0) rfl rfl))))))))))))))))))))
theorem nd_2_77 {c : Ct} {dd : Bool} {ρ : Kt} (H : St c dd mt_2 ρ) (h : AH) (a0 : Nat) (a1 : Nat) (x2 : Int32) (s0_ : Int32) (s1_ : Int32) (c2_ : Nat) : ρ 77 [some (.ref a0), some (.ref a1), some (.int x2)] [.int s0_, .int s1_, .ref c2_] h = stZ h c2_ s1_ s0_ fun h1 => ρ 50 [some (.ref a0), some (.ref a1), some (.int (x2 + 1))] [] h1 :=
 (x_bastore H rfl).trans (stZ_c fun h1 =>
 U1 rfl (T2 [some (.ref a0), some (.ref a1), some (.int (x2 + 1))] (x_iinc H rfl ki_1 rfl rfl) rfl
 (T2 [some (.ref a0), some (.ref a1), some (.int (x2 + 1))] (x_goto H rfl (t := 50) (by decide)) rfl rfl)))
-- X0_hasState (I)Z: 3
theorem nd_3_0 {c : Ct} {dd : Bool} {ρ : Kt} (H : St c dd mt_3 ρ) (h : AH) (a0 : Nat) (x1 : Int32) : ρ 0 [some (.ref a0), some (.int x1)] [] h = if x1 < 0 then (ρ 16 [none, none] [] h) else (gfI h a0 0 3 fun v1 => if v1 ≤ x1 then (ρ 16 [none, none] [] h) else (ρ 17 [none, none] [.int 1] h)) :=
 T1 (x_iload_n H rfl rfl) rfl
 ((x_if_lt H rfl (t := 16) (by decide)).trans (if_c
 (U2 [none, none] rfl rfl)
 (U1 rfl (T1 (x_iload_n H rfl rfl) rfl
 (T1 (x_aload_n H rfl rfl) rfl
 ((x_getI H rfl).trans (gfI_c fun v1 =>
 U1 rfl ((x_icmp_ge H rfl (t := 16) (by decide)).trans (if_c
 (U2 [none, none] rfl rfl)
 (U1 rfl (T1 (x_iconst H rfl ki_1) rfl
 (T2 [none, none] (x_goto H rfl (t := 17) (by decide)) rfl rfl))))))))))))
theorem nd_3_16 {c : Ct} {dd : Bool} {ρ : Kt} (H : St c dd mt_3 ρ) (h : AH)  : ρ 16 [none, none] [] h = ρ 17 [none, none] [.int 0] h :=
 T2 [none, none] (x_iconst H rfl ki_0) rfl rfl
theorem nd_3_17 {c : Ct} {dd : Bool} {ρ : Kt} (H : St c dd mt_3 ρ) (h : AH) (s0_ : Int32) : ρ 17 [none, none] [.int s0_] h = isZ s0_ (some (some (.int s0_), h)) :=
 x_zreturn H rfl rfl
-- X0_stepAt (III)I: 4
theorem nd_4_0 {c : Ct} {dd : Bool} {ρ : Kt} (H : St c dd mt_4 ρ) (h : AH) (a0 : Nat) (x1 : Int32) (x2 : Int32) (x3 : Int32) : ρ 0 [some (.ref a0), some (.int x1), some (.int x2), some (.int x3), none, none] [] h = if x3 = 2 then (ρ 17 [some (.ref a0), some (.int x1), some (.int x2), some (.int x3), none, none] [] h) else (if x3 < 0 then (ρ 21 [some (.ref a0), some (.int x1), some (.int x2), some (.int x3), none, none] [] h) else (gfI h a0 0 4 fun v1 => if v1 ≤ x3 then (ρ 21 [some (.ref a0), some (.int x1), some (.int x2), some (.int x3), none, none] [] h) else (ρ 17 [some (.ref a0), some (.int x1), some (.int x2), some (.int x3), none, none] [] h))) :=
 T1 (x_iload_n H rfl rfl) rfl
 (T1 (x_iconst H rfl ki_2) rfl
 ((x_icmp_eq H rfl (t := 17) (by decide)).trans (if_c
 (U2 [some (.ref a0), some (.int x1), some (.int x2), some (.int x3), none, none] rfl rfl)
 (U1 rfl (T1 (x_iload_n H rfl rfl) rfl
 ((x_if_lt H rfl (t := 21) (by decide)).trans (if_c
 (U2 [some (.ref a0), some (.int x1), some (.int x2), some (.int x3), none, none] rfl rfl)
 (U1 rfl (T1 (x_iload_n H rfl rfl) rfl
 (T1 (x_aload_n H rfl rfl) rfl
 ((x_getI H rfl).trans (gfI_c fun v1 =>
 U1 rfl ((x_icmp_ge H rfl (t := 21) (by decide)).trans (if_c
 (U2 [some (.ref a0), some (.int x1), some (.int x2), some (.int x3), none, none] rfl rfl)
 (U2 [some (.ref a0), some (.int x1), some (.int x2), some (.int x3), none, none] rfl rfl)))))))))))))))
theorem nd_4_17 {c : Ct} {dd : Bool} {ρ : Kt} (H : St c dd mt_4 ρ) (h : AH) (a0 : Nat) (x1 : Int32) (x2 : Int32) (x3 : Int32) : ρ 17 [some (.ref a0), some (.int x1), some (.int x2), some (.int x3), none, none] [] h = ρ 22 [some (.ref a0), some (.int x1), some (.int x2), some (.int x3), none, none] [.int 1] h :=
 T1 (x_iconst H rfl ki_1) rfl
 (T2 [some (.ref a0), some (.int x1), some (.int x2), some (.int x3), none, none] (x_goto H rfl (t := 22) (by decide)) rfl rfl)
theorem nd_4_21 {c : Ct} {dd : Bool} {ρ : Kt} (H : St c dd mt_4 ρ) (h : AH) (a0 : Nat) (x1 : Int32) (x2 : Int32) (x3 : Int32) : ρ 21 [some (.ref a0), some (.int x1), some (.int x2), some (.int x3), none, none] [] h = ρ 22 [some (.ref a0), some (.int x1), some (.int x2), some (.int x3), none, none] [.int 0] h :=
 T2 [some (.ref a0), some (.int x1), some (.int x2), some (.int x3), none, none] (x_iconst H rfl ki_0) rfl rfl
theorem nd_4_22 {c : Ct} {dd : Bool} {ρ : Kt} (H : St c dd mt_4 ρ) (h : AH) (a0 : Nat) (x1 : Int32) (x2 : Int32) (x3 : Int32) (s0_ : Int32) : ρ 22 [some (.ref a0), some (.int x1), some (.int x2), some (.int x3), none, none] [.int s0_] h = if s0_ = 0 then (ρ 54 [none, some (.int x1), some (.int x2), some (.int x3), none, none] [] h) else (if x1 < 0 then (ρ 54 [none, some (.int x1), some (.int x2), some (.int x3), none, none] [] h) else (gfI h a0 0 3 fun v1 => if v1 ≤ x1 then (ρ 54 [none, some (.int x1), some (.int x2), some (.int x3), none, none] [] h) else (if x2 < 0 then (ρ 54 [none, some (.int x1), some (.int x2), some (.int x3), none, none] [] h) else (if 3 ≤ x2 then (ρ 54 [none, some (.int x1), some (.int x2), some (.int x3), none, none] [] h) else (ρ 55 [none, some (.int x1), some (.int x2), some (.int x3), none, none] [.int 1] h))))) :=
 T2 [some (.ref a0), some (.int x1), some (.int x2), some (.int x3), some (.int s0_), none] (x_istore H rfl rfl) rfl
 (T1 (x_iload H rfl rfl) rfl
 ((x_if_eq H rfl (t := 54) (by decide)).trans (if_c
 (U2 [none, some (.int x1), some (.int x2), some (.int x3), none, none] rfl rfl)
 (U1 rfl (T1 (x_iload_n H rfl rfl) rfl
 ((x_if_lt H rfl (t := 54) (by decide)).trans (if_c
 (U2 [none, some (.int x1), some (.int x2), some (.int x3), none, none] rfl rfl)
 (U1 rfl (T1 (x_iload_n H rfl rfl) rfl
 (T1 (x_aload_n H rfl rfl) rfl
 ((x_getI H rfl).trans (gfI_c fun v1 =>
 U1 rfl ((x_icmp_ge H rfl (t := 54) (by decide)).trans (if_c
 (U2 [none, some (.int x1), some (.int x2), some (.int x3), none, none] rfl rfl)
 (U1 rfl (T1 (x_iload_n H rfl rfl) rfl
 ((x_if_lt H rfl (t := 54) (by decide)).trans (if_c
 (U2 [none, some (.int x1), some (.int x2), some (.int x3), none, none] rfl rfl)
 (U1 rfl (T1 (x_iload_n H rfl rfl) rfl
 (T1 (x_iconst H rfl ki_3) rfl
 ((x_icmp_ge H rfl (t := 54) (by decide)).trans (if_c
 (U2 [none, some (.int x1), some (.int x2), some (.int x3), none, none] rfl rfl)
 (U1 rfl (T1 (x_iconst H rfl ki_1) rfl
 (T2 [none, some (.int x1), some (.int x2), some (.int x3), none, none] (x_goto H rfl (t := 55) (by decide)) rfl rfl))))))))))))))))))))))))))
theorem nd_4_54 {c : Ct} {dd : Bool} {ρ : Kt} (H : St c dd mt_4 ρ) (h : AH) (x1 : Int32) (x2 : Int32) (x3 : Int32) : ρ 54 [none, some (.int x1), some (.int x2), some (.int x3), none, none] [] h = ρ 55 [none, some (.int x1), some (.int x2), some (.int x3), none, none] [.int 0] h :=
 T2 [none, some (.int x1), some (.int x2), some (.int x3), none, none] (x_iconst H rfl ki_0) rfl rfl
theorem nd_4_55 {c : Ct} {dd : Bool} {ρ : Kt} (H : St c dd mt_4 ρ) (h : AH) (x1 : Int32) (x2 : Int32) (x3 : Int32) (s0_ : Int32) : ρ 55 [none, some (.int x1), some (.int x2), some (.int x3), none, none] [.int s0_] h = if s0_ = 0 then (ρ 76 [none, none, none, none, none, none] [.int (-4)] h) else (ρ 76 [none, none, none, none, none, none] [.int ((((x1 * 3) + x2) * 3) + x3)] h) :=
 T2 [none, some (.int x1), some (.int x2), some (.int x3), none, some (.int s0_)] (x_istore H rfl rfl) rfl
 (T1 (x_iload H rfl rfl) rfl
 ((x_if_eq H rfl (t := 74) (by decide)).trans (if_c
 (U1 rfl (T2 [none, none, none, none, none, none] (x_bipush H rfl kb_m4) rfl rfl))
 (U1 rfl (T1 (x_iload_n H rfl rfl) rfl
 (T1 (x_iconst H rfl ki_3) rfl
 (T1 (x_imul H rfl) rfl
 (T1 (x_iload_n H rfl rfl) rfl
 (T1 (x_iadd H rfl) rfl
 (T1 (x_iconst H rfl ki_3) rfl
 (T1 (x_imul H rfl) rfl
 (T1 (x_iload_n H rfl rfl) rfl
 (T1 (x_iadd H rfl) rfl
 (T2 [none, none, none, none, none, none] (x_goto H rfl (t := 76) (by decide)) rfl rfl))))))))))))))
theorem nd_4_76 {c : Ct} {dd : Bool} {ρ : Kt} (H : St c dd mt_4 ρ) (h : AH) (s0_ : Int32) : ρ 76 [none, none, none, none, none, none] [.int s0_] h = some (some (.int s0_), h) :=
 x_ireturn H rfl rfl
-- X0_canKeep (I)Z: 5
theorem nd_5_0 {c : Ct} {dd : Bool} {ρ : Kt} (H : St c dd mt_5 ρ) (h : AH) (a0 : Nat) (x1 : Int32) : ρ 0 [some (.ref a0), some (.int x1)] [] h = if x1 = (-4) then (ρ 18 [none, none] [] h) else (if x1 < 0 then (ρ 22 [none, none] [] h) else (gfI h a0 0 4 fun v1 => if v1 ≤ x1 then (ρ 22 [none, none] [] h) else (ρ 18 [none, none] [] h))) :=
 T1 (x_iload_n H rfl rfl) rfl
 (T1 (x_bipush H rfl kb_m4) rfl
 ((x_icmp_eq H rfl (t := 18) (by decide)).trans (if_c
 (U2 [none, none] rfl rfl)
 (U1 rfl (T1 (x_iload_n H rfl rfl) rfl
 ((x_if_lt H rfl (t := 22) (by decide)).trans (if_c
 (U2 [none, none] rfl rfl)
 (U1 rfl (T1 (x_iload_n H rfl rfl) rfl
 (T1 (x_aload_n H rfl rfl) rfl
 ((x_getI H rfl).trans (gfI_c fun v1 =>
 U1 rfl ((x_icmp_ge H rfl (t := 22) (by decide)).trans (if_c
 (U2 [none, none] rfl rfl)
 (U2 [none, none] rfl rfl)))))))))))))))
theorem nd_5_18 {c : Ct} {dd : Bool} {ρ : Kt} (H : St c dd mt_5 ρ) (h : AH)  : ρ 18 [none, none] [] h = ρ 23 [none, none] [.int 1] h :=
 T1 (x_iconst H rfl ki_1) rfl
 (T2 [none, none] (x_goto H rfl (t := 23) (by decide)) rfl rfl)
theorem nd_5_22 {c : Ct} {dd : Bool} {ρ : Kt} (H : St c dd mt_5 ρ) (h : AH)  : ρ 22 [none, none] [] h = ρ 23 [none, none] [.int 0] h :=
 T2 [none, none] (x_iconst H rfl ki_0) rfl rfl
theorem nd_5_23 {c : Ct} {dd : Bool} {ρ : Kt} (H : St c dd mt_5 ρ) (h : AH) (s0_ : Int32) : ρ 23 [none, none] [.int s0_] h = isZ s0_ (some (some (.int s0_), h)) :=
 x_zreturn H rfl rfl
-- X0_setStep (III)V: 6
theorem nd_6_0 {c : Ct} {dd : Bool} {ρ : Kt} (H : St c dd mt_6 ρ) (h : AH) (a0 : Nat) (x1 : Int32) (x2 : Int32) (x3 : Int32) : ρ 0 [some (.ref a0), some (.int x1), some (.int x2), some (.int x3)] [] h = if x1 < 0 then (ρ 32 [none, none, none, none] [] h) else (gfQ h a0 0 0 none fun b1 => lnA h b1 fun v2 => if v2 ≤ x1 then (ρ 32 [none, none, none, none] [] h) else (gfQ h a0 0 0 none fun b3 => stI h b3 x1 x2 fun h4 => gfQ h4 a0 0 1 none fun b5 => stI h4 b5 x1 x3 fun h6 => isZ 0 (pfV h6 a0 0 7 (.int 0) fun h7 => ρ 32 [none, none, none, none] [] h7))) :=
 T1 (x_iload_n H rfl rfl) rfl
 ((x_if_lt H rfl (t := 32) (by decide)).trans (if_c
 (U2 [none, none, none, none] rfl rfl)
 (U1 rfl (T1 (x_iload_n H rfl rfl) rfl
 (T1 (x_aload_n H rfl rfl) rfl
 ((x_getR H rfl).trans (gfQ_c rfl fun b1 =>
 U1 rfl ((x_alen H rfl).trans (lnA_c fun v2 =>
 U1 rfl ((x_icmp_ge H rfl (t := 32) (by decide)).trans (if_c
 (U2 [none, none, none, none] rfl rfl)
 (U1 rfl (T1 (x_aload_n H rfl rfl) rfl
 ((x_getR H rfl).trans (gfQ_c rfl fun b3 =>
 U1 rfl (T1 (x_iload_n H rfl rfl) rfl
 (T1 (x_iload_n H rfl rfl) rfl
 ((x_iastore H rfl).trans (stI_c fun h4 =>
 U1 rfl (T1 (x_aload_n H rfl rfl) rfl
 ((x_getR H rfl).trans (gfQ_c rfl fun b5 =>
 U1 rfl (T1 (x_iload_n H rfl rfl) rfl
 (T1 (x_iload_n H rfl rfl) rfl
 ((x_iastore H rfl).trans (stI_c fun h6 =>
 U1 rfl (T1 (x_aload_n H rfl rfl) rfl
 (T1 (x_iconst H rfl ki_0) rfl
 ((x_putZ H rfl).trans (isZ_c (pfV_c fun h7 =>
 U2 [none, none, none, none] rfl rfl)))))))))))))))))))))))))))))))
theorem nd_6_32 {c : Ct} {dd : Bool} {ρ : Kt} (H : St c dd mt_6 ρ) (h : AH)  : ρ 32 [none, none, none, none] [] h = some (none, h) :=
 x_return H rfl rfl
-- X0_isGood (I)Z: 7
theorem nd_7_0 {c : Ct} {dd : Bool} {ρ : Kt} (H : St c dd mt_7 ρ) (h : AH) (a0 : Nat) (x1 : Int32) : ρ 0 [some (.ref a0), some (.int x1)] [] h = isO h a0 0 ((c 3 [.ref a0, .int x1] h).bind fun q1 => rI q1 fun v3 h2 => if v3 = 0 then (ρ 21 [none, none] [] h2) else (gfQ h2 a0 0 2 none fun b4 => ldZ h2 b4 x1 fun v5 => if v5 = 0 then (ρ 21 [none, none] [] h2) else (ρ 22 [none, none] [.int 1] h2))) :=
 T1 (x_aload_n H rfl rfl) rfl
 (T1 (x_iload_n H rfl rfl) rfl
 ((x_callZ H rfl [.int x1] rfl rfl rfl rfl).trans (isO_c (bi_c fun q1 => rI_c fun v3 h2 =>
 U1 rfl ((x_if_eq H rfl (t := 21) (by decide)).trans (if_c
 (U2 [none, none] rfl rfl)
 (U1 rfl (T1 (x_aload_n H rfl rfl) rfl
 ((x_getR H rfl).trans (gfQ_c rfl fun b4 =>
 U1 rfl (T1 (x_iload_n H rfl rfl) rfl
 ((x_baload H rfl).trans (ldZ_c fun v5 =>
 U1 rfl ((x_if_eq H rfl (t := 21) (by decide)).trans (if_c
 (U2 [none, none] rfl rfl)
 (U1 rfl (T1 (x_iconst H rfl ki_1) rfl
 (T2 [none, none] (x_goto H rfl (t := 22) (by decide)) rfl rfl))))))))))))))))))
theorem nd_7_21 {c : Ct} {dd : Bool} {ρ : Kt} (H : St c dd mt_7 ρ) (h : AH)  : ρ 21 [none, none] [] h = ρ 22 [none, none] [.int 0] h :=
 T2 [none, none] (x_iconst H rfl ki_0) rfl rfl
theorem nd_7_22 {c : Ct} {dd : Bool} {ρ : Kt} (H : St c dd mt_7 ρ) (h : AH) (s0_ : Int32) : ρ 22 [none, none] [.int s0_] h = isZ s0_ (some (some (.int s0_), h)) :=
 x_zreturn H rfl rfl
-- X0_setGood (IZ)V: 8
theorem nd_8_0 {c : Ct} {dd : Bool} {ρ : Kt} (H : St c dd mt_8 ρ) (h : AH) (a0 : Nat) (x1 : Int32) (x2 : Int32) : ρ 0 [some (.ref a0), some (.int x1), some (.int x2)] [] h = isO h a0 0 ((c 3 [.ref a0, .int x1] h).bind fun q1 => rI q1 fun v3 h2 => if v3 = 0 then (ρ 20 [none, none, none] [] h2) else (gfQ h2 a0 0 2 none fun b4 => stZ h2 b4 x1 x2 fun h5 => isZ 0 (pfV h5 a0 0 7 (.int 0) fun h6 => ρ 20 [none, none, none] [] h6))) :=
 T1 (x_aload_n H rfl rfl) rfl
 (T1 (x_iload_n H rfl rfl) rfl
 ((x_callZ H rfl [.int x1] rfl rfl rfl rfl).trans (isO_c (bi_c fun q1 => rI_c fun v3 h2 =>
 U1 rfl ((x_if_eq H rfl (t := 20) (by decide)).trans (if_c
 (U2 [none, none, none] rfl rfl)
 (U1 rfl (T1 (x_aload_n H rfl rfl) rfl
 ((x_getR H rfl).trans (gfQ_c rfl fun b4 =>
 U1 rfl (T1 (x_iload_n H rfl rfl) rfl
 (T1 (x_iload_n H rfl rfl) rfl
 ((x_bastore H rfl).trans (stZ_c fun h5 =>
 U1 rfl (T1 (x_aload_n H rfl rfl) rfl
 (T1 (x_iconst H rfl ki_0) rfl
 ((x_putZ H rfl).trans (isZ_c (pfV_c fun h6 =>
 U2 [none, none, none] rfl rfl)))))))))))))))))))
theorem nd_8_20 {c : Ct} {dd : Bool} {ρ : Kt} (H : St c dd mt_8 ρ) (h : AH)  : ρ 20 [none, none, none] [] h = some (none, h) :=
 x_return H rfl rfl
-- X0_goodStates ()I: 9
theorem nd_9_0 {c : Ct} {dd : Bool} {ρ : Kt} (H : St c dd mt_9 ρ) (h : AH) (a0 : Nat) : ρ 0 [some (.ref a0), none, none] [] h = ρ 4 [some (.ref a0), some (.int 0), some (.int 0)] [] h :=
 T1 (x_iconst H rfl ki_0) rfl
 (T2 [some (.ref a0), some (.int 0), none] (x_istore_n H rfl rfl) rfl
 (T1 (x_iconst H rfl ki_0) rfl
 (T2 [some (.ref a0), some (.int 0), some (.int 0)] (x_istore_n H rfl rfl) rfl rfl)))
theorem nd_9_4 {c : Ct} {dd : Bool} {ρ : Kt} (H : St c dd mt_9 ρ) (h : AH) (a0 : Nat) (x1 : Int32) (x2 : Int32) : ρ 4 [some (.ref a0), some (.int x1), some (.int x2)] [] h = gfI h a0 0 3 fun v1 => if v1 ≤ x2 then (some (some (.int x1), h)) else (gfQ h a0 0 2 none fun b2 => ldZ h b2 x2 fun v3 => if v3 = 0 then (ρ 24 [some (.ref a0), some (.int x1), some (.int x2)] [] h) else (ρ 24 [some (.ref a0), some (.int (x1 + 1)), some (.int x2)] [] h)) :=
 T1 (x_iload_n H rfl rfl) rfl
 (T1 (x_aload_n H rfl rfl) rfl
 ((x_getI H rfl).trans (gfI_c fun v1 =>
 U1 rfl ((x_icmp_ge H rfl (t := 30) (by decide)).trans (if_c
 (U1 rfl (T1 (x_iload_n H rfl rfl) rfl
 (x_ireturn H rfl rfl)))
 (U1 rfl (T1 (x_aload_n H rfl rfl) rfl
 ((x_getR H rfl).trans (gfQ_c rfl fun b2 =>
 U1 rfl (T1 (x_iload_n H rfl rfl) rfl
 ((x_baload H rfl).trans (ldZ_c fun v3 =>
 U1 rfl ((x_if_eq H rfl (t := 24) (by decide)).trans (if_c
 (U2 [some (.ref a0), some (.int x1), some (.int x2)] rfl rfl)
 (U1 rfl (T2 [some (.ref a0), some (.int (x1 + 1)), some (.int x2)] (x_iinc H rfl ki_1 rfl rfl) rfl rfl))))))))))))))))
theorem nd_9_24 {c : Ct} {dd : Bool} {ρ : Kt} (H : St c dd mt_9 ρ) (h : AH) (a0 : Nat) (x1 : Int32) (x2 : Int32) : ρ 24 [some (.ref a0), some (.int x1), some (.int x2)] [] h = ρ 4 [some (.ref a0), some (.int x1), some (.int (x2 + 1))] [] h :=
 T2 [some (.ref a0), some (.int x1), some (.int (x2 + 1))] (x_iinc H rfl ki_1 rfl rfl) rfl
 (T2 [some (.ref a0), some (.int x1), some (.int (x2 + 1))] (x_goto H rfl (t := 4) (by decide)) rfl rfl)
-- X0_forgetOrbits ()V: 10
theorem nd_10_0 {c : Ct} {dd : Bool} {ρ : Kt} (H : St c dd mt_10 ρ) (h : AH) (a0 : Nat) : ρ 0 [some (.ref a0), none] [] h = ρ 2 [some (.ref a0), some (.int 0)] [] h :=
 T1 (x_iconst H rfl ki_0) rfl
 (T2 [some (.ref a0), some (.int 0)] (x_istore_n H rfl rfl) rfl rfl)
theorem nd_10_2 {c : Ct} {dd : Bool} {ρ : Kt} (H : St c dd mt_10 ρ) (h : AH) (a0 : Nat) (x1 : Int32) : ρ 2 [some (.ref a0), some (.int x1)] [] h = gfQ h a0 0 6 none fun b1 => lnA h b1 fun v2 => if v2 ≤ x1 then (some (none, h)) else (gfQ h a0 0 6 none fun b3 => stI h b3 x1 0 fun h4 => ρ 2 [some (.ref a0), some (.int (x1 + 1))] [] h4) :=
 T1 (x_iload_n H rfl rfl) rfl
 (T1 (x_aload_n H rfl rfl) rfl
 ((x_getR H rfl).trans (gfQ_c rfl fun b1 =>
 U1 rfl ((x_alen H rfl).trans (lnA_c fun v2 =>
 U1 rfl ((x_icmp_ge H rfl (t := 24) (by decide)).trans (if_c
 (U1 rfl (x_return H rfl rfl))
 (U1 rfl (T1 (x_aload_n H rfl rfl) rfl
 ((x_getR H rfl).trans (gfQ_c rfl fun b3 =>
 U1 rfl (T1 (x_iload_n H rfl rfl) rfl
 (T1 (x_iconst H rfl ki_0) rfl
 ((x_iastore H rfl).trans (stI_c fun h4 =>
 U1 rfl (T2 [some (.ref a0), some (.int (x1 + 1))] (x_iinc H rfl ki_1 rfl rfl) rfl
 (T2 [some (.ref a0), some (.int (x1 + 1))] (x_goto H rfl (t := 2) (by decide)) rfl rfl)))))))))))))))))
-- X0_setFate (III)V: 11
theorem nd_11_0 {c : Ct} {dd : Bool} {ρ : Kt} (H : St c dd mt_11 ρ) (h : AH) (a0 : Nat) (x1 : Int32) (x2 : Int32) (x3 : Int32) : ρ 0 [some (.ref a0), some (.int x1), some (.int x2), some (.int x3)] [] h = isO h a0 0 ((c 3 [.ref a0, .int x1] h).bind fun q1 => rI q1 fun v3 h2 => if v3 = 0 then (ρ 30 [none, none, none, none] [] h2) else (if x2 < 0 then (ρ 30 [none, none, none, none] [] h2) else (if 6 ≤ x2 then (ρ 30 [none, none, none, none] [] h2) else (gfQ h2 a0 0 6 none fun b4 => stI h2 b4 ((x1 * 6) + x2) x3 fun h5 => ρ 30 [none, none, none, none] [] h5)))) :=
 T1 (x_aload_n H rfl rfl) rfl
 (T1 (x_iload_n H rfl rfl) rfl
 ((x_callZ H rfl [.int x1] rfl rfl rfl rfl).trans (isO_c (bi_c fun q1 => rI_c fun v3 h2 =>
 U1 rfl ((x_if_eq H rfl (t := 30) (by decide)).trans (if_c
 (U2 [none, none, none, none] rfl rfl)
 (U1 rfl (T1 (x_iload_n H rfl rfl) rfl
 ((x_if_lt H rfl (t := 30) (by decide)).trans (if_c
 (U2 [none, none, none, none] rfl rfl)
 (U1 rfl (T1 (x_iload_n H rfl rfl) rfl
 (T1 (x_bipush H rfl kb_6) rfl
 ((x_icmp_ge H rfl (t := 30) (by decide)).trans (if_c
 (U2 [none, none, none, none] rfl rfl)
 (U1 rfl (T1 (x_aload_n H rfl rfl) rfl
 ((x_getR H rfl).trans (gfQ_c rfl fun b4 =>
 U1 rfl (T1 (x_iload_n H rfl rfl) rfl
 (T1 (x_bipush H rfl kb_6) rfl
 (T1 (x_imul H rfl) rfl
 (T1 (x_iload_n H rfl rfl) rfl
 (T1 (x_iadd H rfl) rfl
 (T1 (x_iload_n H rfl rfl) rfl
 ((x_iastore H rfl).trans (stI_c fun h5 =>
 U2 [none, none, none, none] rfl rfl)))))))))))))))))))))))))))
theorem nd_11_30 {c : Ct} {dd : Bool} {ρ : Kt} (H : St c dd mt_11 ρ) (h : AH)  : ρ 30 [none, none, none, none] [] h = some (none, h) :=
 x_return H rfl rfl
-- X0_fateOf (II)I: 12
theorem nd_12_0 {c : Ct} {dd : Bool} {ρ : Kt} (H : St c dd mt_12 ρ) (h : AH) (a0 : Nat) (x1 : Int32) (x2 : Int32) : ρ 0 [some (.ref a0), some (.int x1), some (.int x2)] [] h = isO h a0 0 ((c 3 [.ref a0, .int x1] h).bind fun q1 => rI q1 fun v3 h2 => if v3 = 0 then (ρ 32 [none, none, none] [] h2) else (if x2 < 0 then (ρ 32 [none, none, none] [] h2) else (if 6 ≤ x2 then (ρ 32 [none, none, none] [] h2) else (gfQ h2 a0 0 6 none fun b4 => ldI h2 b4 ((x1 * 6) + x2) fun v5 => ρ 33 [none, none, none] [.int v5] h2)))) :=
 T1 (x_aload_n H rfl rfl) rfl
 (T1 (x_iload_n H rfl rfl) rfl
 ((x_callZ H rfl [.int x1] rfl rfl rfl rfl).trans (isO_c (bi_c fun q1 => rI_c fun v3 h2 =>
 U1 rfl ((x_if_eq H rfl (t := 32) (by decide)).trans (if_c
 (U2 [none, none, none] rfl rfl)
 (U1 rfl (T1 (x_iload_n H rfl rfl) rfl
 ((x_if_lt H rfl (t := 32) (by decide)).trans (if_c
 (U2 [none, none, none] rfl rfl)
 (U1 rfl (T1 (x_iload_n H rfl rfl) rfl
 (T1 (x_bipush H rfl kb_6) rfl
 ((x_icmp_ge H rfl (t := 32) (by decide)).trans (if_c
 (U2 [none, none, none] rfl rfl)
 (U1 rfl (T1 (x_aload_n H rfl rfl) rfl
 ((x_getR H rfl).trans (gfQ_c rfl fun b4 =>
 U1 rfl (T1 (x_iload_n H rfl rfl) rfl
 (T1 (x_bipush H rfl kb_6) rfl
 (T1 (x_imul H rfl) rfl
 (T1 (x_iload_n H rfl rfl) rfl
 (T1 (x_iadd H rfl) rfl
 ((x_iaload H rfl).trans (ldI_c fun v5 =>
 U1 rfl (T2 [none, none, none] (x_goto H rfl (t := 33) (by decide)) rfl rfl)))))))))))))))))))))))))))
theorem nd_12_32 {c : Ct} {dd : Bool} {ρ : Kt} (H : St c dd mt_12 ρ) (h : AH)  : ρ 32 [none, none, none] [] h = ρ 33 [none, none, none] [.int 0] h :=
 T2 [none, none, none] (x_iconst H rfl ki_0) rfl rfl
theorem nd_12_33 {c : Ct} {dd : Bool} {ρ : Kt} (H : St c dd mt_12 ρ) (h : AH) (s0_ : Int32) : ρ 33 [none, none, none] [.int s0_] h = some (some (.int s0_), h) :=
 x_ireturn H rfl rfl
-- X0_orbitsOf (I)I: 13
theorem nd_13_0 {c : Ct} {dd : Bool} {ρ : Kt} (H : St c dd mt_13 ρ) (h : AH) (a0 : Nat) (x1 : Int32) : ρ 0 [some (.ref a0), some (.int x1), none, none] [] h = ρ 4 [some (.ref a0), some (.int x1), some (.int 0), some (.int 0)] [] h :=
 T1 (x_iconst H rfl ki_0) rfl
 (T2 [some (.ref a0), some (.int x1), some (.int 0), none] (x_istore_n H rfl rfl) rfl
 (T1 (x_iconst H rfl ki_0) rfl
 (T2 [some (.ref a0), some (.int x1), some (.int 0), some (.int 0)] (x_istore_n H rfl rfl) rfl rfl)))
theorem nd_13_4 {c : Ct} {dd : Bool} {ρ : Kt} (H : St c dd mt_13 ρ) (h : AH) (a0 : Nat) (x1 : Int32) (x2 : Int32) (x3 : Int32) : ρ 4 [some (.ref a0), some (.int x1), some (.int x2), some (.int x3)] [] h = gfQ h a0 0 6 none fun b1 => lnA h b1 fun v2 => if v2 ≤ x3 then (some (some (.int x2), h)) else (gfQ h a0 0 6 none fun b3 => ldI h b3 x3 fun v4 => if v4 = x1 then (ρ 26 [some (.ref a0), some (.int x1), some (.int (x2 + 1)), some (.int x3)] [] h) else (ρ 26 [some (.ref a0), some (.int x1), some (.int x2), some (.int x3)] [] h)) :=
 T1 (x_iload_n H rfl rfl) rfl
 (T1 (x_aload_n H rfl rfl) rfl
 ((x_getR H rfl).trans (gfQ_c rfl fun b1 =>
 U1 rfl ((x_alen H rfl).trans (lnA_c fun v2 =>
 U1 rfl ((x_icmp_ge H rfl (t := 32) (by decide)).trans (if_c
 (U1 rfl (T1 (x_iload_n H rfl rfl) rfl
 (x_ireturn H rfl rfl)))
 (U1 rfl (T1 (x_aload_n H rfl rfl) rfl
 ((x_getR H rfl).trans (gfQ_c rfl fun b3 =>
 U1 rfl (T1 (x_iload_n H rfl rfl) rfl
 ((x_iaload H rfl).trans (ldI_c fun v4 =>
 U1 rfl (T1 (x_iload_n H rfl rfl) rfl
 ((x_icmp_ne H rfl (t := 26) (by decide)).trans (if_c
 (U1 rfl (T2 [some (.ref a0), some (.int x1), some (.int (x2 + 1)), some (.int x3)] (x_iinc H rfl ki_1 rfl rfl) rfl rfl))
 (U2 [some (.ref a0), some (.int x1), some (.int x2), some (.int x3)] rfl rfl))))))))))))))))))
theorem nd_13_26 {c : Ct} {dd : Bool} {ρ : Kt} (H : St c dd mt_13 ρ) (h : AH) (a0 : Nat) (x1 : Int32) (x2 : Int32) (x3 : Int32) : ρ 26 [some (.ref a0), some (.int x1), some (.int x2), some (.int x3)] [] h = ρ 4 [some (.ref a0), some (.int x1), some (.int x2), some (.int (x3 + 1))] [] h :=
 T2 [some (.ref a0), some (.int x1), some (.int x2), some (.int (x3 + 1))] (x_iinc H rfl ki_1 rfl rfl) rfl
 (T2 [some (.ref a0), some (.int x1), some (.int x2), some (.int (x3 + 1))] (x_goto H rfl (t := 4) (by decide)) rfl rfl)
-- X0_statesMet ()I: 14
theorem nd_14_0 {c : Ct} {dd : Bool} {ρ : Kt} (H : St c dd mt_14 ρ) (h : AH) (a0 : Nat) : ρ 0 [some (.ref a0), none, none] [] h = ρ 4 [some (.ref a0), some (.int 0), some (.int 0)] [] h :=
 T1 (x_iconst H rfl ki_0) rfl
 (T2 [some (.ref a0), some (.int 0), none] (x_istore_n H rfl rfl) rfl
 (T1 (x_iconst H rfl ki_0) rfl
 (T2 [some (.ref a0), some (.int 0), some (.int 0)] (x_istore_n H rfl rfl) rfl rfl)))
theorem nd_14_4 {c : Ct} {dd : Bool} {ρ : Kt} (H : St c dd mt_14 ρ) (h : AH) (a0 : Nat) (x1 : Int32) (x2 : Int32) : ρ 4 [some (.ref a0), some (.int x1), some (.int x2)] [] h = gfI h a0 0 3 fun v1 => if v1 ≤ x2 then (some (some (.int x1), h)) else (isO h a0 0 ((c 15 [.ref a0, .int x2] h).bind fun q2 => rI q2 fun v4 h3 => if v4 = 0 then (ρ 23 [some (.ref a0), some (.int x1), some (.int x2)] [] h3) else (ρ 23 [some (.ref a0), some (.int (x1 + 1)), some (.int x2)] [] h3))) :=
 T1 (x_iload_n H rfl rfl) rfl
 (T1 (x_aload_n H rfl rfl) rfl
 ((x_getI H rfl).trans (gfI_c fun v1 =>
 U1 rfl ((x_icmp_ge H rfl (t := 29) (by decide)).trans (if_c
 (U1 rfl (T1 (x_iload_n H rfl rfl) rfl
 (x_ireturn H rfl rfl)))
 (U1 rfl (T1 (x_aload_n H rfl rfl) rfl
 (T1 (x_iload_n H rfl rfl) rfl
 ((x_callZ H rfl [.int x2] rfl rfl rfl rfl).trans (isO_c (bi_c fun q2 => rI_c fun v4 h3 =>
 U1 rfl ((x_if_eq H rfl (t := 23) (by decide)).trans (if_c
 (U2 [some (.ref a0), some (.int x1), some (.int x2)] rfl rfl)
 (U1 rfl (T2 [some (.ref a0), some (.int (x1 + 1)), some (.int x2)] (x_iinc H rfl ki_1 rfl rfl) rfl rfl)))))))))))))))
theorem nd_14_23 {c : Ct} {dd : Bool} {ρ : Kt} (H : St c dd mt_14 ρ) (h : AH) (a0 : Nat) (x1 : Int32) (x2 : Int32) : ρ 23 [some (.ref a0), some (.int x1), some (.int x2)] [] h = ρ 4 [some (.ref a0), some (.int x1), some (.int (x2 + 1))] [] h :=
 T2 [some (.ref a0), some (.int x1), some (.int (x2 + 1))] (x_iinc H rfl ki_1 rfl rfl) rfl
 (T2 [some (.ref a0), some (.int x1), some (.int (x2 + 1))] (x_goto H rfl (t := 4) (by decide)) rfl rfl)
-- X0_isMet (I)Z: 15
theorem nd_15_0 {c : Ct} {dd : Bool} {ρ : Kt} (H : St c dd mt_15 ρ) (h : AH) (a0 : Nat) (x1 : Int32) : ρ 0 [some (.ref a0), some (.int x1), none] [] h = ρ 2 [some (.ref a0), some (.int x1), some (.int 0)] [] h :=
 T1 (x_iconst H rfl ki_0) rfl
 (T2 [some (.ref a0), some (.int x1), some (.int 0)] (x_istore_n H rfl rfl) rfl rfl)
theorem nd_15_2 {c : Ct} {dd : Bool} {ρ : Kt} (H : St c dd mt_15 ρ) (h : AH) (a0 : Nat) (x1 : Int32) (x2 : Int32) : ρ 2 [some (.ref a0), some (.int x1), some (.int x2)] [] h = if 6 ≤ x2 then (isZ 0 (some (some (.int 0), h))) else (isO h a0 0 ((c 12 [.ref a0, .int x1, .int x2] h).bind fun q1 => rI q1 fun v3 h2 => if v3 = 0 then (ρ 2 [some (.ref a0), some (.int x1), some (.int (x2 + 1))] [] h2) else (isZ 1 (some (some (.int 1), h2))))) :=
 T1 (x_iload_n H rfl rfl) rfl
 (T1 (x_bipush H rfl kb_6) rfl
 ((x_icmp_ge H rfl (t := 25) (by decide)).trans (if_c
 (U1 rfl (T1 (x_iconst H rfl ki_0) rfl
 (x_zreturn H rfl rfl)))
 (U1 rfl (T1 (x_aload_n H rfl rfl) rfl
 (T1 (x_iload_n H rfl rfl) rfl
 (T1 (x_iload_n H rfl rfl) rfl
 ((x_callI H rfl [.int x1, .int x2] rfl rfl rfl rfl).trans (isO_c (bi_c fun q1 => rI_c fun v3 h2 =>
 U1 rfl ((x_if_eq H rfl (t := 19) (by decide)).trans (if_c
 (U1 rfl (T2 [some (.ref a0), some (.int x1), some (.int (x2 + 1))] (x_iinc H rfl ki_1 rfl rfl) rfl
 (T2 [some (.ref a0), some (.int x1), some (.int (x2 + 1))] (x_goto H rfl (t := 2) (by decide)) rfl rfl)))
 (U1 rfl (T1 (x_iconst H rfl ki_1) rfl
 (x_zreturn H rfl rfl)))))))))))))))
-- X1_init ()V: 16
theorem nd_16_0 {c : Ct} {dd : Bool} {ρ : Kt} (H : St c dd mt_16 ρ) (hd : dd = true) (h : AH) (a0 : Nat) : ρ 0 [some (.ref a0)] [] h = pfV (hN h (aI 0 6 fun _ => 0) 6) a0 1 0 (.ref h.2.1) fun h1 => pfV h1 a0 1 1 (.int 0) fun h2 => some (none, h2) :=
 T1 (x_aload_n H rfl rfl) rfl
 (T1 (x_oinit H rfl (by rw [hd]; rfl)) rfl
 (T1 (x_aload_n H rfl rfl) rfl
 (T1 (x_bipush H rfl kb_6) rfl
 (T1 (x_newi H rfl (by decide) (by decide)) rfl
 ((x_putR H rfl).trans (pfV_c fun h1 =>
 U1 rfl (T1 (x_aload_n H rfl rfl) rfl
 (T1 (x_iconst H rfl ki_0) rfl
 ((x_putI H rfl).trans (pfV_c fun h2 =>
 U1 rfl (x_return H rfl rfl)))))))))))
-- X1_join (LNameRows$Machine;LNameRows$Machine;LNameRows$Machine;I)Z: 17
theorem nd_17_0 {c : Ct} {dd : Bool} {ρ : Kt} (H : St c dd mt_17 ρ) (hd : dd = true) (h : AH) (a0 : Nat) (a1 : Nat) (a2 : Nat) (a3 : Nat) (x4 : Int32) : ρ 0 [some (.ref a0), some (.ref a1), some (.ref a2), some (.ref a3), some (.int x4), none] [] h = gfI h a2 0 4 fun v1 => gfI h a3 0 4 fun v2 => isO h a1 0 ((c 1 [.ref a1, .int 6, .int (if v1 < v2 then v2 else v1)] h).bind fun q3 => rV q3 fun h4 => pfV h4 a0 1 1 (.int 0) fun h5 => isO h5 a0 1 ((c 19 [.ref a0, .int 0] h5).bind fun q6 => rI q6 fun v8 h7 => ρ 31 [some (.ref a0), some (.ref a1), some (.ref a2), some (.ref a3), some (.int x4), some (.int 0)] [] h7)) :=
 T1 (x_aload_n H rfl rfl) rfl
 (T1 (x_bipush H rfl kb_6) rfl
 (T1 (x_aload_n H rfl rfl) rfl
 ((x_getI H rfl).trans (gfI_c fun v1 =>
 U1 rfl (T1 (x_aload_n H rfl rfl) rfl
 ((x_getI H rfl).trans (gfI_c fun v2 =>
 U1 rfl (T1 (x_max H rfl (by rw [hd]; rfl)) rfl
 ((x_callV H rfl [.int 6, .int (if v1 < v2 then v2 else v1)] rfl rfl rfl rfl).trans (isO_c (bi_c fun q3 => rV_c fun h4 =>
 U1 rfl (T1 (x_aload_n H rfl rfl) rfl
 (T1 (x_iconst H rfl ki_0) rfl
 ((x_putI H rfl).trans (pfV_c fun h5 =>
 U1 rfl (T1 (x_aload_n H rfl rfl) rfl
 (T1 (x_iconst H rfl ki_0) rfl
 ((x_callI H rfl [.int 0] rfl rfl rfl rfl).trans (isO_c (bi_c fun q6 => rI_c fun v8 h7 =>
 U1 rfl (T1 (x_pop H rfl) rfl
 (T1 (x_iconst H rfl ki_0) rfl
 (T2 [some (.ref a0), some (.ref a1), some (.ref a2), some (.ref a3), some (.int x4), some (.int 0)] (x_istore H rfl rfl) rfl rfl)))))))))))))))))))))))
theorem nd_17_31 {c : Ct} {dd : Bool} {ρ : Kt} (H : St c dd mt_17 ρ) (h : AH) (a0 : Nat) (a1 : Nat) (a2 : Nat) (a3 : Nat) (x4 : Int32) (x5 : Int32) : ρ 31 [some (.ref a0), some (.ref a1), some (.ref a2), some (.ref a3), some (.int x4), some (.int x5)] [] h = gfI h a0 1 1 fun v1 => if v1 ≤ x5 then (ρ 106 [some (.ref a0), some (.ref a1), none, none, none, none] [] h) else (if 6 ≤ x5 then (ρ 106 [some (.ref a0), some (.ref a1), none, none, none, none] [] h) else (isO h a0 1 ((c 18 [.ref a0, .ref a1, .int x5, .ref a2, .ref a3] h).bind fun q2 => rI q2 fun v4 h3 => if v4 = 0 then (isZ 0 (some (some (.int 0), h3))) else (gfQ h3 a0 1 0 none fun b5 => ldI h3 b5 x5 fun v6 => isO h3 a2 0 ((c 7 [.ref a2, .int (v6 / 6)] h3).bind fun q7 => rI q7 fun v9 h8 => gfQ h8 a0 1 0 none fun b10 => ldI h8 b10 x5 fun v11 => isO h8 a3 0 ((c 7 [.ref a3, .int (v11 - v11 / 6 * 6)] h8).bind fun q12 => rI q12 fun v14 h13 => (c 20 [.int v9, .int v14, .int x4] h13).bind fun q15 => rI q15 fun v17 h16 => isO h16 a1 0 ((c 8 [.ref a1, .int x5, .int v17] h16).bind fun q18 => rV q18 fun h19 => ρ 31 [some (.ref a0), some (.ref a1), some (.ref a2), some (.ref a3), some (.int x4), some (.int (x5 + 1))] [] h19))))))) :=
 T1 (x_iload H rfl rfl) rfl
 (T1 (x_aload_n H rfl rfl) rfl
 ((x_getI H rfl).trans (gfI_c fun v1 =>
 U1 rfl ((x_icmp_ge H rfl (t := 106) (by decide)).trans (if_c
 (U2 [some (.ref a0), some (.ref a1), none, none, none, none] rfl rfl)
 (U1 rfl (T1 (x_iload H rfl rfl) rfl
 (T1 (x_bipush H rfl kb_6) rfl
 ((x_icmp_ge H rfl (t := 106) (by decide)).trans (if_c
 (U2 [some (.ref a0), some (.ref a1), none, none, none, none] rfl rfl)
 (U1 rfl (T1 (x_aload_n H rfl rfl) rfl
 (T1 (x_aload_n H rfl rfl) rfl
 (T1 (x_iload H rfl rfl) rfl
 (T1 (x_aload_n H rfl rfl) rfl
 (T1 (x_aload_n H rfl rfl) rfl
 ((x_callZ H rfl [.ref a1, .int x5, .ref a2, .ref a3] rfl rfl rfl rfl).trans (isO_c (bi_c fun q2 => rI_c fun v4 h3 =>
 U1 rfl ((x_if_ne H rfl (t := 61) (by decide)).trans (if_c
 (U1 rfl (T1 (x_iconst H rfl ki_0) rfl
 (x_zreturn H rfl rfl)))
 (U1 rfl (T1 (x_aload_n H rfl rfl) rfl
 (T1 (x_iload H rfl rfl) rfl
 (T1 (x_aload_n H rfl rfl) rfl
 (T1 (x_aload_n H rfl rfl) rfl
 ((x_getR H rfl).trans (gfQ_c rfl fun b5 =>
 U1 rfl (T1 (x_iload H rfl rfl) rfl
 ((x_iaload H rfl).trans (ldI_c fun v6 =>
 U1 rfl (T1 (x_bipush H rfl kb_6) rfl
 (T1 (x_idiv H rfl (by decide)) rfl
 ((x_callZ H rfl [.int (v6 / 6)] rfl rfl rfl rfl).trans (isO_c (bi_c fun q7 => rI_c fun v9 h8 =>
 U1 rfl (T1 (x_aload_n H rfl rfl) rfl
 (T1 (x_aload_n H rfl rfl) rfl
 ((x_getR H rfl).trans (gfQ_c rfl fun b10 =>
 U1 rfl (T1 (x_iload H rfl rfl) rfl
 ((x_iaload H rfl).trans (ldI_c fun v11 =>
 U1 rfl (T1 (x_bipush H rfl kb_6) rfl
 (T1 (x_irem H rfl (by decide)) rfl
 ((x_callZ H rfl [.int (v11 - v11 / 6 * 6)] rfl rfl rfl rfl).trans (isO_c (bi_c fun q12 => rI_c fun v14 h13 =>
 U1 rfl (T1 (x_iload H rfl rfl) rfl
 ((x_statZ H rfl [.int v9, .int v14, .int x4] rfl rfl rfl rfl rfl).trans (bi_c fun q15 => rI_c fun v17 h16 =>
 U1 rfl ((x_callV H rfl [.int x5, .int v17] rfl rfl rfl rfl).trans (isO_c (bi_c fun q18 => rV_c fun h19 =>
 U1 rfl (T2 [some (.ref a0), some (.ref a1), some (.ref a2), some (.ref a3), some (.int x4), some (.int (x5 + 1))] (x_iinc H rfl ki_1 rfl rfl) rfl
 (T2 [some (.ref a0), some (.ref a1), some (.ref a2), some (.ref a3), some (.int x4), some (.int (x5 + 1))] (x_goto H rfl (t := 31) (by decide)) rfl rfl))))))))))))))))))))))))))))))))))))))))))))))))))))))))
theorem nd_17_106 {c : Ct} {dd : Bool} {ρ : Kt} (H : St c dd mt_17 ρ) (h : AH) (a0 : Nat) (a1 : Nat) : ρ 106 [some (.ref a0), some (.ref a1), none, none, none, none] [] h = gfI h a0 1 1 fun v1 => pfV h a1 0 3 (.int v1) fun h2 => isZ 1 (some (some (.int 1), h2)) :=
 T1 (x_aload_n H rfl rfl) rfl
 (T1 (x_aload_n H rfl rfl) rfl
 ((x_getI H rfl).trans (gfI_c fun v1 =>
 U1 rfl ((x_putI H rfl).trans (pfV_c fun h2 =>
 U1 rfl (T1 (x_iconst H rfl ki_1) rfl
 (x_zreturn H rfl rfl)))))))
-- X1_joinSteps (LNameRows$Machine;ILNameRows$Machine;LNameRows$Machine;)Z: 18
theorem nd_18_0 {c : Ct} {dd : Bool} {ρ : Kt} (H : St c dd mt_18 ρ) (h : AH) (a0 : Nat) (a1 : Nat) (x2 : Int32) (a3 : Nat) (a4 : Nat) : ρ 0 [some (.ref a0), some (.ref a1), some (.int x2), some (.ref a3), some (.ref a4), none, none, none, none, none, none, none, none] [] h = gfQ h a0 1 0 none fun b1 => ldI h b1 x2 fun v2 => gfQ h a0 1 0 none fun b3 => ldI h b3 x2 fun v4 => ρ 25 [some (.ref a0), some (.ref a1), some (.int x2), some (.ref a3), some (.ref a4), some (.int (v2 / 6)), some (.int (v4 - v4 / 6 * 6)), some (.int 0), none, none, none, none, none] [] h :=
 T1 (x_aload_n H rfl rfl) rfl
 ((x_getR H rfl).trans (gfQ_c rfl fun b1 =>
 U1 rfl (T1 (x_iload_n H rfl rfl) rfl
 ((x_iaload H rfl).trans (ldI_c fun v2 =>
 U1 rfl (T1 (x_bipush H rfl kb_6) rfl
 (T1 (x_idiv H rfl (by decide)) rfl
 (T2 [some (.ref a0), some (.ref a1), some (.int x2), some (.ref a3), some (.ref a4), some (.int (v2 / 6)), none, none, none, none, none, none, none] (x_istore H rfl rfl) rfl
 (T1 (x_aload_n H rfl rfl) rfl
 ((x_getR H rfl).trans (gfQ_c rfl fun b3 =>
 U1 rfl (T1 (x_iload_n H rfl rfl) rfl
 ((x_iaload H rfl).trans (ldI_c fun v4 =>
 U1 rfl (T1 (x_bipush H rfl kb_6) rfl
 (T1 (x_irem H rfl (by decide)) rfl
 (T2 [some (.ref a0), some (.ref a1), some (.int x2), some (.ref a3), some (.ref a4), some (.int (v2 / 6)), some (.int (v4 - v4 / 6 * 6)), none, none, none, none, none, none] (x_istore H rfl rfl) rfl
 (T1 (x_iconst H rfl ki_0) rfl
 (T2 [some (.ref a0), some (.ref a1), some (.int x2), some (.ref a3), some (.ref a4), some (.int (v2 / 6)), some (.int (v4 - v4 / 6 * 6)), some (.int 0), none, none, none, none, none] (x_istore H rfl rfl) rfl rfl)))))))))))))))))))
theorem nd_18_25 {c : Ct} {dd : Bool} {ρ : Kt} (H : St c dd mt_18 ρ) (h : AH) (a0 : Nat) (a1 : Nat) (x2 : Int32) (a3 : Nat) (a4 : Nat) (x5 : Int32) (x6 : Int32) (x7 : Int32) : ρ 25 [some (.ref a0), some (.ref a1), some (.int x2), some (.ref a3), some (.ref a4), some (.int x5), some (.int x6), some (.int x7), none, none, none, none, none] [] h = if 3 ≤ x7 then (isZ 1 (some (some (.int 1), h))) else (ρ 34 [some (.ref a0), some (.ref a1), some (.int x2), some (.ref a3), some (.ref a4), some (.int x5), some (.int x6), some (.int x7), some (.int 0), none, none, none, none] [] h) :=
 T1 (x_iload H rfl rfl) rfl
 (T1 (x_iconst H rfl ki_3) rfl
 ((x_icmp_ge H rfl (t := 195) (by decide)).trans (if_c
 (U1 rfl (T1 (x_iconst H rfl ki_1) rfl
 (x_zreturn H rfl rfl)))
 (U1 rfl (T1 (x_iconst H rfl ki_0) rfl
 (T2 [some (.ref a0), some (.ref a1), some (.int x2), some (.ref a3), some (.ref a4), some (.int x5), some (.int x6), some (.int x7), some (.int 0), none, none, none, none] (x_istore H rfl rfl) rfl rfl))))))
theorem nd_18_34 {c : Ct} {dd : Bool} {ρ : Kt} (H : St c dd mt_18 ρ) (h : AH) (a0 : Nat) (a1 : Nat) (x2 : Int32) (a3 : Nat) (a4 : Nat) (x5 : Int32) (x6 : Int32) (x7 : Int32) (x8 : Int32) : ρ 34 [some (.ref a0), some (.ref a1), some (.int x2), some (.ref a3), some (.ref a4), some (.int x5), some (.int x6), some (.int x7), some (.int x8), none, none, none, none] [] h = if 3 ≤ x8 then (ρ 25 [some (.ref a0), some (.ref a1), some (.int x2), some (.ref a3), some (.ref a4), some (.int x5), some (.int x6), some (.int (x7 + 1)), none, none, none, none, none] [] h) else (isO h a1 0 ((c 4 [.ref a1, .int x2, .int x7, .int x8] h).bind fun q1 => rI q1 fun v3 h2 => gfI h2 a3 0 4 fun v4 => if v4 ≤ 0 then (ρ 69 [some (.ref a0), some (.ref a1), some (.int x2), some (.ref a3), some (.ref a4), some (.int x5), some (.int x6), some (.int x7), some (.int x8), some (.int v3), none, none, none] [.int 2, .int x7, .int x5, .ref a3] h2) else (ρ 69 [some (.ref a0), some (.ref a1), some (.int x2), some (.ref a3), some (.ref a4), some (.int x5), some (.int x6), some (.int x7), some (.int x8), some (.int v3), none, none, none] [.int x8, .int x7, .int x5, .ref a3] h2))) :=
 T1 (x_iload H rfl rfl) rfl
 (T1 (x_iconst H rfl ki_3) rfl
 ((x_icmp_ge H rfl (t := 189) (by decide)).trans (if_c
 (U1 rfl (T2 [some (.ref a0), some (.ref a1), some (.int x2), some (.ref a3), some (.ref a4), some (.int x5), some (.int x6), some (.int (x7 + 1)), some (.int x8), none, none, none, none] (x_iinc H rfl ki_1 rfl rfl) rfl
 (T2 [some (.ref a0), some (.ref a1), some (.int x2), some (.ref a3), some (.ref a4), some (.int x5), some (.int x6), some (.int (x7 + 1)), none, none, none, none, none] (x_goto H rfl (t := 25) (by decide)) rfl rfl)))
 (U1 rfl (T1 (x_aload_n H rfl rfl) rfl
 (T1 (x_iload_n H rfl rfl) rfl
 (T1 (x_iload H rfl rfl) rfl
 (T1 (x_iload H rfl rfl) rfl
 ((x_callI H rfl [.int x2, .int x7, .int x8] rfl rfl rfl rfl).trans (isO_c (bi_c fun q1 => rI_c fun v3 h2 =>
 U1 rfl (T2 [some (.ref a0), some (.ref a1), some (.int x2), some (.ref a3), some (.ref a4), some (.int x5), some (.int x6), some (.int x7), some (.int x8), some (.int v3), none, none, none] (x_istore H rfl rfl) rfl
 (T1 (x_aload_n H rfl rfl) rfl
 (T1 (x_iload H rfl rfl) rfl
 (T1 (x_iload H rfl rfl) rfl
 (T1 (x_aload_n H rfl rfl) rfl
 ((x_getI H rfl).trans (gfI_c fun v4 =>
 U1 rfl ((x_if_le H rfl (t := 68) (by decide)).trans (if_c
 (U1 rfl (T2 [some (.ref a0), some (.ref a1), some (.int x2), some (.ref a3), some (.ref a4), some (.int x5), some (.int x6), some (.int x7), some (.int x8), some (.int v3), none, none, none] (x_iconst H rfl ki_2) rfl rfl))
 (U1 rfl (T1 (x_iload H rfl rfl) rfl
 (T2 [some (.ref a0), some (.ref a1), some (.int x2), some (.ref a3), some (.ref a4), some (.int x5), some (.int x6), some (.int x7), some (.int x8), some (.int v3), none, none, none] (x_goto H rfl (t := 69) (by decide)) rfl rfl)))))))))))))))))))))))
theorem nd_18_69 {c : Ct} {dd : Bool} {ρ : Kt} (H : St c dd mt_18 ρ) (h : AH) (a0 : Nat) (a1 : Nat) (x2 : Int32) (a3 : Nat) (a4 : Nat) (x5 : Int32) (x6 : Int32) (x7 : Int32) (x8 : Int32) (x9 : Int32) (s0_ : Int32) (s1_ : Int32) (s2_ : Int32) (c3_ : Nat) : ρ 69 [some (.ref a0), some (.ref a1), some (.int x2), some (.ref a3), some (.ref a4), some (.int x5), some (.int x6), some (.int x7), some (.int x8), some (.int x9), none, none, none] [.int s0_, .int s1_, .int s2_, .ref c3_] h = isO h c3_ 0 ((c 4 [.ref c3_, .int s2_, .int s1_, .int s0_] h).bind fun q1 => rI q1 fun v3 h2 => gfI h2 a4 0 4 fun v4 => if v4 ≤ 0 then (ρ 94 [some (.ref a0), some (.ref a1), some (.int x2), some (.ref a3), some (.ref a4), some (.int x5), some (.int x6), some (.int x7), some (.int x8), some (.int x9), some (.int v3), none, none] [.int 2, .int x7, .int x6, .ref a4] h2) else (ρ 94 [some (.ref a0), some (.ref a1), some (.int x2), some (.ref a3), some (.ref a4), some (.int x5), some (.int x6), some (.int x7), some (.int x8), some (.int x9), some (.int v3), none, none] [.int x8, .int x7, .int x6, .ref a4] h2)) :=
 (x_callI H rfl [.int s2_, .int s1_, .int s0_] rfl rfl rfl rfl).trans (isO_c (bi_c fun q1 => rI_c fun v3 h2 =>
 U1 rfl (T2 [some (.ref a0), some (.ref a1), some (.int x2), some (.ref a3), some (.ref a4), some (.int x5), some (.int x6), some (.int x7), some (.int x8), some (.int x9), some (.int v3), none, none] (x_istore H rfl rfl) rfl
 (T1 (x_aload H rfl rfl) rfl
 (T1 (x_iload H rfl rfl) rfl
 (T1 (x_iload H rfl rfl) rfl
 (T1 (x_aload H rfl rfl) rfl
 ((x_getI H rfl).trans (gfI_c fun v4 =>
 U1 rfl ((x_if_le H rfl (t := 93) (by decide)).trans (if_c
 (U1 rfl (T2 [some (.ref a0), some (.ref a1), some (.int x2), some (.ref a3), some (.ref a4), some (.int x5), some (.int x6), some (.int x7), some (.int x8), some (.int x9), some (.int v3), none, none] (x_iconst H rfl ki_2) rfl rfl))
 (U1 rfl (T1 (x_iload H rfl rfl) rfl
 (T2 [some (.ref a0), some (.ref a1), some (.int x2), some (.ref a3), some (.ref a4), some (.int x5), some (.int x6), some (.int x7), some (.int x8), some (.int x9), some (.int v3), none, none] (x_goto H rfl (t := 94) (by decide)) rfl rfl))))))))))))))
theorem nd_18_94 {c : Ct} {dd : Bool} {ρ : Kt} (H : St c dd mt_18 ρ) (h : AH) (a0 : Nat) (a1 : Nat) (x2 : Int32) (a3 : Nat) (a4 : Nat) (x5 : Int32) (x6 : Int32) (x7 : Int32) (x8 : Int32) (x9 : Int32) (x10 : Int32) (s0_ : Int32) (s1_ : Int32) (s2_ : Int32) (c3_ : Nat) : ρ 94 [some (.ref a0), some (.ref a1), some (.int x2), some (.ref a3), some (.ref a4), some (.int x5), some (.int x6), some (.int x7), some (.int x8), some (.int x9), some (.int x10), none, none] [.int s0_, .int s1_, .int s2_, .ref c3_] h = isO h c3_ 0 ((c 4 [.ref c3_, .int s2_, .int s1_, .int s0_] h).bind fun q1 => rI q1 fun v3 h2 => if x9 < 0 then (ρ 183 [some (.ref a0), some (.ref a1), some (.int x2), some (.ref a3), some (.ref a4), some (.int x5), some (.int x6), some (.int x7), some (.int x8), none, none, none, none] [] h2) else (if x10 < 0 then (ρ 183 [some (.ref a0), some (.ref a1), some (.int x2), some (.ref a3), some (.ref a4), some (.int x5), some (.int x6), some (.int x7), some (.int x8), none, none, none, none] [] h2) else (if 0 ≤ v3 then (gfQ h2 a3 0 0 none fun b4 => ldI h2 b4 x10 fun v5 => gfQ h2 a4 0 0 none fun b6 => ldI h2 b6 v3 fun v7 => isO h2 a0 1 ((c 19 [.ref a0, .int ((v5 * 6) + v7)] h2).bind fun q8 => rI q8 fun v10 h9 => if 0 ≤ v10 then (gfI h9 a4 0 4 fun v11 => if v11 ≤ 0 then (gfQ h9 a3 0 1 none fun b12 => ldI h9 b12 x10 fun v13 => ρ 180 [some (.ref a0), some (.ref a1), some (.int x2), some (.ref a3), some (.ref a4), some (.int x5), some (.int x6), some (.int x7), some (.int x8), none, none, none, none] [.int v13, .int v10, .int x9, .ref a1] h9) else (gfQ h9 a4 0 1 none fun b14 => ldI h9 b14 v3 fun v15 => ρ 180 [some (.ref a0), some (.ref a1), some (.int x2), some (.ref a3), some (.ref a4), some (.int x5), some (.int x6), some (.int x7), some (.int x8), none, none, none, none] [.int v15, .int v10, .int x9, .ref a1] h9)) else (isZ 0 (some (some (.int 0), h9))))) else (ρ 183 [some (.ref a0), some (.ref a1), some (.int x2), some (.ref a3), some (.ref a4), some (.int x5), some (.int x6), some (.int x7), some (.int x8), none, none, none, none] [] h2)))) :=
 (x_callI H rfl [.int s2_, .int s1_, .int s0_] rfl rfl rfl rfl).trans (isO_c (bi_c fun q1 => rI_c fun v3 h2 =>
 U1 rfl (T2 [some (.ref a0), some (.ref a1), some (.int x2), some (.ref a3), some (.ref a4), some (.int x5), some (.int x6), some (.int x7), some (.int x8), some (.int x9), some (.int x10), some (.int v3), none] (x_istore H rfl rfl) rfl
 (T1 (x_iload H rfl rfl) rfl
 ((x_if_lt H rfl (t := 183) (by decide)).trans (if_c
 (U2 [some (.ref a0), some (.ref a1), some (.int x2), some (.ref a3), some (.ref a4), some (.int x5), some (.int x6), some (.int x7), some (.int x8), none, none, none, none] rfl rfl)
 (U1 rfl (T1 (x_iload H rfl rfl) rfl
 ((x_if_lt H rfl (t := 183) (by decide)).trans (if_c
 (U2 [some (.ref a0), some (.ref a1), some (.int x2), some (.ref a3), some (.ref a4), some (.int x5), some (.int x6), some (.int x7), some (.int x8), none, none, none, none] rfl rfl)
 (U1 rfl (T1 (x_iload H rfl rfl) rfl
 ((x_if_ge H rfl (t := 117) (by decide)).trans (if_c
 (U1 rfl (T1 (x_aload_n H rfl rfl) rfl
 (T1 (x_aload_n H rfl rfl) rfl
 ((x_getR H rfl).trans (gfQ_c rfl fun b4 =>
 U1 rfl (T1 (x_iload H rfl rfl) rfl
 ((x_iaload H rfl).trans (ldI_c fun v5 =>
 U1 rfl (T1 (x_bipush H rfl kb_6) rfl
 (T1 (x_imul H rfl) rfl
 (T1 (x_aload H rfl rfl) rfl
 ((x_getR H rfl).trans (gfQ_c rfl fun b6 =>
 U1 rfl (T1 (x_iload H rfl rfl) rfl
 ((x_iaload H rfl).trans (ldI_c fun v7 =>
 U1 rfl (T1 (x_iadd H rfl) rfl
 ((x_callI H rfl [.int ((v5 * 6) + v7)] rfl rfl rfl rfl).trans (isO_c (bi_c fun q8 => rI_c fun v10 h9 =>
 U1 rfl (T2 [some (.ref a0), some (.ref a1), some (.int x2), some (.ref a3), some (.ref a4), some (.int x5), some (.int x6), some (.int x7), some (.int x8), some (.int x9), some (.int x10), some (.int v3), some (.int v10)] (x_istore H rfl rfl) rfl
 (T1 (x_iload H rfl rfl) rfl
 ((x_if_ge H rfl (t := 149) (by decide)).trans (if_c
 (U1 rfl (T1 (x_aload_n H rfl rfl) rfl
 (T1 (x_iload H rfl rfl) rfl
 (T1 (x_iload H rfl rfl) rfl
 (T1 (x_aload H rfl rfl) rfl
 ((x_getI H rfl).trans (gfI_c fun v11 =>
 U1 rfl ((x_if_le H rfl (t := 173) (by decide)).trans (if_c
 (U1 rfl (T1 (x_aload_n H rfl rfl) rfl
 ((x_getR H rfl).trans (gfQ_c rfl fun b12 =>
 U1 rfl (T1 (x_iload H rfl rfl) rfl
 ((x_iaload H rfl).trans (ldI_c fun v13 =>
 U2 [some (.ref a0), some (.ref a1), some (.int x2), some (.ref a3), some (.ref a4), some (.int x5), some (.int x6), some (.int x7), some (.int x8), none, none, none, none] rfl rfl)))))))
 (U1 rfl (T1 (x_aload H rfl rfl) rfl
 ((x_getR H rfl).trans (gfQ_c rfl fun b14 =>
 U1 rfl (T1 (x_iload H rfl rfl) rfl
 ((x_iaload H rfl).trans (ldI_c fun v15 =>
 U1 rfl (T2 [some (.ref a0), some (.ref a1), some (.int x2), some (.ref a3), some (.ref a4), some (.int x5), some (.int x6), some (.int x7), some (.int x8), none, none, none, none] (x_goto H rfl (t := 180) (by decide)) rfl rfl)))))))))))))))))
 (U1 rfl (T1 (x_iconst H rfl ki_0) rfl
 (x_zreturn H rfl rfl)))))))))))))))))))))))))))
 (U1 rfl (T2 [some (.ref a0), some (.ref a1), some (.int x2), some (.ref a3), some (.ref a4), some (.int x5), some (.int x6), some (.int x7), some (.int x8), none, none, none, none] (x_goto H rfl (t := 183) (by decide)) rfl rfl))))))))))))))))
theorem nd_18_180 {c : Ct} {dd : Bool} {ρ : Kt} (H : St c dd mt_18 ρ) (h : AH) (a0 : Nat) (a1 : Nat) (x2 : Int32) (a3 : Nat) (a4 : Nat) (x5 : Int32) (x6 : Int32) (x7 : Int32) (x8 : Int32) (s0_ : Int32) (s1_ : Int32) (s2_ : Int32) (c3_ : Nat) : ρ 180 [some (.ref a0), some (.ref a1), some (.int x2), some (.ref a3), some (.ref a4), some (.int x5), some (.int x6), some (.int x7), some (.int x8), none, none, none, none] [.int s0_, .int s1_, .int s2_, .ref c3_] h = isO h c3_ 0 ((c 6 [.ref c3_, .int s2_, .int s1_, .int s0_] h).bind fun q1 => rV q1 fun h2 => ρ 183 [some (.ref a0), some (.ref a1), some (.int x2), some (.ref a3), some (.ref a4), some (.int x5), some (.int x6), some (.int x7), some (.int x8), none, none, none, none] [] h2) :=
 (x_callV H rfl [.int s2_, .int s1_, .int s0_] rfl rfl rfl rfl).trans (isO_c (bi_c fun q1 => rV_c fun h2 =>
 U2 [some (.ref a0), some (.ref a1), some (.int x2), some (.ref a3), some (.ref a4), some (.int x5), some (.int x6), some (.int x7), some (.int x8), none, none, none, none] rfl rfl))
theorem nd_18_183 {c : Ct} {dd : Bool} {ρ : Kt} (H : St c dd mt_18 ρ) (h : AH) (a0 : Nat) (a1 : Nat) (x2 : Int32) (a3 : Nat) (a4 : Nat) (x5 : Int32) (x6 : Int32) (x7 : Int32) (x8 : Int32) : ρ 183 [some (.ref a0), some (.ref a1), some (.int x2), some (.ref a3), some (.ref a4), some (.int x5), some (.int x6), some (.int x7), some (.int x8), none, none, none, none] [] h = ρ 34 [some (.ref a0), some (.ref a1), some (.int x2), some (.ref a3), some (.ref a4), some (.int x5), some (.int x6), some (.int x7), some (.int (x8 + 1)), none, none, none, none] [] h :=
 T2 [some (.ref a0), some (.ref a1), some (.int x2), some (.ref a3), some (.ref a4), some (.int x5), some (.int x6), some (.int x7), some (.int (x8 + 1)), none, none, none, none] (x_iinc H rfl ki_1 rfl rfl) rfl
 (T2 [some (.ref a0), some (.ref a1), some (.int x2), some (.ref a3), some (.ref a4), some (.int x5), some (.int x6), some (.int x7), some (.int (x8 + 1)), none, none, none, none] (x_goto H rfl (t := 34) (by decide)) rfl rfl)
-- X1_numberOf (I)I: 19
theorem nd_19_0 {c : Ct} {dd : Bool} {ρ : Kt} (H : St c dd mt_19 ρ) (h : AH) (a0 : Nat) (x1 : Int32) : ρ 0 [some (.ref a0), some (.int x1), none] [] h = ρ 2 [some (.ref a0), some (.int x1), some (.int 0)] [] h :=
 T1 (x_iconst H rfl ki_0) rfl
 (T2 [some (.ref a0), some (.int x1), some (.int 0)] (x_istore_n H rfl rfl) rfl rfl)
theorem nd_19_2 {c : Ct} {dd : Bool} {ρ : Kt} (H : St c dd mt_19 ρ) (h : AH) (a0 : Nat) (x1 : Int32) (x2 : Int32) : ρ 2 [some (.ref a0), some (.int x1), some (.int x2)] [] h = gfI h a0 1 1 fun v1 => if v1 ≤ x2 then (gfI h a0 1 1 fun v2 => if v2 < 6 then (gfQ h a0 1 0 none fun b3 => gfI h a0 1 1 fun v4 => stI h b3 v4 x1 fun h5 => gfI h5 a0 1 1 fun v6 => pfV h5 a0 1 1 (.int (v6 + 1)) fun h7 => gfI h7 a0 1 1 fun v8 => some (some (.int (v8 - 1)), h7)) else (some (some (.int (-4)), h))) else (gfQ h a0 1 0 none fun b9 => ldI h b9 x2 fun v10 => if v10 = x1 then (some (some (.int x2), h)) else (ρ 2 [some (.ref a0), some (.int x1), some (.int (x2 + 1))] [] h)) :=
 T1 (x_iload_n H rfl rfl) rfl
 (T1 (x_aload_n H rfl rfl) rfl
 ((x_getI H rfl).trans (gfI_c fun v1 =>
 U1 rfl ((x_icmp_ge H rfl (t := 28) (by decide)).trans (if_c
 (U1 rfl (T1 (x_aload_n H rfl rfl) rfl
 ((x_getI H rfl).trans (gfI_c fun v2 =>
 U1 rfl (T1 (x_bipush H rfl kb_6) rfl
 ((x_icmp_lt H rfl (t := 40) (by decide)).trans (if_c
 (U1 rfl (T1 (x_aload_n H rfl rfl) rfl
 ((x_getR H rfl).trans (gfQ_c rfl fun b3 =>
 U1 rfl (T1 (x_aload_n H rfl rfl) rfl
 ((x_getI H rfl).trans (gfI_c fun v4 =>
 U1 rfl (T1 (x_iload_n H rfl rfl) rfl
 ((x_iastore H rfl).trans (stI_c fun h5 =>
 U1 rfl (T1 (x_aload_n H rfl rfl) rfl
 (T1 (x_dup H rfl) rfl
 ((x_getI H rfl).trans (gfI_c fun v6 =>
 U1 rfl (T1 (x_iconst H rfl ki_1) rfl
 (T1 (x_iadd H rfl) rfl
 ((x_putI H rfl).trans (pfV_c fun h7 =>
 U1 rfl (T1 (x_aload_n H rfl rfl) rfl
 ((x_getI H rfl).trans (gfI_c fun v8 =>
 U1 rfl (T1 (x_iconst H rfl ki_1) rfl
 (T1 (x_isub H rfl) rfl
 (x_ireturn H rfl rfl))))))))))))))))))))))))
 (U1 rfl (T1 (x_bipush H rfl kb_m4) rfl
 (x_ireturn H rfl rfl))))))))))
 (U1 rfl (T1 (x_aload_n H rfl rfl) rfl
 ((x_getR H rfl).trans (gfQ_c rfl fun b9 =>
 U1 rfl (T1 (x_iload_n H rfl rfl) rfl
 ((x_iaload H rfl).trans (ldI_c fun v10 =>
 U1 rfl (T1 (x_iload_n H rfl rfl) rfl
 ((x_icmp_ne H rfl (t := 22) (by decide)).trans (if_c
 (U1 rfl (T1 (x_iload_n H rfl rfl) rfl
 (x_ireturn H rfl rfl)))
 (U1 rfl (T2 [some (.ref a0), some (.int x1), some (.int (x2 + 1))] (x_iinc H rfl ki_1 rfl rfl) rfl
 (T2 [some (.ref a0), some (.int x1), some (.int (x2 + 1))] (x_goto H rfl (t := 2) (by decide)) rfl rfl))))))))))))))))))
-- X1_isGood (ZZI)Z: 20
theorem nd_20_0 {c : Ct} {dd : Bool} {ρ : Kt} (H : St c dd mt_20 ρ) (h : AH) (x0 : Int32) (x1 : Int32) (x2 : Int32) : ρ 0 [some (.int x0), some (.int x1), some (.int x2)] [] h = if x2 = 0 then (if x0 = 0 then (ρ 16 [none, none, none] [] h) else (if x1 = 0 then (ρ 16 [none, none, none] [] h) else (ρ 17 [none, none, none] [.int 1] h))) else (if x2 = 1 then (if x0 = 0 then (if x1 = 0 then (ρ 49 [none, none, none] [.int 0] h) else (ρ 31 [none, none, none] [] h)) else (ρ 31 [none, none, none] [] h)) else (if x0 = x1 then (ρ 49 [none, none, none] [.int 0] h) else (ρ 49 [none, none, none] [.int 1] h))) :=
 T1 (x_iload_n H rfl rfl) rfl
 ((x_if_ne H rfl (t := 18) (by decide)).trans (if_c
 (U1 rfl (T1 (x_iload_n H rfl rfl) rfl
 ((x_if_eq H rfl (t := 16) (by decide)).trans (if_c
 (U2 [none, none, none] rfl rfl)
 (U1 rfl (T1 (x_iload_n H rfl rfl) rfl
 ((x_if_eq H rfl (t := 16) (by decide)).trans (if_c
 (U2 [none, none, none] rfl rfl)
 (U1 rfl (T1 (x_iconst H rfl ki_1) rfl
 (T2 [none, none, none] (x_goto H rfl (t := 17) (by decide)) rfl rfl)))))))))))
 (U1 rfl (T1 (x_iload_n H rfl rfl) rfl
 (T1 (x_iconst H rfl ki_1) rfl
 ((x_icmp_ne H rfl (t := 39) (by decide)).trans (if_c
 (U1 rfl (T1 (x_iload_n H rfl rfl) rfl
 ((x_if_ne H rfl (t := 31) (by decide)).trans (if_c
 (U1 rfl (T1 (x_iload_n H rfl rfl) rfl
 ((x_if_eq H rfl (t := 35) (by decide)).trans (if_c
 (U1 rfl (T1 (x_iconst H rfl ki_0) rfl
 (T2 [none, none, none] (x_goto H rfl (t := 49) (by decide)) rfl rfl)))
 (U2 [none, none, none] rfl rfl)))))
 (U2 [none, none, none] rfl rfl)))))
 (U1 rfl (T1 (x_iload_n H rfl rfl) rfl
 (T1 (x_iload_n H rfl rfl) rfl
 ((x_icmp_eq H rfl (t := 48) (by decide)).trans (if_c
 (U1 rfl (T2 [none, none, none] (x_iconst H rfl ki_0) rfl rfl))
 (U1 rfl (T1 (x_iconst H rfl ki_1) rfl
 (T2 [none, none, none] (x_goto H rfl (t := 49) (by decide)) rfl rfl)))))))))))))))
theorem nd_20_16 {c : Ct} {dd : Bool} {ρ : Kt} (H : St c dd mt_20 ρ) (h : AH)  : ρ 16 [none, none, none] [] h = ρ 17 [none, none, none] [.int 0] h :=
 T2 [none, none, none] (x_iconst H rfl ki_0) rfl rfl
theorem nd_20_17 {c : Ct} {dd : Bool} {ρ : Kt} (H : St c dd mt_20 ρ) (h : AH) (s0_ : Int32) : ρ 17 [none, none, none] [.int s0_] h = isZ s0_ (some (some (.int s0_), h)) :=
 x_zreturn H rfl rfl
theorem nd_20_31 {c : Ct} {dd : Bool} {ρ : Kt} (H : St c dd mt_20 ρ) (h : AH)  : ρ 31 [none, none, none] [] h = ρ 49 [none, none, none] [.int 1] h :=
 T1 (x_iconst H rfl ki_1) rfl
 (T2 [none, none, none] (x_goto H rfl (t := 49) (by decide)) rfl rfl)
theorem nd_20_49 {c : Ct} {dd : Bool} {ρ : Kt} (H : St c dd mt_20 ρ) (h : AH) (s0_ : Int32) : ρ 49 [none, none, none] [.int s0_] h = isZ s0_ (some (some (.int s0_), h)) :=
 x_zreturn H rfl rfl
-- X2_init (I)V: 21
theorem nd_21_0 {c : Ct} {dd : Bool} {ρ : Kt} (H : St c dd mt_21 ρ) (hd : dd = true) (hsz : ¬ (((if x1 < 0 then 0 else x1)) < 0 ∨ 100000 < ((if x1 < 0 then 0 else x1)).toNatClampNeg)) (h : AH) (a0 : Nat) (x1 : Int32) : ρ 0 [some (.ref a0), some (.int x1), none] [] h = pfV h a0 2 2 (.int 0) fun h1 => pfV (hN h1 (aI 0 ((if x1 < 0 then 0 else x1)).toNatClampNeg fun _ => 0) ((if x1 < 0 then 0 else x1)).toNatClampNeg) a0 2 0 (.ref h1.2.1) fun h2 => pfV (hN h2 (aI 0 ((if x1 < 0 then 0 else x1)).toNatClampNeg fun _ => 0) ((if x1 < 0 then 0 else x1)).toNatClampNeg) a0 2 1 (.ref h2.2.1) fun h3 => some (none, h3) :=
 T1 (x_aload_n H rfl rfl) rfl
 (T1 (x_oinit H rfl (by rw [hd]; rfl)) rfl
 (T1 (x_aload_n H rfl rfl) rfl
 (T1 (x_iconst H rfl ki_0) rfl
 ((x_putI H rfl).trans (pfV_c fun h1 =>
 U1 rfl (T1 (x_iload_n H rfl rfl) rfl
 (T1 (x_iconst H rfl ki_0) rfl
 (T1 (x_max H rfl (by rw [hd]; rfl)) rfl
 (T2 [some (.ref a0), some (.int x1), some (.int (if x1 < 0 then 0 else x1))] (x_istore_n H rfl rfl) rfl
 (T1 (x_aload_n H rfl rfl) rfl
 (T1 (x_iload_n H rfl rfl) rfl
 (T1 (x_newi H rfl rfl hsz) rfl
 ((x_putR H rfl).trans (pfV_c fun h2 =>
 U1 rfl (T1 (x_aload_n H rfl rfl) rfl
 (T1 (x_iload_n H rfl rfl) rfl
 (T1 (x_newi H rfl rfl hsz) rfl
 ((x_putR H rfl).trans (pfV_c fun h3 =>
 U1 rfl (x_return H rfl rfl))))))))))))))))))))
-- X2_hasPlace (I)Z: 22
theorem nd_22_0 {c : Ct} {dd : Bool} {ρ : Kt} (H : St c dd mt_22 ρ) (h : AH) (a0 : Nat) (x1 : Int32) : ρ 0 [some (.ref a0), some (.int x1)] [] h = if x1 < 0 then (ρ 16 [none, none] [] h) else (gfI h a0 2 2 fun v1 => if v1 ≤ x1 then (ρ 16 [none, none] [] h) else (ρ 17 [none, none] [.int 1] h)) :=
 T1 (x_iload_n H rfl rfl) rfl
 ((x_if_lt H rfl (t := 16) (by decide)).trans (if_c
 (U2 [none, none] rfl rfl)
 (U1 rfl (T1 (x_iload_n H rfl rfl) rfl
 (T1 (x_aload_n H rfl rfl) rfl
 ((x_getI H rfl).trans (gfI_c fun v1 =>
 U1 rfl ((x_icmp_ge H rfl (t := 16) (by decide)).trans (if_c
 (U2 [none, none] rfl rfl)
 (U1 rfl (T1 (x_iconst H rfl ki_1) rfl
 (T2 [none, none] (x_goto H rfl (t := 17) (by decide)) rfl rfl))))))))))))
theorem nd_22_16 {c : Ct} {dd : Bool} {ρ : Kt} (H : St c dd mt_22 ρ) (h : AH)  : ρ 16 [none, none] [] h = ρ 17 [none, none] [.int 0] h :=
 T2 [none, none] (x_iconst H rfl ki_0) rfl rfl
theorem nd_22_17 {c : Ct} {dd : Bool} {ρ : Kt} (H : St c dd mt_22 ρ) (h : AH) (s0_ : Int32) : ρ 17 [none, none] [.int s0_] h = isZ s0_ (some (some (.int s0_), h)) :=
 x_zreturn H rfl rfl
-- X2_hasPrefix (I)Z: 23
theorem nd_23_0 {c : Ct} {dd : Bool} {ρ : Kt} (H : St c dd mt_23 ρ) (h : AH) (a0 : Nat) (x1 : Int32) : ρ 0 [some (.ref a0), some (.int x1)] [] h = if x1 < 0 then (ρ 16 [none, none] [] h) else (gfI h a0 2 2 fun v1 => if v1 < x1 then (ρ 16 [none, none] [] h) else (ρ 17 [none, none] [.int 1] h)) :=
 T1 (x_iload_n H rfl rfl) rfl
 ((x_if_lt H rfl (t := 16) (by decide)).trans (if_c
 (U2 [none, none] rfl rfl)
 (U1 rfl (T1 (x_iload_n H rfl rfl) rfl
 (T1 (x_aload_n H rfl rfl) rfl
 ((x_getI H rfl).trans (gfI_c fun v1 =>
 U1 rfl ((x_icmp_gt H rfl (t := 16) (by decide)).trans (if_c
 (U2 [none, none] rfl rfl)
 (U1 rfl (T1 (x_iconst H rfl ki_1) rfl
 (T2 [none, none] (x_goto H rfl (t := 17) (by decide)) rfl rfl))))))))))))
theorem nd_23_16 {c : Ct} {dd : Bool} {ρ : Kt} (H : St c dd mt_23 ρ) (h : AH)  : ρ 16 [none, none] [] h = ρ 17 [none, none] [.int 0] h :=
 T2 [none, none] (x_iconst H rfl ki_0) rfl rfl
theorem nd_23_17 {c : Ct} {dd : Bool} {ρ : Kt} (H : St c dd mt_23 ρ) (h : AH) (s0_ : Int32) : ρ 17 [none, none] [.int s0_] h = isZ s0_ (some (some (.int s0_), h)) :=
 x_zreturn H rfl rfl
-- X2_append (II)I: 24
theorem nd_24_0 {c : Ct} {dd : Bool} {ρ : Kt} (H : St c dd mt_24 ρ) (h : AH) (a0 : Nat) (x1 : Int32) (x2 : Int32) : ρ 0 [some (.ref a0), some (.int x1), some (.int x2)] [] h = if x1 < 0 then (ρ 9 [none, none, none] [] h) else (if x1 < 3 then (gfI h a0 2 2 fun v1 => gfQ h a0 2 0 none fun b2 => lnA h b2 fun v3 => if v1 < v3 then (gfQ h a0 2 0 none fun b4 => gfI h a0 2 2 fun v5 => stI h b4 v5 x1 fun h6 => gfQ h6 a0 2 1 none fun b7 => gfI h6 a0 2 2 fun v8 => stI h6 b7 v8 x2 fun h9 => gfI h9 a0 2 2 fun v10 => pfV h9 a0 2 2 (.int (v10 + 1)) fun h11 => gfI h11 a0 2 2 fun v12 => some (some (.int v12), h11)) else (some (some (.int (-3)), h))) else (ρ 9 [none, none, none] [] h)) :=
 T1 (x_iload_n H rfl rfl) rfl
 ((x_if_lt H rfl (t := 9) (by decide)).trans (if_c
 (U2 [none, none, none] rfl rfl)
 (U1 rfl (T1 (x_iload_n H rfl rfl) rfl
 (T1 (x_iconst H rfl ki_3) rfl
 ((x_icmp_lt H rfl (t := 11) (by decide)).trans (if_c
 (U1 rfl (T1 (x_aload_n H rfl rfl) rfl
 ((x_getI H rfl).trans (gfI_c fun v1 =>
 U1 rfl (T1 (x_aload_n H rfl rfl) rfl
 ((x_getR H rfl).trans (gfQ_c rfl fun b2 =>
 U1 rfl ((x_alen H rfl).trans (lnA_c fun v3 =>
 U1 rfl ((x_icmp_lt H rfl (t := 26) (by decide)).trans (if_c
 (U1 rfl (T1 (x_aload_n H rfl rfl) rfl
 ((x_getR H rfl).trans (gfQ_c rfl fun b4 =>
 U1 rfl (T1 (x_aload_n H rfl rfl) rfl
 ((x_getI H rfl).trans (gfI_c fun v5 =>
 U1 rfl (T1 (x_iload_n H rfl rfl) rfl
 ((x_iastore H rfl).trans (stI_c fun h6 =>
 U1 rfl (T1 (x_aload_n H rfl rfl) rfl
 ((x_getR H rfl).trans (gfQ_c rfl fun b7 =>
 U1 rfl (T1 (x_aload_n H rfl rfl) rfl
 ((x_getI H rfl).trans (gfI_c fun v8 =>
 U1 rfl (T1 (x_iload_n H rfl rfl) rfl
 ((x_iastore H rfl).trans (stI_c fun h9 =>
 U1 rfl (T1 (x_aload_n H rfl rfl) rfl
 (T1 (x_dup H rfl) rfl
 ((x_getI H rfl).trans (gfI_c fun v10 =>
 U1 rfl (T1 (x_iconst H rfl ki_1) rfl
 (T1 (x_iadd H rfl) rfl
 ((x_putI H rfl).trans (pfV_c fun h11 =>
 U1 rfl (T1 (x_aload_n H rfl rfl) rfl
 ((x_getI H rfl).trans (gfI_c fun v12 =>
 U1 rfl (x_ireturn H rfl rfl)))))))))))))))))))))))))))))))
 (U1 rfl (T1 (x_bipush H rfl kb_m3) rfl
 (x_ireturn H rfl rfl))))))))))))))
 (U2 [none, none, none] rfl rfl))))))))
theorem nd_24_9 {c : Ct} {dd : Bool} {ρ : Kt} (H : St c dd mt_24 ρ) (h : AH)  : ρ 9 [none, none, none] [] h = some (some (.int (-1)), h) :=
 T1 (x_iconst H rfl ki_m1) rfl
 (x_ireturn H rfl rfl)
-- X2_firstWithNameOf (I)I: 25
theorem nd_25_0 {c : Ct} {dd : Bool} {ρ : Kt} (H : St c dd mt_25 ρ) (h : AH) (a0 : Nat) (x1 : Int32) : ρ 0 [some (.ref a0), some (.int x1), none] [] h = ρ 2 [some (.ref a0), some (.int x1), some (.int 0)] [] h :=
 T1 (x_iconst H rfl ki_0) rfl
 (T2 [some (.ref a0), some (.int x1), some (.int 0)] (x_istore_n H rfl rfl) rfl rfl)
theorem nd_25_2 {c : Ct} {dd : Bool} {ρ : Kt} (H : St c dd mt_25 ρ) (h : AH) (a0 : Nat) (x1 : Int32) (x2 : Int32) : ρ 2 [some (.ref a0), some (.int x1), some (.int x2)] [] h = if x1 ≤ x2 then (some (some (.int x1), h)) else (gfQ h a0 2 1 none fun b1 => ldI h b1 x2 fun v2 => gfQ h a0 2 1 none fun b3 => ldI h b3 x1 fun v4 => if v2 = v4 then (some (some (.int x2), h)) else (ρ 2 [some (.ref a0), some (.int x1), some (.int (x2 + 1))] [] h)) :=
 T1 (x_iload_n H rfl rfl) rfl
 (T1 (x_iload_n H rfl rfl) rfl
 ((x_icmp_ge H rfl (t := 30) (by decide)).trans (if_c
 (U1 rfl (T1 (x_iload_n H rfl rfl) rfl
 (x_ireturn H rfl rfl)))
 (U1 rfl (T1 (x_aload_n H rfl rfl) rfl
 ((x_getR H rfl).trans (gfQ_c rfl fun b1 =>
 U1 rfl (T1 (x_iload_n H rfl rfl) rfl
 ((x_iaload H rfl).trans (ldI_c fun v2 =>
 U1 rfl (T1 (x_aload_n H rfl rfl) rfl
 ((x_getR H rfl).trans (gfQ_c rfl fun b3 =>
 U1 rfl (T1 (x_iload_n H rfl rfl) rfl
 ((x_iaload H rfl).trans (ldI_c fun v4 =>
 U1 rfl ((x_icmp_ne H rfl (t := 24) (by decide)).trans (if_c
 (U1 rfl (T1 (x_iload_n H rfl rfl) rfl
 (x_ireturn H rfl rfl)))
 (U1 rfl (T2 [some (.ref a0), some (.int x1), some (.int (x2 + 1))] (x_iinc H rfl ki_1 rfl rfl) rfl
 (T2 [some (.ref a0), some (.int x1), some (.int (x2 + 1))] (x_goto H rfl (t := 2) (by decide)) rfl rfl)))))))))))))))))))))
-- X2_becomeAs (LNameRows$Row;)V: 26
theorem nd_26_0 {c : Ct} {dd : Bool} {ρ : Kt} (H : St c dd mt_26 ρ) (hd : dd = true) (h : AH) (a0 : Nat) (a1 : Nat) : ρ 0 [some (.ref a0), some (.ref a1)] [] h = gfI h a1 2 2 fun v1 => gfQ h a0 2 0 none fun b2 => lnA h b2 fun v3 => pfV h a0 2 2 (.int (if v3 < v1 then v3 else v1)) fun h4 => gfQ h4 a1 2 0 none fun b5 => gfQ h4 a0 2 0 none fun b6 => gfI h4 a0 2 2 fun v7 => cpA h4 b5 0 b6 0 v7 fun h8 => gfQ h8 a1 2 1 none fun b9 => gfQ h8 a0 2 1 none fun b10 => gfI h8 a0 2 2 fun v11 => cpA h8 b9 0 b10 0 v11 fun h12 => some (none, h12) :=
 T1 (x_aload_n H rfl rfl) rfl
 (T1 (x_aload_n H rfl rfl) rfl
 ((x_getI H rfl).trans (gfI_c fun v1 =>
 U1 rfl (T1 (x_aload_n H rfl rfl) rfl
 ((x_getR H rfl).trans (gfQ_c rfl fun b2 =>
 U1 rfl ((x_alen H rfl).trans (lnA_c fun v3 =>
 U1 rfl (T1 (x_min H rfl (by rw [hd]; rfl)) rfl
 ((x_putI H rfl).trans (pfV_c fun h4 =>
 U1 rfl (T1 (x_aload_n H rfl rfl) rfl
 ((x_getR H rfl).trans (gfQ_c rfl fun b5 =>
 U1 rfl (T1 (x_iconst H rfl ki_0) rfl
 (T1 (x_aload_n H rfl rfl) rfl
 ((x_getR H rfl).trans (gfQ_c rfl fun b6 =>
 U1 rfl (T1 (x_iconst H rfl ki_0) rfl
 (T1 (x_aload_n H rfl rfl) rfl
 ((x_getI H rfl).trans (gfI_c fun v7 =>
 U1 rfl ((x_acopy H rfl (by rw [hd]; rfl)).trans (cpA_c fun h8 =>
 U1 rfl (T1 (x_aload_n H rfl rfl) rfl
 ((x_getR H rfl).trans (gfQ_c rfl fun b9 =>
 U1 rfl (T1 (x_iconst H rfl ki_0) rfl
 (T1 (x_aload_n H rfl rfl) rfl
 ((x_getR H rfl).trans (gfQ_c rfl fun b10 =>
 U1 rfl (T1 (x_iconst H rfl ki_0) rfl
 (T1 (x_aload_n H rfl rfl) rfl
 ((x_getI H rfl).trans (gfI_c fun v11 =>
 U1 rfl ((x_acopy H rfl (by rw [hd]; rfl)).trans (cpA_c fun h12 =>
 U1 rfl (x_return H rfl rfl))))))))))))))))))))))))))))))))))))))
-- X3_init ()V: 27
theorem nd_27_0 {c : Ct} {dd : Bool} {ρ : Kt} (H : St c dd mt_27 ρ) (hd : dd = true) (h : AH) (a0 : Nat) : ρ 0 [some (.ref a0)] [] h = pfV h a0 3 0 (.int 0) fun h1 => pfV (hN h1 (aI 0 2 fun _ => 0) 2) a0 3 1 (.ref h1.2.1) fun h2 => pfV (hN h2 (aI 0 2 fun _ => 0) 2) a0 3 2 (.ref h2.2.1) fun h3 => pfV h3 a0 3 3 (.int (-4)) fun h4 => pfV h4 a0 3 4 (.int 0) fun h5 => some (none, h5) :=
 T1 (x_aload_n H rfl rfl) rfl
 (T1 (x_oinit H rfl (by rw [hd]; rfl)) rfl
 (T1 (x_aload_n H rfl rfl) rfl
 (T1 (x_iconst H rfl ki_0) rfl
 ((x_putI H rfl).trans (pfV_c fun h1 =>
 U1 rfl (T1 (x_aload_n H rfl rfl) rfl
 (T1 (x_iconst H rfl ki_2) rfl
 (T1 (x_newi H rfl (by decide) (by decide)) rfl
 ((x_putR H rfl).trans (pfV_c fun h2 =>
 U1 rfl (T1 (x_aload_n H rfl rfl) rfl
 (T1 (x_iconst H rfl ki_2) rfl
 (T1 (x_newi H rfl (by decide) (by decide)) rfl
 ((x_putR H rfl).trans (pfV_c fun h3 =>
 U1 rfl (T1 (x_aload_n H rfl rfl) rfl
 (T1 (x_bipush H rfl kb_m4) rfl
 ((x_putI H rfl).trans (pfV_c fun h4 =>
 U1 rfl (T1 (x_aload_n H rfl rfl) rfl
 (T1 (x_iconst H rfl ki_0) rfl
 ((x_putI H rfl).trans (pfV_c fun h5 =>
 U1 rfl (x_return H rfl rfl))))))))))))))))))))))))
-- X3_begin ()V: 28
theorem nd_28_0 {c : Ct} {dd : Bool} {ρ : Kt} (H : St c dd mt_28 ρ) (h : AH) (a0 : Nat) : ρ 0 [some (.ref a0), none] [] h = pfV h a0 3 0 (.int 0) fun h1 => pfV h1 a0 3 3 (.int (-4)) fun h2 => pfV h2 a0 3 4 (.int 0) fun h3 => ρ 18 [some (.ref a0), some (.int 0)] [] h3 :=
 T1 (x_aload_n H rfl rfl) rfl
 (T1 (x_iconst H rfl ki_0) rfl
 ((x_putI H rfl).trans (pfV_c fun h1 =>
 U1 rfl (T1 (x_aload_n H rfl rfl) rfl
 (T1 (x_bipush H rfl kb_m4) rfl
 ((x_putI H rfl).trans (pfV_c fun h2 =>
 U1 rfl (T1 (x_aload_n H rfl rfl) rfl
 (T1 (x_iconst H rfl ki_0) rfl
 ((x_putI H rfl).trans (pfV_c fun h3 =>
 U1 rfl (T1 (x_iconst H rfl ki_0) rfl
 (T2 [some (.ref a0), some (.int 0)] (x_istore_n H rfl rfl) rfl rfl)))))))))))))
theorem nd_28_18 {c : Ct} {dd : Bool} {ρ : Kt} (H : St c dd mt_28 ρ) (h : AH) (a0 : Nat) (x1 : Int32) : ρ 18 [some (.ref a0), some (.int x1)] [] h = if 2 ≤ x1 then (some (none, h)) else (gfQ h a0 3 1 none fun b1 => stI h b1 x1 0 fun h2 => gfQ h2 a0 3 2 none fun b3 => stI h2 b3 x1 (-4) fun h4 => ρ 18 [some (.ref a0), some (.int (x1 + 1))] [] h4) :=
 T1 (x_iload_n H rfl rfl) rfl
 (T1 (x_iconst H rfl ki_2) rfl
 ((x_icmp_ge H rfl (t := 44) (by decide)).trans (if_c
 (U1 rfl (x_return H rfl rfl))
 (U1 rfl (T1 (x_aload_n H rfl rfl) rfl
 ((x_getR H rfl).trans (gfQ_c rfl fun b1 =>
 U1 rfl (T1 (x_iload_n H rfl rfl) rfl
 (T1 (x_iconst H rfl ki_0) rfl
 ((x_iastore H rfl).trans (stI_c fun h2 =>
 U1 rfl (T1 (x_aload_n H rfl rfl) rfl
 ((x_getR H rfl).trans (gfQ_c rfl fun b3 =>
 U1 rfl (T1 (x_iload_n H rfl rfl) rfl
 (T1 (x_bipush H rfl kb_m4) rfl
 ((x_iastore H rfl).trans (stI_c fun h4 =>
 U1 rfl (T2 [some (.ref a0), some (.int (x1 + 1))] (x_iinc H rfl ki_1 rfl rfl) rfl
 (T2 [some (.ref a0), some (.int (x1 + 1))] (x_goto H rfl (t := 18) (by decide)) rfl rfl))))))))))))))))))))
-- X3_go (LNameRows$Machine;II)V: 29
theorem nd_29_0 {c : Ct} {dd : Bool} {ρ : Kt} (H : St c dd mt_29 ρ) (h : AH) (a0 : Nat) (a1 : Nat) (x2 : Int32) (x3 : Int32) : ρ 0 [some (.ref a0), some (.ref a1), some (.int x2), some (.int x3), none] [] h = isO h a0 3 ((c 31 [.ref a0, .int x3] h).bind fun q1 => rI q1 fun v3 h2 => pfV h2 a0 3 3 (.int v3) fun h4 => gfI h4 a0 3 0 fun v5 => gfI h4 a0 3 3 fun v6 => isO h4 a1 0 ((c 4 [.ref a1, .int v5, .int x2, .int v6] h4).bind fun q7 => rI q7 fun v9 h8 => if v9 < 0 then (ρ 52 [some (.ref a0), none, none, none, none] [] h8) else (gfQ h8 a1 0 1 none fun b10 => ldI h8 b10 v9 fun v11 => isO h8 a0 3 ((c 30 [.ref a0, .int v11, .int x3] h8).bind fun q12 => rV q12 fun h13 => gfQ h13 a1 0 0 none fun b14 => ldI h13 b14 v9 fun v15 => pfV h13 a0 3 0 (.int v15) fun h16 => ρ 52 [some (.ref a0), none, none, none, none] [] h16)))) :=
 T1 (x_aload_n H rfl rfl) rfl
 (T1 (x_aload_n H rfl rfl) rfl
 (T1 (x_iload_n H rfl rfl) rfl
 ((x_callI H rfl [.int x3] rfl rfl rfl rfl).trans (isO_c (bi_c fun q1 => rI_c fun v3 h2 =>
 U1 rfl ((x_putI H rfl).trans (pfV_c fun h4 =>
 U1 rfl (T1 (x_aload_n H rfl rfl) rfl
 (T1 (x_aload_n H rfl rfl) rfl
 ((x_getI H rfl).trans (gfI_c fun v5 =>
 U1 rfl (T1 (x_iload_n H rfl rfl) rfl
 (T1 (x_aload_n H rfl rfl) rfl
 ((x_getI H rfl).trans (gfI_c fun v6 =>
 U1 rfl ((x_callI H rfl [.int v5, .int x2, .int v6] rfl rfl rfl rfl).trans (isO_c (bi_c fun q7 => rI_c fun v9 h8 =>
 U1 rfl (T2 [some (.ref a0), some (.ref a1), some (.int x2), some (.int x3), some (.int v9)] (x_istore H rfl rfl) rfl
 (T1 (x_iload H rfl rfl) rfl
 ((x_if_lt H rfl (t := 52) (by decide)).trans (if_c
 (U2 [some (.ref a0), none, none, none, none] rfl rfl)
 (U1 rfl (T1 (x_aload_n H rfl rfl) rfl
 (T1 (x_aload_n H rfl rfl) rfl
 ((x_getR H rfl).trans (gfQ_c rfl fun b10 =>
 U1 rfl (T1 (x_iload H rfl rfl) rfl
 ((x_iaload H rfl).trans (ldI_c fun v11 =>
 U1 rfl (T1 (x_iload_n H rfl rfl) rfl
 ((x_callV H rfl [.int v11, .int x3] rfl rfl rfl rfl).trans (isO_c (bi_c fun q12 => rV_c fun h13 =>
 U1 rfl (T1 (x_aload_n H rfl rfl) rfl
 (T1 (x_aload_n H rfl rfl) rfl
 ((x_getR H rfl).trans (gfQ_c rfl fun b14 =>
 U1 rfl (T1 (x_iload H rfl rfl) rfl
 ((x_iaload H rfl).trans (ldI_c fun v15 =>
 U1 rfl ((x_putI H rfl).trans (pfV_c fun h16 =>
 U2 [some (.ref a0), none, none, none, none] rfl rfl)))))))))))))))))))))))))))))))))))))))))))
theorem nd_29_52 {c : Ct} {dd : Bool} {ρ : Kt} (H : St c dd mt_29 ρ) (h : AH) (a0 : Nat) : ρ 52 [some (.ref a0), none, none, none, none] [] h = gfI h a0 3 4 fun v1 => pfV h a0 3 4 (.int (v1 + 1)) fun h2 => some (none, h2) :=
 T1 (x_aload_n H rfl rfl) rfl
 (T1 (x_dup H rfl) rfl
 ((x_getI H rfl).trans (gfI_c fun v1 =>
 U1 rfl (T1 (x_iconst H rfl ki_1) rfl
 (T1 (x_iadd H rfl) rfl
 ((x_putI H rfl).trans (pfV_c fun h2 =>
 U1 rfl (x_return H rfl rfl))))))))
-- X3_keepIn (II)V: 30
theorem nd_30_0 {c : Ct} {dd : Bool} {ρ : Kt} (H : St c dd mt_30 ρ) (h : AH) (a0 : Nat) (x1 : Int32) (x2 : Int32) : ρ 0 [some (.ref a0), some (.int x1), some (.int x2)] [] h = if x1 < 0 then (ρ 26 [none, none, none] [] h) else (if 2 ≤ x1 then (ρ 26 [none, none, none] [] h) else (gfQ h a0 3 1 none fun b1 => stI h b1 x1 x2 fun h2 => gfQ h2 a0 3 2 none fun b3 => gfI h2 a0 3 4 fun v4 => stI h2 b3 x1 v4 fun h5 => ρ 26 [none, none, none] [] h5)) :=
 T1 (x_iload_n H rfl rfl) rfl
 ((x_if_lt H rfl (t := 26) (by decide)).trans (if_c
 (U2 [none, none, none] rfl rfl)
 (U1 rfl (T1 (x_iload_n H rfl rfl) rfl
 (T1 (x_iconst H rfl ki_2) rfl
 ((x_icmp_ge H rfl (t := 26) (by decide)).trans (if_c
 (U2 [none, none, none] rfl rfl)
 (U1 rfl (T1 (x_aload_n H rfl rfl) rfl
 ((x_getR H rfl).trans (gfQ_c rfl fun b1 =>
 U1 rfl (T1 (x_iload_n H rfl rfl) rfl
 (T1 (x_iload_n H rfl rfl) rfl
 ((x_iastore H rfl).trans (stI_c fun h2 =>
 U1 rfl (T1 (x_aload_n H rfl rfl) rfl
 ((x_getR H rfl).trans (gfQ_c rfl fun b3 =>
 U1 rfl (T1 (x_iload_n H rfl rfl) rfl
 (T1 (x_aload_n H rfl rfl) rfl
 ((x_getI H rfl).trans (gfI_c fun v4 =>
 U1 rfl ((x_iastore H rfl).trans (stI_c fun h5 =>
 U2 [none, none, none] rfl rfl))))))))))))))))))))))))
theorem nd_30_26 {c : Ct} {dd : Bool} {ρ : Kt} (H : St c dd mt_30 ρ) (h : AH)  : ρ 26 [none, none, none] [] h = some (none, h) :=
 x_return H rfl rfl
-- X3_caseOf (I)I: 31
theorem nd_31_0 {c : Ct} {dd : Bool} {ρ : Kt} (H : St c dd mt_31 ρ) (h : AH) (a0 : Nat) (x1 : Int32) : ρ 0 [some (.ref a0), some (.int x1), none] [] h = ρ 2 [some (.ref a0), some (.int x1), some (.int 0)] [] h :=
 T1 (x_iconst H rfl ki_0) rfl
 (T2 [some (.ref a0), some (.int x1), some (.int 0)] (x_istore_n H rfl rfl) rfl rfl)
theorem nd_31_2 {c : Ct} {dd : Bool} {ρ : Kt} (H : St c dd mt_31 ρ) (h : AH) (a0 : Nat) (x1 : Int32) (x2 : Int32) : ρ 2 [some (.ref a0), some (.int x1), some (.int x2)] [] h = if 2 ≤ x2 then (some (some (.int 2), h)) else (gfQ h a0 3 2 none fun b1 => ldI h b1 x2 fun v2 => if v2 = (-4) then (ρ 30 [some (.ref a0), some (.int x1), some (.int x2)] [] h) else (gfQ h a0 3 1 none fun b3 => ldI h b3 x2 fun v4 => if v4 = x1 then (some (some (.int x2), h)) else (ρ 30 [some (.ref a0), some (.int x1), some (.int x2)] [] h))) :=
 T1 (x_iload_n H rfl rfl) rfl
 (T1 (x_iconst H rfl ki_2) rfl
 ((x_icmp_ge H rfl (t := 36) (by decide)).trans (if_c
 (U1 rfl (T1 (x_iconst H rfl ki_2) rfl
 (x_ireturn H rfl rfl)))
 (U1 rfl (T1 (x_aload_n H rfl rfl) rfl
 ((x_getR H rfl).trans (gfQ_c rfl fun b1 =>
 U1 rfl (T1 (x_iload_n H rfl rfl) rfl
 ((x_iaload H rfl).trans (ldI_c fun v2 =>
 U1 rfl (T1 (x_bipush H rfl kb_m4) rfl
 ((x_icmp_eq H rfl (t := 30) (by decide)).trans (if_c
 (U2 [some (.ref a0), some (.int x1), some (.int x2)] rfl rfl)
 (U1 rfl (T1 (x_aload_n H rfl rfl) rfl
 ((x_getR H rfl).trans (gfQ_c rfl fun b3 =>
 U1 rfl (T1 (x_iload_n H rfl rfl) rfl
 ((x_iaload H rfl).trans (ldI_c fun v4 =>
 U1 rfl (T1 (x_iload_n H rfl rfl) rfl
 ((x_icmp_ne H rfl (t := 30) (by decide)).trans (if_c
 (U1 rfl (T1 (x_iload_n H rfl rfl) rfl
 (x_ireturn H rfl rfl)))
 (U2 [some (.ref a0), some (.int x1), some (.int x2)] rfl rfl))))))))))))))))))))))))
theorem nd_31_30 {c : Ct} {dd : Bool} {ρ : Kt} (H : St c dd mt_31 ρ) (h : AH) (a0 : Nat) (x1 : Int32) (x2 : Int32) : ρ 30 [some (.ref a0), some (.int x1), some (.int x2)] [] h = ρ 2 [some (.ref a0), some (.int x1), some (.int (x2 + 1))] [] h :=
 T2 [some (.ref a0), some (.int x1), some (.int (x2 + 1))] (x_iinc H rfl ki_1 rfl rfl) rfl
 (T2 [some (.ref a0), some (.int x1), some (.int (x2 + 1))] (x_goto H rfl (t := 2) (by decide)) rfl rfl)
-- X3_isDoomed (LNameRows$Machine;)Z: 32
theorem nd_32_0 {c : Ct} {dd : Bool} {ρ : Kt} (H : St c dd mt_32 ρ) (h : AH) (a0 : Nat) (a1 : Nat) : ρ 0 [some (.ref a0), some (.ref a1)] [] h = gfI h a0 3 0 fun v1 => isO h a0 3 ((c 33 [.ref a0] h).bind fun q2 => rI q2 fun v4 h3 => isO h3 a1 0 ((c 12 [.ref a1, .int v1, .int v4] h3).bind fun q5 => rI q5 fun v7 h6 => if v7 = 2 then (ρ 21 [none, none] [.int 1] h6) else (ρ 21 [none, none] [.int 0] h6))) :=
 T1 (x_aload_n H rfl rfl) rfl
 (T1 (x_aload_n H rfl rfl) rfl
 ((x_getI H rfl).trans (gfI_c fun v1 =>
 U1 rfl (T1 (x_aload_n H rfl rfl) rfl
 ((x_callI H rfl [] rfl rfl rfl rfl).trans (isO_c (bi_c fun q2 => rI_c fun v4 h3 =>
 U1 rfl ((x_callI H rfl [.int v1, .int v4] rfl rfl rfl rfl).trans (isO_c (bi_c fun q5 => rI_c fun v7 h6 =>
 U1 rfl (T1 (x_iconst H rfl ki_2) rfl
 ((x_icmp_ne H rfl (t := 20) (by decide)).trans (if_c
 (U1 rfl (T1 (x_iconst H rfl ki_1) rfl
 (T2 [none, none] (x_goto H rfl (t := 21) (by decide)) rfl rfl)))
 (U1 rfl (T2 [none, none] (x_iconst H rfl ki_0) rfl rfl)))))))))))))))
theorem nd_32_21 {c : Ct} {dd : Bool} {ρ : Kt} (H : St c dd mt_32 ρ) (h : AH) (s0_ : Int32) : ρ 21 [none, none] [.int s0_] h = isZ s0_ (some (some (.int s0_), h)) :=
 x_zreturn H rfl rfl
-- X3_pattern ()I: 33
theorem nd_33_0 {c : Ct} {dd : Bool} {ρ : Kt} (H : St c dd mt_33 ρ) (h : AH) (a0 : Nat) : ρ 0 [some (.ref a0), none, none] [] h = gfQ h a0 3 2 none fun b1 => ldI h b1 0 fun v2 => if v2 = (-4) then (ρ 16 [some (.ref a0), none, none] [.int 0] h) else (ρ 16 [some (.ref a0), none, none] [.int 1] h) :=
 T1 (x_aload_n H rfl rfl) rfl
 ((x_getR H rfl).trans (gfQ_c rfl fun b1 =>
 U1 rfl (T1 (x_iconst H rfl ki_0) rfl
 ((x_iaload H rfl).trans (ldI_c fun v2 =>
 U1 rfl (T1 (x_bipush H rfl kb_m4) rfl
 ((x_icmp_ne H rfl (t := 15) (by decide)).trans (if_c
 (U1 rfl (T1 (x_iconst H rfl ki_0) rfl
 (T2 [some (.ref a0), none, none] (x_goto H rfl (t := 16) (by decide)) rfl rfl)))
 (U1 rfl (T2 [some (.ref a0), none, none] (x_iconst H rfl ki_1) rfl rfl))))))))))
theorem nd_33_16 {c : Ct} {dd : Bool} {ρ : Kt} (H : St c dd mt_33 ρ) (h : AH) (a0 : Nat) (s0_ : Int32) : ρ 16 [some (.ref a0), none, none] [.int s0_] h = gfQ h a0 3 2 none fun b1 => ldI h b1 1 fun v2 => if v2 = (-4) then ((c 40 [.int s0_, .int 0] h).bind fun q7 => rI q7 fun v9 h8 => some (some (.int v9), h8)) else (if s0_ = 1 then (gfQ h a0 3 1 none fun b3 => ldI h b3 0 fun v4 => gfQ h a0 3 1 none fun b5 => ldI h b5 1 fun v6 => if v4 = v6 then (ρ 59 [none, some (.int s0_), none] [.int 1] h) else (ρ 58 [none, some (.int s0_), none] [] h)) else (ρ 58 [none, some (.int s0_), none] [] h)) :=
 T2 [some (.ref a0), some (.int s0_), none] (x_istore_n H rfl rfl) rfl
 (T1 (x_aload_n H rfl rfl) rfl
 ((x_getR H rfl).trans (gfQ_c rfl fun b1 =>
 U1 rfl (T1 (x_iconst H rfl ki_1) rfl
 ((x_iaload H rfl).trans (ldI_c fun v2 =>
 U1 rfl (T1 (x_bipush H rfl kb_m4) rfl
 ((x_icmp_ne H rfl (t := 34) (by decide)).trans (if_c
 (U1 rfl (T1 (x_iload_n H rfl rfl) rfl
 (T1 (x_iconst H rfl ki_0) rfl
 ((x_statI H rfl [.int s0_, .int 0] rfl rfl rfl rfl rfl).trans (bi_c fun q7 => rI_c fun v9 h8 =>
 U1 rfl (x_ireturn H rfl rfl))))))
 (U1 rfl (T1 (x_iload_n H rfl rfl) rfl
 (T1 (x_iconst H rfl ki_1) rfl
 ((x_icmp_ne H rfl (t := 58) (by decide)).trans (if_c
 (U1 rfl (T1 (x_aload_n H rfl rfl) rfl
 ((x_getR H rfl).trans (gfQ_c rfl fun b3 =>
 U1 rfl (T1 (x_iconst H rfl ki_0) rfl
 ((x_iaload H rfl).trans (ldI_c fun v4 =>
 U1 rfl (T1 (x_aload_n H rfl rfl) rfl
 ((x_getR H rfl).trans (gfQ_c rfl fun b5 =>
 U1 rfl (T1 (x_iconst H rfl ki_1) rfl
 ((x_iaload H rfl).trans (ldI_c fun v6 =>
 U1 rfl ((x_icmp_ne H rfl (t := 58) (by decide)).trans (if_c
 (U1 rfl (T1 (x_iconst H rfl ki_1) rfl
 (T2 [none, some (.int s0_), none] (x_goto H rfl (t := 59) (by decide)) rfl rfl)))
 (U2 [none, some (.int s0_), none] rfl rfl))))))))))))))))
 (U2 [none, some (.int s0_), none] rfl rfl)))))))))))))))
theorem nd_33_58 {c : Ct} {dd : Bool} {ρ : Kt} (H : St c dd mt_33 ρ) (h : AH) (x1 : Int32) : ρ 58 [none, some (.int x1), none] [] h = ρ 59 [none, some (.int x1), none] [.int 0] h :=
 T2 [none, some (.int x1), none] (x_iconst H rfl ki_0) rfl rfl
theorem nd_33_59 {c : Ct} {dd : Bool} {ρ : Kt} (H : St c dd mt_33 ρ) (h : AH) (x1 : Int32) (s0_ : Int32) : ρ 59 [none, some (.int x1), none] [.int s0_] h = if s0_ = 0 then (ρ 72 [none, none, none] [.int (x1 + 1), .int x1] h) else (ρ 72 [none, none, none] [.int 1, .int x1] h) :=
 T2 [none, some (.int x1), some (.int s0_)] (x_istore_n H rfl rfl) rfl
 (T1 (x_iload_n H rfl rfl) rfl
 (T1 (x_iload_n H rfl rfl) rfl
 ((x_if_eq H rfl (t := 69) (by decide)).trans (if_c
 (U1 rfl (T1 (x_iload_n H rfl rfl) rfl
 (T1 (x_iconst H rfl ki_1) rfl
 (T2 [none, none, none] (x_iadd H rfl) rfl rfl))))
 (U1 rfl (T1 (x_iconst H rfl ki_1) rfl
 (T2 [none, none, none] (x_goto H rfl (t := 72) (by decide)) rfl rfl)))))))
theorem nd_33_72 {c : Ct} {dd : Bool} {ρ : Kt} (H : St c dd mt_33 ρ) (h : AH) (s0_ : Int32) (s1_ : Int32) : ρ 72 [none, none, none] [.int s0_, .int s1_] h = (c 40 [.int s1_, .int s0_] h).bind fun q1 => rI q1 fun v3 h2 => some (some (.int v3), h2) :=
 (x_statI H rfl [.int s1_, .int s0_] rfl rfl rfl rfl rfl).trans (bi_c fun q1 => rI_c fun v3 h2 =>
 U1 rfl (x_ireturn H rfl rfl))
-- X4_init ()V: 34
theorem nd_34_0 {c : Ct} {dd : Bool} {ρ : Kt} (H : St c dd mt_34 ρ) (hd : dd = true) (h : AH) (a0 : Nat) : ρ 0 [some (.ref a0)] [] h = pfV (hN h (aI 0 60 fun _ => 0) 60) a0 4 0 (.ref h.2.1) fun h1 => pfV h1 a0 4 1 (.int (-4)) fun h2 => pfV h2 a0 4 2 (.int 0) fun h3 => some (none, h3) :=
 T1 (x_aload_n H rfl rfl) rfl
 (T1 (x_oinit H rfl (by rw [hd]; rfl)) rfl
 (T1 (x_aload_n H rfl rfl) rfl
 (T1 (x_bipush H rfl kb_60) rfl
 (T1 (x_newi H rfl (by decide) (by decide)) rfl
 ((x_putR H rfl).trans (pfV_c fun h1 =>
 U1 rfl (T1 (x_aload_n H rfl rfl) rfl
 (T1 (x_bipush H rfl kb_m4) rfl
 ((x_putI H rfl).trans (pfV_c fun h2 =>
 U1 rfl (T1 (x_aload_n H rfl rfl) rfl
 (T1 (x_iconst H rfl ki_0) rfl
 ((x_putI H rfl).trans (pfV_c fun h3 =>
 U1 rfl (x_return H rfl rfl)))))))))))))))
-- X4_begin (II)V: 35
theorem nd_35_0 {c : Ct} {dd : Bool} {ρ : Kt} (H : St c dd mt_35 ρ) (h : AH) (a0 : Nat) (x1 : Int32) (x2 : Int32) : ρ 0 [some (.ref a0), some (.int x1), some (.int x2), none] [] h = pfV h a0 4 1 (.int x1) fun h1 => pfV h1 a0 4 2 (.int x2) fun h2 => ρ 12 [some (.ref a0), none, none, some (.int 0)] [] h2 :=
 T1 (x_aload_n H rfl rfl) rfl
 (T1 (x_iload_n H rfl rfl) rfl
 ((x_putI H rfl).trans (pfV_c fun h1 =>
 U1 rfl (T1 (x_aload_n H rfl rfl) rfl
 (T1 (x_iload_n H rfl rfl) rfl
 ((x_putI H rfl).trans (pfV_c fun h2 =>
 U1 rfl (T1 (x_iconst H rfl ki_0) rfl
 (T2 [some (.ref a0), none, none, some (.int 0)] (x_istore_n H rfl rfl) rfl rfl)))))))))
theorem nd_35_12 {c : Ct} {dd : Bool} {ρ : Kt} (H : St c dd mt_35 ρ) (h : AH) (a0 : Nat) (x3 : Int32) : ρ 12 [some (.ref a0), none, none, some (.int x3)] [] h = gfQ h a0 4 0 none fun b1 => lnA h b1 fun v2 => if v2 ≤ x3 then (some (none, h)) else (gfQ h a0 4 0 none fun b3 => stI h b3 x3 0 fun h4 => ρ 12 [some (.ref a0), none, none, some (.int (x3 + 1))] [] h4) :=
 T1 (x_iload_n H rfl rfl) rfl
 (T1 (x_aload_n H rfl rfl) rfl
 ((x_getR H rfl).trans (gfQ_c rfl fun b1 =>
 U1 rfl ((x_alen H rfl).trans (lnA_c fun v2 =>
 U1 rfl ((x_icmp_ge H rfl (t := 34) (by decide)).trans (if_c
 (U1 rfl (x_return H rfl rfl))
 (U1 rfl (T1 (x_aload_n H rfl rfl) rfl
 ((x_getR H rfl).trans (gfQ_c rfl fun b3 =>
 U1 rfl (T1 (x_iload_n H rfl rfl) rfl
 (T1 (x_iconst H rfl ki_0) rfl
 ((x_iastore H rfl).trans (stI_c fun h4 =>
 U1 rfl (T2 [some (.ref a0), none, none, some (.int (x3 + 1))] (x_iinc H rfl ki_1 rfl rfl) rfl
 (T2 [some (.ref a0), none, none, some (.int (x3 + 1))] (x_goto H rfl (t := 12) (by decide)) rfl rfl)))))))))))))))))
-- X4_isNothing ()Z: 36
theorem nd_36_0 {c : Ct} {dd : Bool} {ρ : Kt} (H : St c dd mt_36 ρ) (h : AH) (a0 : Nat) : ρ 0 [some (.ref a0)] [] h = gfI h a0 4 1 fun v1 => if v1 = (-4) then (ρ 14 [none] [.int 1] h) else (ρ 14 [none] [.int 0] h) :=
 T1 (x_aload_n H rfl rfl) rfl
 ((x_getI H rfl).trans (gfI_c fun v1 =>
 U1 rfl (T1 (x_bipush H rfl kb_m4) rfl
 ((x_icmp_ne H rfl (t := 13) (by decide)).trans (if_c
 (U1 rfl (T1 (x_iconst H rfl ki_1) rfl
 (T2 [none] (x_goto H rfl (t := 14) (by decide)) rfl rfl)))
 (U1 rfl (T2 [none] (x_iconst H rfl ki_0) rfl rfl)))))))
theorem nd_36_14 {c : Ct} {dd : Bool} {ρ : Kt} (H : St c dd mt_36 ρ) (h : AH) (s0_ : Int32) : ρ 14 [none] [.int s0_] h = isZ s0_ (some (some (.int s0_), h)) :=
 x_zreturn H rfl rfl
-- X4_hasCell (I)Z: 37
theorem nd_37_0 {c : Ct} {dd : Bool} {ρ : Kt} (H : St c dd mt_37 ρ) (h : AH) (a0 : Nat) (x1 : Int32) : ρ 0 [some (.ref a0), some (.int x1)] [] h = if x1 < 0 then (ρ 16 [none, none] [] h) else (gfI h a0 4 2 fun v1 => if v1 ≤ x1 then (ρ 16 [none, none] [] h) else (ρ 17 [none, none] [.int 1] h)) :=
 T1 (x_iload_n H rfl rfl) rfl
 ((x_if_lt H rfl (t := 16) (by decide)).trans (if_c
 (U2 [none, none] rfl rfl)
 (U1 rfl (T1 (x_iload_n H rfl rfl) rfl
 (T1 (x_aload_n H rfl rfl) rfl
 ((x_getI H rfl).trans (gfI_c fun v1 =>
 U1 rfl ((x_icmp_ge H rfl (t := 16) (by decide)).trans (if_c
 (U2 [none, none] rfl rfl)
 (U1 rfl (T1 (x_iconst H rfl ki_1) rfl
 (T2 [none, none] (x_goto H rfl (t := 17) (by decide)) rfl rfl))))))))))))
theorem nd_37_16 {c : Ct} {dd : Bool} {ρ : Kt} (H : St c dd mt_37 ρ) (h : AH)  : ρ 16 [none, none] [] h = ρ 17 [none, none] [.int 0] h :=
 T2 [none, none] (x_iconst H rfl ki_0) rfl rfl
theorem nd_37_17 {c : Ct} {dd : Bool} {ρ : Kt} (H : St c dd mt_37 ρ) (h : AH) (s0_ : Int32) : ρ 17 [none, none] [.int s0_] h = isZ s0_ (some (some (.int s0_), h)) :=
 x_zreturn H rfl rfl
-- X4_setCell (II)V: 38
theorem nd_38_0 {c : Ct} {dd : Bool} {ρ : Kt} (H : St c dd mt_38 ρ) (h : AH) (a0 : Nat) (x1 : Int32) (x2 : Int32) : ρ 0 [some (.ref a0), some (.int x1), some (.int x2)] [] h = isO h a0 4 ((c 37 [.ref a0, .int x1] h).bind fun q1 => rI q1 fun v3 h2 => if v3 = 0 then (ρ 40 [none, none, none] [] h2) else (gfQ h2 a0 4 0 none fun b4 => gfI h2 a0 4 1 fun v5 => if v5 = 0 then (ρ 39 [none, none, none] [.int (x2).toInt8.toInt32, .int x1, .ref b4] h2) else (gfI h2 a0 4 1 fun v6 => if v6 = 1 then (ρ 39 [none, none, none] [.int (x2).toInt16.toInt32, .int x1, .ref b4] h2) else (ρ 39 [none, none, none] [.int x2, .int x1, .ref b4] h2)))) :=
 T1 (x_aload_n H rfl rfl) rfl
 (T1 (x_iload_n H rfl rfl) rfl
 ((x_callZ H rfl [.int x1] rfl rfl rfl rfl).trans (isO_c (bi_c fun q1 => rI_c fun v3 h2 =>
 U1 rfl ((x_if_eq H rfl (t := 40) (by decide)).trans (if_c
 (U2 [none, none, none] rfl rfl)
 (U1 rfl (T1 (x_aload_n H rfl rfl) rfl
 ((x_getR H rfl).trans (gfQ_c rfl fun b4 =>
 U1 rfl (T1 (x_iload_n H rfl rfl) rfl
 (T1 (x_aload_n H rfl rfl) rfl
 ((x_getI H rfl).trans (gfI_c fun v5 =>
 U1 rfl ((x_if_ne H rfl (t := 25) (by decide)).trans (if_c
 (U1 rfl (T1 (x_iload_n H rfl rfl) rfl
 (T1 (x_i2b H rfl) rfl
 (T2 [none, none, none] (x_goto H rfl (t := 39) (by decide)) rfl rfl))))
 (U1 rfl (T1 (x_aload_n H rfl rfl) rfl
 ((x_getI H rfl).trans (gfI_c fun v6 =>
 U1 rfl (T1 (x_iconst H rfl ki_1) rfl
 ((x_icmp_ne H rfl (t := 38) (by decide)).trans (if_c
 (U1 rfl (T1 (x_iload_n H rfl rfl) rfl
 (T1 (x_i2s H rfl) rfl
 (T2 [none, none, none] (x_goto H rfl (t := 39) (by decide)) rfl rfl))))
 (U1 rfl (T2 [none, none, none] (x_iload_n H rfl rfl) rfl rfl)))))))))))))))))))))))))
theorem nd_38_39 {c : Ct} {dd : Bool} {ρ : Kt} (H : St c dd mt_38 ρ) (h : AH) (s0_ : Int32) (s1_ : Int32) (c2_ : Nat) : ρ 39 [none, none, none] [.int s0_, .int s1_, .ref c2_] h = stI h c2_ s1_ s0_ fun h1 => ρ 40 [none, none, none] [] h1 :=
 (x_iastore H rfl).trans (stI_c fun h1 =>
 U2 [none, none, none] rfl rfl)
theorem nd_38_40 {c : Ct} {dd : Bool} {ρ : Kt} (H : St c dd mt_38 ρ) (h : AH)  : ρ 40 [none, none, none] [] h = some (none, h) :=
 x_return H rfl rfl
-- X6_init ()V: 58
theorem nd_58_0 {c : Ct} {dd : Bool} {ρ : Kt} (H : St c dd mt_58 ρ) (hd : dd = true) (h : AH) (a0 : Nat) : ρ 0 [some (.ref a0)] [] h = (c 27 [.ref h.2.1] (hN h (oB 3 (dfl 3)) (dfl 3).length)).bind fun q1 => rV q1 fun h2 => pfV h2 a0 6 0 (.ref h.2.1) fun h3 => pfV h3 a0 6 1 (.null) fun h4 => pfV h4 a0 6 2 (.int 0) fun h5 => pfV h5 a0 6 3 (.int (-4)) fun h6 => some (none, h6) :=
 T1 (x_aload_n H rfl rfl) rfl
 (T1 (x_oinit H rfl (by rw [hd]; rfl)) rfl
 (T1 (x_aload_n H rfl rfl) rfl
 (T1 (x_new H rfl) rfl
 (T1 (x_dup H rfl) rfl
 ((x_init H rfl [] rfl rfl rfl rfl).trans (bi_c fun q1 => rV_c fun h2 =>
 U1 rfl ((x_putR H rfl).trans (pfV_c fun h3 =>
 U1 rfl (T1 (x_aload_n H rfl rfl) rfl
 (T1 (x_null H rfl) rfl
 ((x_putN H rfl).trans (pfV_c fun h4 =>
 U1 rfl (T1 (x_aload_n H rfl rfl) rfl
 (T1 (x_iconst H rfl ki_0) rfl
 ((x_putI H rfl).trans (pfV_c fun h5 =>
 U1 rfl (T1 (x_aload_n H rfl rfl) rfl
 (T1 (x_bipush H rfl kb_m4) rfl
 ((x_putI H rfl).trans (pfV_c fun h6 =>
 U1 rfl (x_return H rfl rfl)))))))))))))))))))))
-- X6_begin (LNameRows$Machine;)V: 59
theorem nd_59_0 {c : Ct} {dd : Bool} {ρ : Kt} (H : St c dd mt_59 ρ) (h : AH) (a0 : Nat) (a1 : Nat) : ρ 0 [some (.ref a0), some (.ref a1)] [] h = pfV h a0 6 1 (.ref a1) fun h1 => gfQ h1 a0 6 0 none fun b2 => isO h1 b2 3 ((c 28 [.ref b2] h1).bind fun q3 => rV q3 fun h4 => pfV h4 a0 6 2 (.int 0) fun h5 => gfQ h5 a0 6 0 none fun b6 => isO h5 b6 3 ((c 32 [.ref b6, .ref a1] h5).bind fun q7 => rI q7 fun v9 h8 => if v9 = 0 then (ρ 35 [none, none] [.int (-4), .ref a0] h8) else (ρ 35 [none, none] [.int 0, .ref a0] h8))) :=
 T1 (x_aload_n H rfl rfl) rfl
 (T1 (x_aload_n H rfl rfl) rfl
 ((x_putR H rfl).trans (pfV_c fun h1 =>
 U1 rfl (T1 (x_aload_n H rfl rfl) rfl
 ((x_getR H rfl).trans (gfQ_c rfl fun b2 =>
 U1 rfl ((x_callV H rfl [] rfl rfl rfl rfl).trans (isO_c (bi_c fun q3 => rV_c fun h4 =>
 U1 rfl (T1 (x_aload_n H rfl rfl) rfl
 (T1 (x_iconst H rfl ki_0) rfl
 ((x_putI H rfl).trans (pfV_c fun h5 =>
 U1 rfl (T1 (x_aload_n H rfl rfl) rfl
 (T1 (x_aload_n H rfl rfl) rfl
 ((x_getR H rfl).trans (gfQ_c rfl fun b6 =>
 U1 rfl (T1 (x_aload_n H rfl rfl) rfl
 ((x_callZ H rfl [.ref a1] rfl rfl rfl rfl).trans (isO_c (bi_c fun q7 => rI_c fun v9 h8 =>
 U1 rfl ((x_if_eq H rfl (t := 33) (by decide)).trans (if_c
 (U1 rfl (T2 [none, none] (x_bipush H rfl kb_m4) rfl rfl))
 (U1 rfl (T1 (x_iconst H rfl ki_0) rfl
 (T2 [none, none] (x_goto H rfl (t := 35) (by decide)) rfl rfl))))))))))))))))))))))))))
theorem nd_59_35 {c : Ct} {dd : Bool} {ρ : Kt} (H : St c dd mt_59 ρ) (h : AH) (s0_ : Int32) (c1_ : Nat) : ρ 35 [none, none] [.int s0_, .ref c1_] h = pfV h c1_ 6 3 (.int s0_) fun h1 => some (none, h1) :=
 (x_putI H rfl).trans (pfV_c fun h1 =>
 U1 rfl (x_return H rfl rfl))
-- X6_isDone ()Z: 60
theorem nd_60_0 {c : Ct} {dd : Bool} {ρ : Kt} (H : St c dd mt_60 ρ) (h : AH) (a0 : Nat) : ρ 0 [some (.ref a0)] [] h = gfI h a0 6 3 fun v1 => if v1 = (-4) then (ρ 14 [none] [.int 0] h) else (ρ 14 [none] [.int 1] h) :=
 T1 (x_aload_n H rfl rfl) rfl
 ((x_getI H rfl).trans (gfI_c fun v1 =>
 U1 rfl (T1 (x_bipush H rfl kb_m4) rfl
 ((x_icmp_eq H rfl (t := 13) (by decide)).trans (if_c
 (U1 rfl (T2 [none] (x_iconst H rfl ki_0) rfl rfl))
 (U1 rfl (T1 (x_iconst H rfl ki_1) rfl
 (T2 [none] (x_goto H rfl (t := 14) (by decide)) rfl rfl))))))))
theorem nd_60_14 {c : Ct} {dd : Bool} {ρ : Kt} (H : St c dd mt_60 ρ) (h : AH) (s0_ : Int32) : ρ 14 [none] [.int s0_] h = isZ s0_ (some (some (.int s0_), h)) :=
 x_zreturn H rfl rfl
-- X6_take (II)I: 61
theorem nd_61_0 {c : Ct} {dd : Bool} {ρ : Kt} (H : St c dd mt_61 ρ) (h : AH) (a0 : Nat) (x1 : Int32) (x2 : Int32) : ρ 0 [some (.ref a0), some (.int x1), some (.int x2)] [] h = isO h a0 6 ((c 60 [.ref a0] h).bind fun q1 => rI q1 fun v3 h2 => if v3 = 0 then (gfQ h2 a0 6 1 (ρ 14 [none, none, none] [] h2) fun b4 => gfQ h2 a0 6 0 none fun b5 => gfQ h2 a0 6 1 (isO h2 b5 3 ((c 29 [.ref b5, .null, .int x1, .int x2] h2).bind fun q7 => rV q7 fun h8 => gfQ h8 a0 6 0 none fun b9 => gfQ h8 a0 6 1 (isO h8 b9 3 ((c 32 [.ref b9, .null] h8).bind fun q11 => rI q11 fun v13 h12 => if v13 = 0 then (gfQ h12 a0 6 1 (gfQ h12 a0 6 0 none fun b15 => gfI h12 b15 3 0 fun v16 => none) fun b14 => gfQ h12 a0 6 0 none fun b17 => gfI h12 b17 3 0 fun v18 => isO h12 b14 0 ((c 7 [.ref b14, .int v18] h12).bind fun q19 => rI q19 fun v21 h20 => if v21 = 0 then (some (some (.int 0), h20)) else (gfI h20 a0 6 2 fun v22 => pfV h20 a0 6 2 (.int (v22 + 1)) fun h23 => some (some (.int 1), h23)))) else (gfQ h12 a0 6 0 none fun b24 => gfI h12 b24 3 4 fun v25 => pfV h12 a0 6 3 (.int v25) fun h26 => some (some (.int (-5)), h26)))) fun b10 => isO h8 b9 3 ((c 32 [.ref b9, .ref b10] h8).bind fun q27 => rI q27 fun v29 h28 => if v29 = 0 then (gfQ h28 a0 6 1 (gfQ h28 a0 6 0 none fun b31 => gfI h28 b31 3 0 fun v32 => none) fun b30 => gfQ h28 a0 6 0 none fun b33 => gfI h28 b33 3 0 fun v34 => isO h28 b30 0 ((c 7 [.ref b30, .int v34] h28).bind fun q35 => rI q35 fun v37 h36 => if v37 = 0 then (some (some (.int 0), h36)) else (gfI h36 a0 6 2 fun v38 => pfV h36 a0 6 2 (.int (v38 + 1)) fun h39 => some (some (.int 1), h39)))) else (gfQ h28 a0 6 0 none fun b40 => gfI h28 b40 3 4 fun v41 => pfV h28 a0 6 3 (.int v41) fun h42 => some (some (.int (-5)), h42))))) fun b6 => isO h2 b5 3 ((c 29 [.ref b5, .ref b6, .int x1, .int x2] h2).bind fun q43 => rV q43 fun h44 => gfQ h44 a0 6 0 none fun b45 => gfQ h44 a0 6 1 (isO h44 b45 3 ((c 32 [.ref b45, .null] h44).bind fun q47 => rI q47 fun v49 h48 => if v49 = 0 then (gfQ h48 a0 6 1 (gfQ h48 a0 6 0 none fun b51 => gfI h48 b51 3 0 fun v52 => none) fun b50 => gfQ h48 a0 6 0 none fun b53 => gfI h48 b53 3 0 fun v54 => isO h48 b50 0 ((c 7 [.ref b50, .int v54] h48).bind fun q55 => rI q55 fun v57 h56 => if v57 = 0 then (some (some (.int 0), h56)) else (gfI h56 a0 6 2 fun v58 => pfV h56 a0 6 2 (.int (v58 + 1)) fun h59 => some (some (.int 1), h59)))) else (gfQ h48 a0 6 0 none fun b60 => gfI h48 b60 3 4 fun v61 => pfV h48 a0 6 3 (.int v61) fun h62 => some (some (.int (-5)), h62)))) fun b46 => isO h44 b45 3 ((c 32 [.ref b45, .ref b46] h44).bind fun q63 => rI q63 fun v65 h64 => if v65 = 0 then (gfQ h64 a0 6 1 (gfQ h64 a0 6 0 none fun b67 => gfI h64 b67 3 0 fun v68 => none) fun b66 => gfQ h64 a0 6 0 none fun b69 => gfI h64 b69 3 0 fun v70 => isO h64 b66 0 ((c 7 [.ref b66, .int v70] h64).bind fun q71 => rI q71 fun v73 h72 => if v73 = 0 then (some (some (.int 0), h72)) else (gfI h72 a0 6 2 fun v74 => pfV h72 a0 6 2 (.int (v74 + 1)) fun h75 => some (some (.int 1), h75)))) else (gfQ h64 a0 6 0 none fun b76 => gfI h64 b76 3 4 fun v77 => pfV h64 a0 6 3 (.int v77) fun h78 => some (some (.int (-5)), h78))))) else (ρ 14 [none, none, none] [] h2)) :=
 T1 (x_aload_n H rfl rfl) rfl
 ((x_callZ H rfl [] rfl rfl rfl rfl).trans (isO_c (bi_c fun q1 => rI_c fun v3 h2 =>
 U1 rfl ((x_if_ne H rfl (t := 14) (by decide)).trans (if_c
 (U1 rfl (T1 (x_aload_n H rfl rfl) rfl
 ((x_getQ H rfl).trans (gfQ_c (U1 rfl (T2 [none, none, none] (x_ifnonnullN H rfl (t := 17) (by decide)) rfl rfl)) fun b4 =>
 U1 rfl (T1 (x_ifnonnull H rfl (t := 17) (by decide)) rfl
 (T1 (x_aload_n H rfl rfl) rfl
 ((x_getR H rfl).trans (gfQ_c rfl fun b5 =>
 U1 rfl (T1 (x_aload_n H rfl rfl) rfl
 ((x_getQ H rfl).trans (gfQ_c (U1 rfl (T1 (x_iload_n H rfl rfl) rfl
 (T1 (x_iload_n H rfl rfl) rfl
 ((x_callV H rfl [.null, .int x1, .int x2] rfl rfl rfl rfl).trans (isO_c (bi_c fun q7 => rV_c fun h8 =>
 U1 rfl (T1 (x_aload_n H rfl rfl) rfl
 ((x_getR H rfl).trans (gfQ_c rfl fun b9 =>
 U1 rfl (T1 (x_aload_n H rfl rfl) rfl
 ((x_getQ H rfl).trans (gfQ_c (U1 rfl ((x_callZ H rfl [.null] rfl rfl rfl rfl).trans (isO_c (bi_c fun q11 => rI_c fun v13 h12 =>
 U1 rfl ((x_if_eq H rfl (t := 58) (by decide)).trans (if_c
 (U1 rfl (T1 (x_aload_n H rfl rfl) rfl
 ((x_getQ H rfl).trans (gfQ_c (U1 rfl (T1 (x_aload_n H rfl rfl) rfl
 ((x_getR H rfl).trans (gfQ_c rfl fun b15 =>
 U1 rfl ((x_getI H rfl).trans (gfI_c fun v16 =>
 U1 rfl ((H 69 _ _ _ _ _ rfl).trans rfl))))))) fun b14 =>
 U1 rfl (T1 (x_aload_n H rfl rfl) rfl
 ((x_getR H rfl).trans (gfQ_c rfl fun b17 =>
 U1 rfl ((x_getI H rfl).trans (gfI_c fun v18 =>
 U1 rfl ((x_callZ H rfl [.int v18] rfl rfl rfl rfl).trans (isO_c (bi_c fun q19 => rI_c fun v21 h20 =>
 U1 rfl ((x_if_ne H rfl (t := 77) (by decide)).trans (if_c
 (U1 rfl (T1 (x_iconst H rfl ki_0) rfl
 (x_ireturn H rfl rfl)))
 (U1 rfl (T1 (x_aload_n H rfl rfl) rfl
 (T1 (x_dup H rfl) rfl
 ((x_getI H rfl).trans (gfI_c fun v22 =>
 U1 rfl (T1 (x_iconst H rfl ki_1) rfl
 (T1 (x_iadd H rfl) rfl
 ((x_putI H rfl).trans (pfV_c fun h23 =>
 U1 rfl (T1 (x_iconst H rfl ki_1) rfl
 (x_ireturn H rfl rfl)))))))))))))))))))))))))
 (U1 rfl (T1 (x_aload_n H rfl rfl) rfl
 (T1 (x_aload_n H rfl rfl) rfl
 ((x_getR H rfl).trans (gfQ_c rfl fun b24 =>
 U1 rfl ((x_getI H rfl).trans (gfI_c fun v25 =>
 U1 rfl ((x_putI H rfl).trans (pfV_c fun h26 =>
 U1 rfl (T1 (x_bipush H rfl kb_m5) rfl
 (x_ireturn H rfl rfl))))))))))))))))) fun b10 =>
 U1 rfl ((x_callZ H rfl [.ref b10] rfl rfl rfl rfl).trans (isO_c (bi_c fun q27 => rI_c fun v29 h28 =>
 U1 rfl ((x_if_eq H rfl (t := 58) (by decide)).trans (if_c
 (U1 rfl (T1 (x_aload_n H rfl rfl) rfl
 ((x_getQ H rfl).trans (gfQ_c (U1 rfl (T1 (x_aload_n H rfl rfl) rfl
 ((x_getR H rfl).trans (gfQ_c rfl fun b31 =>
 U1 rfl ((x_getI H rfl).trans (gfI_c fun v32 =>
 U1 rfl ((H 69 _ _ _ _ _ rfl).trans rfl))))))) fun b30 =>
 U1 rfl (T1 (x_aload_n H rfl rfl) rfl
 ((x_getR H rfl).trans (gfQ_c rfl fun b33 =>
 U1 rfl ((x_getI H rfl).trans (gfI_c fun v34 =>
 U1 rfl ((x_callZ H rfl [.int v34] rfl rfl rfl rfl).trans (isO_c (bi_c fun q35 => rI_c fun v37 h36 =>
 U1 rfl ((x_if_ne H rfl (t := 77) (by decide)).trans (if_c
 (U1 rfl (T1 (x_iconst H rfl ki_0) rfl
 (x_ireturn H rfl rfl)))
 (U1 rfl (T1 (x_aload_n H rfl rfl) rfl
 (T1 (x_dup H rfl) rfl
 ((x_getI H rfl).trans (gfI_c fun v38 =>
 U1 rfl (T1 (x_iconst H rfl ki_1) rfl
 (T1 (x_iadd H rfl) rfl
 ((x_putI H rfl).trans (pfV_c fun h39 =>
 U1 rfl (T1 (x_iconst H rfl ki_1) rfl
 (x_ireturn H rfl rfl)))))))))))))))))))))))))
 (U1 rfl (T1 (x_aload_n H rfl rfl) rfl
 (T1 (x_aload_n H rfl rfl) rfl
 ((x_getR H rfl).trans (gfQ_c rfl fun b40 =>
 U1 rfl ((x_getI H rfl).trans (gfI_c fun v41 =>
 U1 rfl ((x_putI H rfl).trans (pfV_c fun h42 =>
 U1 rfl (T1 (x_bipush H rfl kb_m5) rfl
 (x_ireturn H rfl rfl)))))))))))))))))))))))))))) fun b6 =>
 U1 rfl (T1 (x_iload_n H rfl rfl) rfl
 (T1 (x_iload_n H rfl rfl) rfl
 ((x_callV H rfl [.ref b6, .int x1, .int x2] rfl rfl rfl rfl).trans (isO_c (bi_c fun q43 => rV_c fun h44 =>
 U1 rfl (T1 (x_aload_n H rfl rfl) rfl
 ((x_getR H rfl).trans (gfQ_c rfl fun b45 =>
 U1 rfl (T1 (x_aload_n H rfl rfl) rfl
 ((x_getQ H rfl).trans (gfQ_c (U1 rfl ((x_callZ H rfl [.null] rfl rfl rfl rfl).trans (isO_c (bi_c fun q47 => rI_c fun v49 h48 =>
 U1 rfl ((x_if_eq H rfl (t := 58) (by decide)).trans (if_c
 (U1 rfl (T1 (x_aload_n H rfl rfl) rfl
 ((x_getQ H rfl).trans (gfQ_c (U1 rfl (T1 (x_aload_n H rfl rfl) rfl
 ((x_getR H rfl).trans (gfQ_c rfl fun b51 =>
 U1 rfl ((x_getI H rfl).trans (gfI_c fun v52 =>
 U1 rfl ((H 69 _ _ _ _ _ rfl).trans rfl))))))) fun b50 =>
 U1 rfl (T1 (x_aload_n H rfl rfl) rfl
 ((x_getR H rfl).trans (gfQ_c rfl fun b53 =>
 U1 rfl ((x_getI H rfl).trans (gfI_c fun v54 =>
 U1 rfl ((x_callZ H rfl [.int v54] rfl rfl rfl rfl).trans (isO_c (bi_c fun q55 => rI_c fun v57 h56 =>
 U1 rfl ((x_if_ne H rfl (t := 77) (by decide)).trans (if_c
 (U1 rfl (T1 (x_iconst H rfl ki_0) rfl
 (x_ireturn H rfl rfl)))
 (U1 rfl (T1 (x_aload_n H rfl rfl) rfl
 (T1 (x_dup H rfl) rfl
 ((x_getI H rfl).trans (gfI_c fun v58 =>
 U1 rfl (T1 (x_iconst H rfl ki_1) rfl
 (T1 (x_iadd H rfl) rfl
 ((x_putI H rfl).trans (pfV_c fun h59 =>
 U1 rfl (T1 (x_iconst H rfl ki_1) rfl
 (x_ireturn H rfl rfl)))))))))))))))))))))))))
 (U1 rfl (T1 (x_aload_n H rfl rfl) rfl
 (T1 (x_aload_n H rfl rfl) rfl
 ((x_getR H rfl).trans (gfQ_c rfl fun b60 =>
 U1 rfl ((x_getI H rfl).trans (gfI_c fun v61 =>
 U1 rfl ((x_putI H rfl).trans (pfV_c fun h62 =>
 U1 rfl (T1 (x_bipush H rfl kb_m5) rfl
 (x_ireturn H rfl rfl))))))))))))))))) fun b46 =>
 U1 rfl ((x_callZ H rfl [.ref b46] rfl rfl rfl rfl).trans (isO_c (bi_c fun q63 => rI_c fun v65 h64 =>
 U1 rfl ((x_if_eq H rfl (t := 58) (by decide)).trans (if_c
 (U1 rfl (T1 (x_aload_n H rfl rfl) rfl
 ((x_getQ H rfl).trans (gfQ_c (U1 rfl (T1 (x_aload_n H rfl rfl) rfl
 ((x_getR H rfl).trans (gfQ_c rfl fun b67 =>
 U1 rfl ((x_getI H rfl).trans (gfI_c fun v68 =>
 U1 rfl ((H 69 _ _ _ _ _ rfl).trans rfl))))))) fun b66 =>
 U1 rfl (T1 (x_aload_n H rfl rfl) rfl
 ((x_getR H rfl).trans (gfQ_c rfl fun b69 =>
 U1 rfl ((x_getI H rfl).trans (gfI_c fun v70 =>
 U1 rfl ((x_callZ H rfl [.int v70] rfl rfl rfl rfl).trans (isO_c (bi_c fun q71 => rI_c fun v73 h72 =>
 U1 rfl ((x_if_ne H rfl (t := 77) (by decide)).trans (if_c
 (U1 rfl (T1 (x_iconst H rfl ki_0) rfl
 (x_ireturn H rfl rfl)))
 (U1 rfl (T1 (x_aload_n H rfl rfl) rfl
 (T1 (x_dup H rfl) rfl
 ((x_getI H rfl).trans (gfI_c fun v74 =>
 U1 rfl (T1 (x_iconst H rfl ki_1) rfl
 (T1 (x_iadd H rfl) rfl
 ((x_putI H rfl).trans (pfV_c fun h75 =>
 U1 rfl (T1 (x_iconst H rfl ki_1) rfl
 (x_ireturn H rfl rfl)))))))))))))))))))))))))
 (U1 rfl (T1 (x_aload_n H rfl rfl) rfl
 (T1 (x_aload_n H rfl rfl) rfl
 ((x_getR H rfl).trans (gfQ_c rfl fun b76 =>
 U1 rfl ((x_getI H rfl).trans (gfI_c fun v77 =>
 U1 rfl ((x_putI H rfl).trans (pfV_c fun h78 =>
 U1 rfl (T1 (x_bipush H rfl kb_m5) rfl
 (x_ireturn H rfl rfl))))))))))))))))))))))))))))))))))))))
 (U2 [none, none, none] rfl rfl))))))
theorem nd_61_14 {c : Ct} {dd : Bool} {ρ : Kt} (H : St c dd mt_61 ρ) (h : AH)  : ρ 14 [none, none, none] [] h = some (some (.int (-5)), h) :=
 T1 (x_bipush H rfl kb_m5) rfl
 (x_ireturn H rfl rfl)
end
