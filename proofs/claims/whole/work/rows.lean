section
-- ===== PART A: goes FIRST, ahead of the names: the tables' words, and 'selects' of the private methods out of them =====
/-- a private method of a class that the tables say can be made, by its rows of tables_1 -/
def lw_okq (q : MethodName × Nat) : Prop := (q.1.cls ≠ "java/lang/invoke/MethodHandle" ∧ q.1.cls ≠ "java/lang/invoke/VarHandle") ∧ Cond.instantiable q.1.cls q.2 ∈ tables_1 ∧ Cond.privateMethod q.1 ∈ tables_1 ∧ Cond.instanceMethod q.1 ∈ tables_1
theorem lw_p0 : lw_okq (⟨"CeilingWorkbench$Bench", "removeAll", "()I"⟩, 8) := ⟨⟨by decide +kernel, by decide +kernel⟩, List.mem_of_getElem? (i := 35) (by decide +kernel), List.mem_of_getElem? (i := 278) (by decide +kernel), List.mem_of_getElem? (i := 279) (by decide +kernel)⟩
theorem lw_p1 : lw_okq (⟨"CeilingWorkbench$Bench", "startAgain", "()I"⟩, 8) := ⟨⟨by decide +kernel, by decide +kernel⟩, List.mem_of_getElem? (i := 35) (by decide +kernel), List.mem_of_getElem? (i := 282) (by decide +kernel), List.mem_of_getElem? (i := 283) (by decide +kernel)⟩
theorem lw_p2 : lw_okq (⟨"CeilingWorkbench$Task", "startAgain", "()V"⟩, 15) := ⟨⟨by decide +kernel, by decide +kernel⟩, List.mem_of_getElem? (i := 115) (by decide +kernel), List.mem_of_getElem? (i := 286) (by decide +kernel), List.mem_of_getElem? (i := 287) (by decide +kernel)⟩
theorem lw_p3 : lw_okq (⟨"CeilingWorkbench$Jobs", "removeAll", "()V"⟩, 3) := ⟨⟨by decide +kernel, by decide +kernel⟩, List.mem_of_getElem? (i := 121) (by decide +kernel), List.mem_of_getElem? (i := 290) (by decide +kernel), List.mem_of_getElem? (i := 291) (by decide +kernel)⟩
theorem lw_p4 : lw_okq (⟨"CeilingWorkbench$Server", "startAgain", "()V"⟩, 11) := ⟨⟨by decide +kernel, by decide +kernel⟩, List.mem_of_getElem? (i := 43) (by decide +kernel), List.mem_of_getElem? (i := 294) (by decide +kernel), List.mem_of_getElem? (i := 295) (by decide +kernel)⟩
theorem lw_p5 : lw_okq (⟨"CeilingWorkbench$Requests", "startAgain", "()V"⟩, 5) := ⟨⟨by decide +kernel, by decide +kernel⟩, List.mem_of_getElem? (i := 92) (by decide +kernel), List.mem_of_getElem? (i := 298) (by decide +kernel), List.mem_of_getElem? (i := 299) (by decide +kernel)⟩
theorem lw_p6 : lw_okq (⟨"CeilingWorkbench$Requests", "removeAll", "()V"⟩, 5) := ⟨⟨by decide +kernel, by decide +kernel⟩, List.mem_of_getElem? (i := 92) (by decide +kernel), List.mem_of_getElem? (i := 302) (by decide +kernel), List.mem_of_getElem? (i := 303) (by decide +kernel)⟩
theorem lw_p7 : lw_okq (⟨"CeilingWorkbench$Bench", "copyFrom", "(LCeilingWorkbench$Bench;)V"⟩, 8) := ⟨⟨by decide +kernel, by decide +kernel⟩, List.mem_of_getElem? (i := 35) (by decide +kernel), List.mem_of_getElem? (i := 371) (by decide +kernel), List.mem_of_getElem? (i := 372) (by decide +kernel)⟩
theorem lw_p8 : lw_okq (⟨"CeilingWorkbench$Task", "copyFrom", "(LCeilingWorkbench$Task;)V"⟩, 15) := ⟨⟨by decide +kernel, by decide +kernel⟩, List.mem_of_getElem? (i := 115) (by decide +kernel), List.mem_of_getElem? (i := 375) (by decide +kernel), List.mem_of_getElem? (i := 376) (by decide +kernel)⟩
theorem lw_p9 : lw_okq (⟨"CeilingWorkbench$Jobs", "copyFrom", "(LCeilingWorkbench$Jobs;)V"⟩, 3) := ⟨⟨by decide +kernel, by decide +kernel⟩, List.mem_of_getElem? (i := 121) (by decide +kernel), List.mem_of_getElem? (i := 382) (by decide +kernel), List.mem_of_getElem? (i := 383) (by decide +kernel)⟩
theorem lw_p10 : lw_okq (⟨"CeilingWorkbench$Server", "copyFrom", "(LCeilingWorkbench$Server;)V"⟩, 11) := ⟨⟨by decide +kernel, by decide +kernel⟩, List.mem_of_getElem? (i := 43) (by decide +kernel), List.mem_of_getElem? (i := 387) (by decide +kernel), List.mem_of_getElem? (i := 388) (by decide +kernel)⟩
theorem lw_p11 : lw_okq (⟨"CeilingWorkbench$Requests", "copyFrom", "(LCeilingWorkbench$Requests;)V"⟩, 5) := ⟨⟨by decide +kernel, by decide +kernel⟩, List.mem_of_getElem? (i := 92) (by decide +kernel), List.mem_of_getElem? (i := 392) (by decide +kernel), List.mem_of_getElem? (i := 393) (by decide +kernel)⟩
theorem lw_p12 : lw_okq (⟨"CeilingWorkbench$Bench", "putTask", "(IIII)I"⟩, 8) := ⟨⟨by decide +kernel, by decide +kernel⟩, List.mem_of_getElem? (i := 35) (by decide +kernel), List.mem_of_getElem? (i := 408) (by decide +kernel), List.mem_of_getElem? (i := 409) (by decide +kernel)⟩
theorem lw_p13 : lw_okq (⟨"CeilingWorkbench$Bench", "isPriorityOfTask", "(I)Z"⟩, 8) := ⟨⟨by decide +kernel, by decide +kernel⟩, List.mem_of_getElem? (i := 35) (by decide +kernel), List.mem_of_getElem? (i := 413) (by decide +kernel), List.mem_of_getElem? (i := 414) (by decide +kernel)⟩
theorem lw_p14 : lw_okq (⟨"CeilingWorkbench$Server", "hasPriority", "(I)Z"⟩, 11) := ⟨⟨by decide +kernel, by decide +kernel⟩, List.mem_of_getElem? (i := 43) (by decide +kernel), List.mem_of_getElem? (i := 417) (by decide +kernel), List.mem_of_getElem? (i := 418) (by decide +kernel)⟩
theorem lw_p15 : lw_okq (⟨"CeilingWorkbench$Task", "begin", "(IIII)V"⟩, 15) := ⟨⟨by decide +kernel, by decide +kernel⟩, List.mem_of_getElem? (i := 115) (by decide +kernel), List.mem_of_getElem? (i := 421) (by decide +kernel), List.mem_of_getElem? (i := 422) (by decide +kernel)⟩
def lw_privs_1 : List (MethodName × Nat) := [(⟨"CeilingWorkbench$Bench", "removeAll", "()I"⟩, 8), (⟨"CeilingWorkbench$Bench", "startAgain", "()I"⟩, 8), (⟨"CeilingWorkbench$Task", "startAgain", "()V"⟩, 15), (⟨"CeilingWorkbench$Jobs", "removeAll", "()V"⟩, 3), (⟨"CeilingWorkbench$Server", "startAgain", "()V"⟩, 11), (⟨"CeilingWorkbench$Requests", "startAgain", "()V"⟩, 5), (⟨"CeilingWorkbench$Requests", "removeAll", "()V"⟩, 5), (⟨"CeilingWorkbench$Bench", "copyFrom", "(LCeilingWorkbench$Bench;)V"⟩, 8), (⟨"CeilingWorkbench$Task", "copyFrom", "(LCeilingWorkbench$Task;)V"⟩, 15), (⟨"CeilingWorkbench$Jobs", "copyFrom", "(LCeilingWorkbench$Jobs;)V"⟩, 3), (⟨"CeilingWorkbench$Server", "copyFrom", "(LCeilingWorkbench$Server;)V"⟩, 11), (⟨"CeilingWorkbench$Requests", "copyFrom", "(LCeilingWorkbench$Requests;)V"⟩, 5), (⟨"CeilingWorkbench$Bench", "putTask", "(IIII)I"⟩, 8), (⟨"CeilingWorkbench$Bench", "isPriorityOfTask", "(I)Z"⟩, 8), (⟨"CeilingWorkbench$Server", "hasPriority", "(I)Z"⟩, 11), (⟨"CeilingWorkbench$Task", "begin", "(IIII)V"⟩, 15)]
theorem lw_r1 : ∀ q ∈ lw_privs_1, lw_okq q := List.forall_mem_cons.mpr ⟨lw_p0, List.forall_mem_cons.mpr ⟨lw_p1, List.forall_mem_cons.mpr ⟨lw_p2, List.forall_mem_cons.mpr ⟨lw_p3, List.forall_mem_cons.mpr ⟨lw_p4, List.forall_mem_cons.mpr ⟨lw_p5, List.forall_mem_cons.mpr ⟨lw_p6, List.forall_mem_cons.mpr ⟨lw_p7, List.forall_mem_cons.mpr ⟨lw_p8, List.forall_mem_cons.mpr ⟨lw_p9, List.forall_mem_cons.mpr ⟨lw_p10, List.forall_mem_cons.mpr ⟨lw_p11, List.forall_mem_cons.mpr ⟨lw_p12, List.forall_mem_cons.mpr ⟨lw_p13, List.forall_mem_cons.mpr ⟨lw_p14, List.forall_mem_cons.mpr ⟨lw_p15, fun _ h => absurd h List.not_mem_nil⟩⟩⟩⟩⟩⟩⟩⟩⟩⟩⟩⟩⟩⟩⟩⟩
theorem lw_p16 : lw_okq (⟨"java/lang/Throwable", "fillInStackTrace", "(I)Ljava/lang/Throwable;"⟩, 6) := ⟨⟨by decide +kernel, by decide +kernel⟩, List.mem_of_getElem? (i := 471) (by decide +kernel), List.mem_of_getElem? (i := 469) (by decide +kernel), List.mem_of_getElem? (i := 470) (by decide +kernel)⟩
theorem lw_p17 : lw_okq (⟨"CeilingWorkbench$Bench", "putSegment", "(III)I"⟩, 8) := ⟨⟨by decide +kernel, by decide +kernel⟩, List.mem_of_getElem? (i := 35) (by decide +kernel), List.mem_of_getElem? (i := 577) (by decide +kernel), List.mem_of_getElem? (i := 578) (by decide +kernel)⟩
theorem lw_p18 : lw_okq (⟨"CeilingWorkbench$Bench", "hasTask", "(I)Z"⟩, 8) := ⟨⟨by decide +kernel, by decide +kernel⟩, List.mem_of_getElem? (i := 35) (by decide +kernel), List.mem_of_getElem? (i := 581) (by decide +kernel), List.mem_of_getElem? (i := 582) (by decide +kernel)⟩
theorem lw_p19 : lw_okq (⟨"CeilingWorkbench$Task", "addPart", "(II)V"⟩, 15) := ⟨⟨by decide +kernel, by decide +kernel⟩, List.mem_of_getElem? (i := 115) (by decide +kernel), List.mem_of_getElem? (i := 585) (by decide +kernel), List.mem_of_getElem? (i := 586) (by decide +kernel)⟩
theorem lw_p20 : lw_okq (⟨"CeilingWorkbench$Bench", "putServer", "(III)I"⟩, 8) := ⟨⟨by decide +kernel, by decide +kernel⟩, List.mem_of_getElem? (i := 35) (by decide +kernel), List.mem_of_getElem? (i := 597) (by decide +kernel), List.mem_of_getElem? (i := 598) (by decide +kernel)⟩
theorem lw_p21 : lw_okq (⟨"CeilingWorkbench$Server", "begin", "(III)V"⟩, 11) := ⟨⟨by decide +kernel, by decide +kernel⟩, List.mem_of_getElem? (i := 43) (by decide +kernel), List.mem_of_getElem? (i := 601) (by decide +kernel), List.mem_of_getElem? (i := 602) (by decide +kernel)⟩
theorem lw_p22 : lw_okq (⟨"CeilingWorkbench$Bench", "putRequest", "(II)I"⟩, 8) := ⟨⟨by decide +kernel, by decide +kernel⟩, List.mem_of_getElem? (i := 35) (by decide +kernel), List.mem_of_getElem? (i := 613) (by decide +kernel), List.mem_of_getElem? (i := 614) (by decide +kernel)⟩
theorem lw_p23 : lw_okq (⟨"CeilingWorkbench$Requests", "isFull", "()Z"⟩, 5) := ⟨⟨by decide +kernel, by decide +kernel⟩, List.mem_of_getElem? (i := 92) (by decide +kernel), List.mem_of_getElem? (i := 617) (by decide +kernel), List.mem_of_getElem? (i := 618) (by decide +kernel)⟩
theorem lw_p24 : lw_okq (⟨"CeilingWorkbench$Requests", "add", "(II)I"⟩, 5) := ⟨⟨by decide +kernel, by decide +kernel⟩, List.mem_of_getElem? (i := 92) (by decide +kernel), List.mem_of_getElem? (i := 621) (by decide +kernel), List.mem_of_getElem? (i := 622) (by decide +kernel)⟩
theorem lw_p25 : lw_okq (⟨"CeilingWorkbench$Bench", "putPolicy", "(I)I"⟩, 8) := ⟨⟨by decide +kernel, by decide +kernel⟩, List.mem_of_getElem? (i := 35) (by decide +kernel), List.mem_of_getElem? (i := 633) (by decide +kernel), List.mem_of_getElem? (i := 634) (by decide +kernel)⟩
theorem lw_p26 : lw_okq (⟨"CeilingWorkbench$Reader", "isFull", "()Z"⟩, 5) := ⟨⟨by decide +kernel, by decide +kernel⟩, List.mem_of_getElem? (i := 234) (by decide +kernel), List.mem_of_getElem? (i := 646) (by decide +kernel), List.mem_of_getElem? (i := 647) (by decide +kernel)⟩
theorem lw_p27 : lw_okq (⟨"CeilingWorkbench$Reader", "put", "(C)I"⟩, 5) := ⟨⟨by decide +kernel, by decide +kernel⟩, List.mem_of_getElem? (i := 234) (by decide +kernel), List.mem_of_getElem? (i := 651) (by decide +kernel), List.mem_of_getElem? (i := 652) (by decide +kernel)⟩
theorem lw_p28 : lw_okq (⟨"CeilingWorkbench$Reader", "takeForm", "()I"⟩, 5) := ⟨⟨by decide +kernel, by decide +kernel⟩, List.mem_of_getElem? (i := 234) (by decide +kernel), List.mem_of_getElem? (i := 663) (by decide +kernel), List.mem_of_getElem? (i := 664) (by decide +kernel)⟩
theorem lw_p29 : lw_okq (⟨"CeilingWorkbench$Reader", "fits", "(Ljava/lang/String;)Z"⟩, 5) := ⟨⟨by decide +kernel, by decide +kernel⟩, List.mem_of_getElem? (i := 234) (by decide +kernel), List.mem_of_getElem? (i := 679) (by decide +kernel), List.mem_of_getElem? (i := 680) (by decide +kernel)⟩
theorem lw_p30 : lw_okq (⟨"CeilingWorkbench$Reader", "afterNumber", "(I)I"⟩, 5) := ⟨⟨by decide +kernel, by decide +kernel⟩, List.mem_of_getElem? (i := 234) (by decide +kernel), List.mem_of_getElem? (i := 731) (by decide +kernel), List.mem_of_getElem? (i := 732) (by decide +kernel)⟩
theorem lw_p31 : lw_okq (⟨"CeilingWorkbench$Reader", "afterSign", "(IC)I"⟩, 5) := ⟨⟨by decide +kernel, by decide +kernel⟩, List.mem_of_getElem? (i := 234) (by decide +kernel), List.mem_of_getElem? (i := 736) (by decide +kernel), List.mem_of_getElem? (i := 737) (by decide +kernel)⟩
def lw_privs_2 : List (MethodName × Nat) := [(⟨"java/lang/Throwable", "fillInStackTrace", "(I)Ljava/lang/Throwable;"⟩, 6), (⟨"CeilingWorkbench$Bench", "putSegment", "(III)I"⟩, 8), (⟨"CeilingWorkbench$Bench", "hasTask", "(I)Z"⟩, 8), (⟨"CeilingWorkbench$Task", "addPart", "(II)V"⟩, 15), (⟨"CeilingWorkbench$Bench", "putServer", "(III)I"⟩, 8), (⟨"CeilingWorkbench$Server", "begin", "(III)V"⟩, 11), (⟨"CeilingWorkbench$Bench", "putRequest", "(II)I"⟩, 8), (⟨"CeilingWorkbench$Requests", "isFull", "()Z"⟩, 5), (⟨"CeilingWorkbench$Requests", "add", "(II)I"⟩, 5), (⟨"CeilingWorkbench$Bench", "putPolicy", "(I)I"⟩, 8), (⟨"CeilingWorkbench$Reader", "isFull", "()Z"⟩, 5), (⟨"CeilingWorkbench$Reader", "put", "(C)I"⟩, 5), (⟨"CeilingWorkbench$Reader", "takeForm", "()I"⟩, 5), (⟨"CeilingWorkbench$Reader", "fits", "(Ljava/lang/String;)Z"⟩, 5), (⟨"CeilingWorkbench$Reader", "afterNumber", "(I)I"⟩, 5), (⟨"CeilingWorkbench$Reader", "afterSign", "(IC)I"⟩, 5)]
theorem lw_r2 : ∀ q ∈ lw_privs_2, lw_okq q := List.forall_mem_cons.mpr ⟨lw_p16, List.forall_mem_cons.mpr ⟨lw_p17, List.forall_mem_cons.mpr ⟨lw_p18, List.forall_mem_cons.mpr ⟨lw_p19, List.forall_mem_cons.mpr ⟨lw_p20, List.forall_mem_cons.mpr ⟨lw_p21, List.forall_mem_cons.mpr ⟨lw_p22, List.forall_mem_cons.mpr ⟨lw_p23, List.forall_mem_cons.mpr ⟨lw_p24, List.forall_mem_cons.mpr ⟨lw_p25, List.forall_mem_cons.mpr ⟨lw_p26, List.forall_mem_cons.mpr ⟨lw_p27, List.forall_mem_cons.mpr ⟨lw_p28, List.forall_mem_cons.mpr ⟨lw_p29, List.forall_mem_cons.mpr ⟨lw_p30, List.forall_mem_cons.mpr ⟨lw_p31, fun _ h => absurd h List.not_mem_nil⟩⟩⟩⟩⟩⟩⟩⟩⟩⟩⟩⟩⟩⟩⟩⟩
theorem lw_p32 : lw_okq (⟨"CeilingWorkbench", "perform", "(I)I"⟩, 5) := ⟨⟨by decide +kernel, by decide +kernel⟩, List.mem_of_getElem? (i := 27) (by decide +kernel), List.mem_of_getElem? (i := 742) (by decide +kernel), List.mem_of_getElem? (i := 743) (by decide +kernel)⟩
theorem lw_p33 : lw_okq (⟨"CeilingWorkbench$Reader", "number", "(I)I"⟩, 5) := ⟨⟨by decide +kernel, by decide +kernel⟩, List.mem_of_getElem? (i := 234) (by decide +kernel), List.mem_of_getElem? (i := 746) (by decide +kernel), List.mem_of_getElem? (i := 747) (by decide +kernel)⟩
theorem lw_p34 : lw_okq (⟨"CeilingWorkbench", "taskAt", "(I)LCeilingWorkbench$Task;"⟩, 5) := ⟨⟨by decide +kernel, by decide +kernel⟩, List.mem_of_getElem? (i := 27) (by decide +kernel), List.mem_of_getElem? (i := 782) (by decide +kernel), List.mem_of_getElem? (i := 783) (by decide +kernel)⟩
theorem lw_p35 : lw_okq (⟨"CeilingWorkbench$Task", "property", "(I)I"⟩, 15) := ⟨⟨by decide +kernel, by decide +kernel⟩, List.mem_of_getElem? (i := 115) (by decide +kernel), List.mem_of_getElem? (i := 788) (by decide +kernel), List.mem_of_getElem? (i := 789) (by decide +kernel)⟩
theorem lw_p36 : lw_okq (⟨"CeilingWorkbench", "taskWithSegments", "(I)LCeilingWorkbench$Task;"⟩, 5) := ⟨⟨by decide +kernel, by decide +kernel⟩, List.mem_of_getElem? (i := 27) (by decide +kernel), List.mem_of_getElem? (i := 818) (by decide +kernel), List.mem_of_getElem? (i := 819) (by decide +kernel)⟩
theorem lw_p37 : lw_okq (⟨"CeilingWorkbench$Bench", "makeUnits", "(I)I"⟩, 8) := ⟨⟨by decide +kernel, by decide +kernel⟩, List.mem_of_getElem? (i := 35) (by decide +kernel), List.mem_of_getElem? (i := 853) (by decide +kernel), List.mem_of_getElem? (i := 854) (by decide +kernel)⟩
theorem lw_p38 : lw_okq (⟨"CeilingWorkbench$Bench", "makeUnit", "()I"⟩, 8) := ⟨⟨by decide +kernel, by decide +kernel⟩, List.mem_of_getElem? (i := 35) (by decide +kernel), List.mem_of_getElem? (i := 857) (by decide +kernel), List.mem_of_getElem? (i := 858) (by decide +kernel)⟩
theorem lw_p39 : lw_okq (⟨"CeilingWorkbench$Server", "replenishAt", "(I)V"⟩, 11) := ⟨⟨by decide +kernel, by decide +kernel⟩, List.mem_of_getElem? (i := 43) (by decide +kernel), List.mem_of_getElem? (i := 861) (by decide +kernel), List.mem_of_getElem? (i := 862) (by decide +kernel)⟩
theorem lw_p40 : lw_okq (⟨"CeilingWorkbench$Task", "releaseAt", "(I)V"⟩, 15) := ⟨⟨by decide +kernel, by decide +kernel⟩, List.mem_of_getElem? (i := 115) (by decide +kernel), List.mem_of_getElem? (i := 865) (by decide +kernel), List.mem_of_getElem? (i := 866) (by decide +kernel)⟩
theorem lw_p41 : lw_okq (⟨"CeilingWorkbench$Jobs", "add", "(I)V"⟩, 3) := ⟨⟨by decide +kernel, by decide +kernel⟩, List.mem_of_getElem? (i := 121) (by decide +kernel), List.mem_of_getElem? (i := 869) (by decide +kernel), List.mem_of_getElem? (i := 870) (by decide +kernel)⟩
theorem lw_p42 : lw_okq (⟨"CeilingWorkbench$Task", "missAt", "(II)V"⟩, 15) := ⟨⟨by decide +kernel, by decide +kernel⟩, List.mem_of_getElem? (i := 115) (by decide +kernel), List.mem_of_getElem? (i := 873) (by decide +kernel), List.mem_of_getElem? (i := 874) (by decide +kernel)⟩
theorem lw_p43 : lw_okq (⟨"CeilingWorkbench$Jobs", "placeOf", "(I)I"⟩, 3) := ⟨⟨by decide +kernel, by decide +kernel⟩, List.mem_of_getElem? (i := 121) (by decide +kernel), List.mem_of_getElem? (i := 877) (by decide +kernel), List.mem_of_getElem? (i := 878) (by decide +kernel)⟩
theorem lw_p44 : lw_okq (⟨"CeilingWorkbench$Task", "removeJob", "(I)V"⟩, 15) := ⟨⟨by decide +kernel, by decide +kernel⟩, List.mem_of_getElem? (i := 115) (by decide +kernel), List.mem_of_getElem? (i := 881) (by decide +kernel), List.mem_of_getElem? (i := 882) (by decide +kernel)⟩
theorem lw_p45 : lw_okq (⟨"CeilingWorkbench$Jobs", "removeAt", "(I)V"⟩, 3) := ⟨⟨by decide +kernel, by decide +kernel⟩, List.mem_of_getElem? (i := 121) (by decide +kernel), List.mem_of_getElem? (i := 885) (by decide +kernel), List.mem_of_getElem? (i := 886) (by decide +kernel)⟩
theorem lw_p46 : lw_okq (⟨"CeilingWorkbench$Jobs", "size", "()I"⟩, 3) := ⟨⟨by decide +kernel, by decide +kernel⟩, List.mem_of_getElem? (i := 121) (by decide +kernel), List.mem_of_getElem? (i := 889) (by decide +kernel), List.mem_of_getElem? (i := 890) (by decide +kernel)⟩
theorem lw_p47 : lw_okq (⟨"CeilingWorkbench$Requests", "nextToServe", "(I)I"⟩, 5) := ⟨⟨by decide +kernel, by decide +kernel⟩, List.mem_of_getElem? (i := 92) (by decide +kernel), List.mem_of_getElem? (i := 894) (by decide +kernel), List.mem_of_getElem? (i := 895) (by decide +kernel)⟩
def lw_privs_3 : List (MethodName × Nat) := [(⟨"CeilingWorkbench", "perform", "(I)I"⟩, 5), (⟨"CeilingWorkbench$Reader", "number", "(I)I"⟩, 5), (⟨"CeilingWorkbench", "taskAt", "(I)LCeilingWorkbench$Task;"⟩, 5), (⟨"CeilingWorkbench$Task", "property", "(I)I"⟩, 15), (⟨"CeilingWorkbench", "taskWithSegments", "(I)LCeilingWorkbench$Task;"⟩, 5), (⟨"CeilingWorkbench$Bench", "makeUnits", "(I)I"⟩, 8), (⟨"CeilingWorkbench$Bench", "makeUnit", "()I"⟩, 8), (⟨"CeilingWorkbench$Server", "replenishAt", "(I)V"⟩, 11), (⟨"CeilingWorkbench$Task", "releaseAt", "(I)V"⟩, 15), (⟨"CeilingWorkbench$Jobs", "add", "(I)V"⟩, 3), (⟨"CeilingWorkbench$Task", "missAt", "(II)V"⟩, 15), (⟨"CeilingWorkbench$Jobs", "placeOf", "(I)I"⟩, 3), (⟨"CeilingWorkbench$Task", "removeJob", "(I)V"⟩, 15), (⟨"CeilingWorkbench$Jobs", "removeAt", "(I)V"⟩, 3), (⟨"CeilingWorkbench$Jobs", "size", "()I"⟩, 3), (⟨"CeilingWorkbench$Requests", "nextToServe", "(I)I"⟩, 5)]
theorem lw_r3 : ∀ q ∈ lw_privs_3, lw_okq q := List.forall_mem_cons.mpr ⟨lw_p32, List.forall_mem_cons.mpr ⟨lw_p33, List.forall_mem_cons.mpr ⟨lw_p34, List.forall_mem_cons.mpr ⟨lw_p35, List.forall_mem_cons.mpr ⟨lw_p36, List.forall_mem_cons.mpr ⟨lw_p37, List.forall_mem_cons.mpr ⟨lw_p38, List.forall_mem_cons.mpr ⟨lw_p39, List.forall_mem_cons.mpr ⟨lw_p40, List.forall_mem_cons.mpr ⟨lw_p41, List.forall_mem_cons.mpr ⟨lw_p42, List.forall_mem_cons.mpr ⟨lw_p43, List.forall_mem_cons.mpr ⟨lw_p44, List.forall_mem_cons.mpr ⟨lw_p45, List.forall_mem_cons.mpr ⟨lw_p46, List.forall_mem_cons.mpr ⟨lw_p47, fun _ h => absurd h List.not_mem_nil⟩⟩⟩⟩⟩⟩⟩⟩⟩⟩⟩⟩⟩⟩⟩⟩
theorem lw_p48 : lw_okq (⟨"CeilingWorkbench$Server", "isReady", "(Z)Z"⟩, 11) := ⟨⟨by decide +kernel, by decide +kernel⟩, List.mem_of_getElem? (i := 43) (by decide +kernel), List.mem_of_getElem? (i := 898) (by decide +kernel), List.mem_of_getElem? (i := 899) (by decide +kernel)⟩
theorem lw_p49 : lw_okq (⟨"CeilingWorkbench$Bench", "mostUrgent", "(Z)I"⟩, 8) := ⟨⟨by decide +kernel, by decide +kernel⟩, List.mem_of_getElem? (i := 35) (by decide +kernel), List.mem_of_getElem? (i := 902) (by decide +kernel), List.mem_of_getElem? (i := 903) (by decide +kernel)⟩
theorem lw_p50 : lw_okq (⟨"CeilingWorkbench$Jobs", "isEmpty", "()Z"⟩, 3) := ⟨⟨by decide +kernel, by decide +kernel⟩, List.mem_of_getElem? (i := 121) (by decide +kernel), List.mem_of_getElem? (i := 906) (by decide +kernel), List.mem_of_getElem? (i := 907) (by decide +kernel)⟩
theorem lw_p51 : lw_okq (⟨"CeilingWorkbench$Bench", "urgencyOf", "(LCeilingWorkbench$Task;)I"⟩, 8) := ⟨⟨by decide +kernel, by decide +kernel⟩, List.mem_of_getElem? (i := 35) (by decide +kernel), List.mem_of_getElem? (i := 910) (by decide +kernel), List.mem_of_getElem? (i := 911) (by decide +kernel)⟩
theorem lw_p52 : lw_okq (⟨"CeilingWorkbench$Task", "heldResource", "()I"⟩, 15) := ⟨⟨by decide +kernel, by decide +kernel⟩, List.mem_of_getElem? (i := 115) (by decide +kernel), List.mem_of_getElem? (i := 914) (by decide +kernel), List.mem_of_getElem? (i := 915) (by decide +kernel)⟩
theorem lw_p53 : lw_okq (⟨"CeilingWorkbench$Bench", "notePreemption", "(I)V"⟩, 8) := ⟨⟨by decide +kernel, by decide +kernel⟩, List.mem_of_getElem? (i := 35) (by decide +kernel), List.mem_of_getElem? (i := 918) (by decide +kernel), List.mem_of_getElem? (i := 919) (by decide +kernel)⟩
theorem lw_p54 : lw_okq (⟨"CeilingWorkbench$Task", "hasStartedJob", "()Z"⟩, 15) := ⟨⟨by decide +kernel, by decide +kernel⟩, List.mem_of_getElem? (i := 115) (by decide +kernel), List.mem_of_getElem? (i := 922) (by decide +kernel), List.mem_of_getElem? (i := 923) (by decide +kernel)⟩
theorem lw_p55 : lw_okq (⟨"CeilingWorkbench$Server", "runUnit", "(I)V"⟩, 11) := ⟨⟨by decide +kernel, by decide +kernel⟩, List.mem_of_getElem? (i := 43) (by decide +kernel), List.mem_of_getElem? (i := 926) (by decide +kernel), List.mem_of_getElem? (i := 927) (by decide +kernel)⟩
theorem lw_p56 : lw_okq (⟨"CeilingWorkbench$Requests", "serve", "(II)V"⟩, 5) := ⟨⟨by decide +kernel, by decide +kernel⟩, List.mem_of_getElem? (i := 92) (by decide +kernel), List.mem_of_getElem? (i := 930) (by decide +kernel), List.mem_of_getElem? (i := 931) (by decide +kernel)⟩
theorem lw_p57 : lw_okq (⟨"CeilingWorkbench$Task", "runUnit", "(I)Z"⟩, 15) := ⟨⟨by decide +kernel, by decide +kernel⟩, List.mem_of_getElem? (i := 115) (by decide +kernel), List.mem_of_getElem? (i := 935) (by decide +kernel), List.mem_of_getElem? (i := 936) (by decide +kernel)⟩
theorem lw_p58 : lw_okq (⟨"CeilingWorkbench$Jobs", "firstRelease", "()I"⟩, 3) := ⟨⟨by decide +kernel, by decide +kernel⟩, List.mem_of_getElem? (i := 121) (by decide +kernel), List.mem_of_getElem? (i := 939) (by decide +kernel), List.mem_of_getElem? (i := 940) (by decide +kernel)⟩
theorem lw_p59 : lw_okq (⟨"CeilingWorkbench$Task", "finishJob", "(I)V"⟩, 15) := ⟨⟨by decide +kernel, by decide +kernel⟩, List.mem_of_getElem? (i := 115) (by decide +kernel), List.mem_of_getElem? (i := 943) (by decide +kernel), List.mem_of_getElem? (i := 944) (by decide +kernel)⟩
theorem lw_p60 : lw_okq (⟨"CeilingWorkbench$Jobs", "removeFirst", "()V"⟩, 3) := ⟨⟨by decide +kernel, by decide +kernel⟩, List.mem_of_getElem? (i := 121) (by decide +kernel), List.mem_of_getElem? (i := 947) (by decide +kernel), List.mem_of_getElem? (i := 948) (by decide +kernel)⟩
theorem lw_p61 : lw_okq (⟨"CeilingWorkbench$Server", "endUnit", "(IZ)V"⟩, 11) := ⟨⟨by decide +kernel, by decide +kernel⟩, List.mem_of_getElem? (i := 43) (by decide +kernel), List.mem_of_getElem? (i := 952) (by decide +kernel), List.mem_of_getElem? (i := 953) (by decide +kernel)⟩
theorem lw_p62 : lw_okq (⟨"CeilingWorkbench$Bench", "holderOf", "(I)I"⟩, 8) := ⟨⟨by decide +kernel, by decide +kernel⟩, List.mem_of_getElem? (i := 35) (by decide +kernel), List.mem_of_getElem? (i := 991) (by decide +kernel), List.mem_of_getElem? (i := 992) (by decide +kernel)⟩
theorem lw_p63 : lw_okq (⟨"CeilingWorkbench", "presentServer", "()LCeilingWorkbench$Server;"⟩, 5) := ⟨⟨by decide +kernel, by decide +kernel⟩, List.mem_of_getElem? (i := 27) (by decide +kernel), List.mem_of_getElem? (i := 1034) (by decide +kernel), List.mem_of_getElem? (i := 1035) (by decide +kernel)⟩
def lw_privs_4 : List (MethodName × Nat) := [(⟨"CeilingWorkbench$Server", "isReady", "(Z)Z"⟩, 11), (⟨"CeilingWorkbench$Bench", "mostUrgent", "(Z)I"⟩, 8), (⟨"CeilingWorkbench$Jobs", "isEmpty", "()Z"⟩, 3), (⟨"CeilingWorkbench$Bench", "urgencyOf", "(LCeilingWorkbench$Task;)I"⟩, 8), (⟨"CeilingWorkbench$Task", "heldResource", "()I"⟩, 15), (⟨"CeilingWorkbench$Bench", "notePreemption", "(I)V"⟩, 8), (⟨"CeilingWorkbench$Task", "hasStartedJob", "()Z"⟩, 15), (⟨"CeilingWorkbench$Server", "runUnit", "(I)V"⟩, 11), (⟨"CeilingWorkbench$Requests", "serve", "(II)V"⟩, 5), (⟨"CeilingWorkbench$Task", "runUnit", "(I)Z"⟩, 15), (⟨"CeilingWorkbench$Jobs", "firstRelease", "()I"⟩, 3), (⟨"CeilingWorkbench$Task", "finishJob", "(I)V"⟩, 15), (⟨"CeilingWorkbench$Jobs", "removeFirst", "()V"⟩, 3), (⟨"CeilingWorkbench$Server", "endUnit", "(IZ)V"⟩, 11), (⟨"CeilingWorkbench$Bench", "holderOf", "(I)I"⟩, 8), (⟨"CeilingWorkbench", "presentServer", "()LCeilingWorkbench$Server;"⟩, 5)]
theorem lw_r4 : ∀ q ∈ lw_privs_4, lw_okq q := List.forall_mem_cons.mpr ⟨lw_p48, List.forall_mem_cons.mpr ⟨lw_p49, List.forall_mem_cons.mpr ⟨lw_p50, List.forall_mem_cons.mpr ⟨lw_p51, List.forall_mem_cons.mpr ⟨lw_p52, List.forall_mem_cons.mpr ⟨lw_p53, List.forall_mem_cons.mpr ⟨lw_p54, List.forall_mem_cons.mpr ⟨lw_p55, List.forall_mem_cons.mpr ⟨lw_p56, List.forall_mem_cons.mpr ⟨lw_p57, List.forall_mem_cons.mpr ⟨lw_p58, List.forall_mem_cons.mpr ⟨lw_p59, List.forall_mem_cons.mpr ⟨lw_p60, List.forall_mem_cons.mpr ⟨lw_p61, List.forall_mem_cons.mpr ⟨lw_p62, List.forall_mem_cons.mpr ⟨lw_p63, fun _ h => absurd h List.not_mem_nil⟩⟩⟩⟩⟩⟩⟩⟩⟩⟩⟩⟩⟩⟩⟩⟩
theorem lw_p64 : lw_okq (⟨"CeilingWorkbench$Server", "nextPlan", "()I"⟩, 11) := ⟨⟨by decide +kernel, by decide +kernel⟩, List.mem_of_getElem? (i := 43) (by decide +kernel), List.mem_of_getElem? (i := 1046) (by decide +kernel), List.mem_of_getElem? (i := 1047) (by decide +kernel)⟩
theorem lw_p65 : lw_okq (⟨"CeilingWorkbench$Bench", "usedUnits", "()I"⟩, 8) := ⟨⟨by decide +kernel, by decide +kernel⟩, List.mem_of_getElem? (i := 35) (by decide +kernel), List.mem_of_getElem? (i := 1067) (by decide +kernel), List.mem_of_getElem? (i := 1068) (by decide +kernel)⟩
theorem lw_p66 : lw_okq (⟨"CeilingWorkbenchModel", "restart", "()V"⟩, 38) := ⟨⟨by decide +kernel, by decide +kernel⟩, List.mem_of_getElem? (i := 1079) (by decide +kernel), List.mem_of_getElem? (i := 1208) (by decide +kernel), List.mem_of_getElem? (i := 1209) (by decide +kernel)⟩
theorem lw_p67 : lw_okq (⟨"CeilingWorkbenchModel", "fail", "(I)I"⟩, 38) := ⟨⟨by decide +kernel, by decide +kernel⟩, List.mem_of_getElem? (i := 1079) (by decide +kernel), List.mem_of_getElem? (i := 1219) (by decide +kernel), List.mem_of_getElem? (i := 1220) (by decide +kernel)⟩
theorem lw_p68 : lw_okq (⟨"CeilingWorkbenchModel", "isTaken", "(I)Z"⟩, 38) := ⟨⟨by decide +kernel, by decide +kernel⟩, List.mem_of_getElem? (i := 1079) (by decide +kernel), List.mem_of_getElem? (i := 1223) (by decide +kernel), List.mem_of_getElem? (i := 1224) (by decide +kernel)⟩
theorem lw_p69 : lw_okq (⟨"CeilingWorkbenchModel", "priorityOf", "(I)I"⟩, 38) := ⟨⟨by decide +kernel, by decide +kernel⟩, List.mem_of_getElem? (i := 1079) (by decide +kernel), List.mem_of_getElem? (i := 1227) (by decide +kernel), List.mem_of_getElem? (i := 1228) (by decide +kernel)⟩
theorem lw_p70 : lw_okq (⟨"CeilingWorkbenchModel", "isTask", "(I)Z"⟩, 38) := ⟨⟨by decide +kernel, by decide +kernel⟩, List.mem_of_getElem? (i := 1079) (by decide +kernel), List.mem_of_getElem? (i := 1235) (by decide +kernel), List.mem_of_getElem? (i := 1236) (by decide +kernel)⟩
theorem lw_p71 : lw_okq (⟨"CeilingWorkbenchModel", "hasServer", "()Z"⟩, 38) := ⟨⟨by decide +kernel, by decide +kernel⟩, List.mem_of_getElem? (i := 1079) (by decide +kernel), List.mem_of_getElem? (i := 1243) (by decide +kernel), List.mem_of_getElem? (i := 1244) (by decide +kernel)⟩
theorem lw_p72 : lw_okq (⟨"CeilingWorkbenchModel", "demandOf", "(I)I"⟩, 38) := ⟨⟨by decide +kernel, by decide +kernel⟩, List.mem_of_getElem? (i := 1079) (by decide +kernel), List.mem_of_getElem? (i := 1263) (by decide +kernel), List.mem_of_getElem? (i := 1264) (by decide +kernel)⟩
theorem lw_p73 : lw_okq (⟨"CeilingWorkbenchModel", "lengthAt", "(II)I"⟩, 38) := ⟨⟨by decide +kernel, by decide +kernel⟩, List.mem_of_getElem? (i := 1079) (by decide +kernel), List.mem_of_getElem? (i := 1267) (by decide +kernel), List.mem_of_getElem? (i := 1268) (by decide +kernel)⟩
theorem lw_p74 : lw_okq (⟨"CeilingWorkbenchModel", "ceilingOf", "(I)I"⟩, 38) := ⟨⟨by decide +kernel, by decide +kernel⟩, List.mem_of_getElem? (i := 1079) (by decide +kernel), List.mem_of_getElem? (i := 1275) (by decide +kernel), List.mem_of_getElem? (i := 1276) (by decide +kernel)⟩
theorem lw_p75 : lw_okq (⟨"CeilingWorkbenchModel", "resourceAt", "(II)I"⟩, 38) := ⟨⟨by decide +kernel, by decide +kernel⟩, List.mem_of_getElem? (i := 1079) (by decide +kernel), List.mem_of_getElem? (i := 1279) (by decide +kernel), List.mem_of_getElem? (i := 1280) (by decide +kernel)⟩
theorem lw_p76 : lw_okq (⟨"CeilingWorkbenchModel", "blockingOf", "(I)I"⟩, 38) := ⟨⟨by decide +kernel, by decide +kernel⟩, List.mem_of_getElem? (i := 1079) (by decide +kernel), List.mem_of_getElem? (i := 1288) (by decide +kernel), List.mem_of_getElem? (i := 1289) (by decide +kernel)⟩
theorem lw_p77 : lw_okq (⟨"CeilingWorkbenchModel", "boundOf", "(I)I"⟩, 38) := ⟨⟨by decide +kernel, by decide +kernel⟩, List.mem_of_getElem? (i := 1079) (by decide +kernel), List.mem_of_getElem? (i := 1296) (by decide +kernel), List.mem_of_getElem? (i := 1297) (by decide +kernel)⟩
theorem lw_p78 : lw_okq (⟨"CeilingWorkbenchModel", "workUpTo", "(II)I"⟩, 38) := ⟨⟨by decide +kernel, by decide +kernel⟩, List.mem_of_getElem? (i := 1079) (by decide +kernel), List.mem_of_getElem? (i := 1300) (by decide +kernel), List.mem_of_getElem? (i := 1301) (by decide +kernel)⟩
theorem lw_p79 : lw_okq (⟨"CeilingWorkbenchModel", "periodOf", "(I)I"⟩, 38) := ⟨⟨by decide +kernel, by decide +kernel⟩, List.mem_of_getElem? (i := 1079) (by decide +kernel), List.mem_of_getElem? (i := 1304) (by decide +kernel), List.mem_of_getElem? (i := 1305) (by decide +kernel)⟩
def lw_privs_5 : List (MethodName × Nat) := [(⟨"CeilingWorkbench$Server", "nextPlan", "()I"⟩, 11), (⟨"CeilingWorkbench$Bench", "usedUnits", "()I"⟩, 8), (⟨"CeilingWorkbenchModel", "restart", "()V"⟩, 38), (⟨"CeilingWorkbenchModel", "fail", "(I)I"⟩, 38), (⟨"CeilingWorkbenchModel", "isTaken", "(I)Z"⟩, 38), (⟨"CeilingWorkbenchModel", "priorityOf", "(I)I"⟩, 38), (⟨"CeilingWorkbenchModel", "isTask", "(I)Z"⟩, 38), (⟨"CeilingWorkbenchModel", "hasServer", "()Z"⟩, 38), (⟨"CeilingWorkbenchModel", "demandOf", "(I)I"⟩, 38), (⟨"CeilingWorkbenchModel", "lengthAt", "(II)I"⟩, 38), (⟨"CeilingWorkbenchModel", "ceilingOf", "(I)I"⟩, 38), (⟨"CeilingWorkbenchModel", "resourceAt", "(II)I"⟩, 38), (⟨"CeilingWorkbenchModel", "blockingOf", "(I)I"⟩, 38), (⟨"CeilingWorkbenchModel", "boundOf", "(I)I"⟩, 38), (⟨"CeilingWorkbenchModel", "workUpTo", "(II)I"⟩, 38), (⟨"CeilingWorkbenchModel", "periodOf", "(I)I"⟩, 38)]
theorem lw_r5 : ∀ q ∈ lw_privs_5, lw_okq q := List.forall_mem_cons.mpr ⟨lw_p64, List.forall_mem_cons.mpr ⟨lw_p65, List.forall_mem_cons.mpr ⟨lw_p66, List.forall_mem_cons.mpr ⟨lw_p67, List.forall_mem_cons.mpr ⟨lw_p68, List.forall_mem_cons.mpr ⟨lw_p69, List.forall_mem_cons.mpr ⟨lw_p70, List.forall_mem_cons.mpr ⟨lw_p71, List.forall_mem_cons.mpr ⟨lw_p72, List.forall_mem_cons.mpr ⟨lw_p73, List.forall_mem_cons.mpr ⟨lw_p74, List.forall_mem_cons.mpr ⟨lw_p75, List.forall_mem_cons.mpr ⟨lw_p76, List.forall_mem_cons.mpr ⟨lw_p77, List.forall_mem_cons.mpr ⟨lw_p78, List.forall_mem_cons.mpr ⟨lw_p79, fun _ h => absurd h List.not_mem_nil⟩⟩⟩⟩⟩⟩⟩⟩⟩⟩⟩⟩⟩⟩⟩⟩
theorem lw_p80 : lw_okq (⟨"CeilingWorkbenchModel", "comes", "(II)I"⟩, 38) := ⟨⟨by decide +kernel, by decide +kernel⟩, List.mem_of_getElem? (i := 1079) (by decide +kernel), List.mem_of_getElem? (i := 1315) (by decide +kernel), List.mem_of_getElem? (i := 1316) (by decide +kernel)⟩
theorem lw_p81 : lw_okq (⟨"CeilingWorkbenchModel", "makeUnit", "()I"⟩, 38) := ⟨⟨by decide +kernel, by decide +kernel⟩, List.mem_of_getElem? (i := 1079) (by decide +kernel), List.mem_of_getElem? (i := 1335) (by decide +kernel), List.mem_of_getElem? (i := 1336) (by decide +kernel)⟩
theorem lw_p82 : lw_okq (⟨"CeilingWorkbenchModel", "takeReplenishments", "()V"⟩, 38) := ⟨⟨by decide +kernel, by decide +kernel⟩, List.mem_of_getElem? (i := 1079) (by decide +kernel), List.mem_of_getElem? (i := 1339) (by decide +kernel), List.mem_of_getElem? (i := 1340) (by decide +kernel)⟩
theorem lw_p83 : lw_okq (⟨"CeilingWorkbenchModel", "release", "()V"⟩, 38) := ⟨⟨by decide +kernel, by decide +kernel⟩, List.mem_of_getElem? (i := 1079) (by decide +kernel), List.mem_of_getElem? (i := 1343) (by decide +kernel), List.mem_of_getElem? (i := 1344) (by decide +kernel)⟩
theorem lw_p84 : lw_okq (⟨"CeilingWorkbenchModel", "meetDeadlines", "()V"⟩, 38) := ⟨⟨by decide +kernel, by decide +kernel⟩, List.mem_of_getElem? (i := 1079) (by decide +kernel), List.mem_of_getElem? (i := 1347) (by decide +kernel), List.mem_of_getElem? (i := 1348) (by decide +kernel)⟩
theorem lw_p85 : lw_okq (⟨"CeilingWorkbenchModel", "takeJob", "(II)V"⟩, 38) := ⟨⟨by decide +kernel, by decide +kernel⟩, List.mem_of_getElem? (i := 1079) (by decide +kernel), List.mem_of_getElem? (i := 1351) (by decide +kernel), List.mem_of_getElem? (i := 1352) (by decide +kernel)⟩
theorem lw_p86 : lw_okq (⟨"CeilingWorkbenchModel", "mostUrgent", "()I"⟩, 38) := ⟨⟨by decide +kernel, by decide +kernel⟩, List.mem_of_getElem? (i := 1079) (by decide +kernel), List.mem_of_getElem? (i := 1355) (by decide +kernel), List.mem_of_getElem? (i := 1356) (by decide +kernel)⟩
theorem lw_p87 : lw_okq (⟨"CeilingWorkbenchModel", "isReady", "(I)Z"⟩, 38) := ⟨⟨by decide +kernel, by decide +kernel⟩, List.mem_of_getElem? (i := 1079) (by decide +kernel), List.mem_of_getElem? (i := 1359) (by decide +kernel), List.mem_of_getElem? (i := 1360) (by decide +kernel)⟩
theorem lw_p88 : lw_okq (⟨"CeilingWorkbenchModel", "firstRequest", "(I)I"⟩, 38) := ⟨⟨by decide +kernel, by decide +kernel⟩, List.mem_of_getElem? (i := 1079) (by decide +kernel), List.mem_of_getElem? (i := 1363) (by decide +kernel), List.mem_of_getElem? (i := 1364) (by decide +kernel)⟩
theorem lw_p89 : lw_okq (⟨"CeilingWorkbenchModel", "activeOf", "(I)I"⟩, 38) := ⟨⟨by decide +kernel, by decide +kernel⟩, List.mem_of_getElem? (i := 1079) (by decide +kernel), List.mem_of_getElem? (i := 1367) (by decide +kernel), List.mem_of_getElem? (i := 1368) (by decide +kernel)⟩
theorem lw_p90 : lw_okq (⟨"CeilingWorkbenchModel", "heldBy", "(I)I"⟩, 38) := ⟨⟨by decide +kernel, by decide +kernel⟩, List.mem_of_getElem? (i := 1079) (by decide +kernel), List.mem_of_getElem? (i := 1371) (by decide +kernel), List.mem_of_getElem? (i := 1372) (by decide +kernel)⟩
theorem lw_p91 : lw_okq (⟨"CeilingWorkbenchModel", "segmentNow", "(IZ)I"⟩, 38) := ⟨⟨by decide +kernel, by decide +kernel⟩, List.mem_of_getElem? (i := 1079) (by decide +kernel), List.mem_of_getElem? (i := 1375) (by decide +kernel), List.mem_of_getElem? (i := 1376) (by decide +kernel)⟩
theorem lw_p92 : lw_okq (⟨"CeilingWorkbenchModel", "countPreemption", "(I)V"⟩, 38) := ⟨⟨by decide +kernel, by decide +kernel⟩, List.mem_of_getElem? (i := 1079) (by decide +kernel), List.mem_of_getElem? (i := 1379) (by decide +kernel), List.mem_of_getElem? (i := 1380) (by decide +kernel)⟩
theorem lw_p93 : lw_okq (⟨"CeilingWorkbenchModel", "runServer", "()V"⟩, 38) := ⟨⟨by decide +kernel, by decide +kernel⟩, List.mem_of_getElem? (i := 1079) (by decide +kernel), List.mem_of_getElem? (i := 1383) (by decide +kernel), List.mem_of_getElem? (i := 1384) (by decide +kernel)⟩
theorem lw_p94 : lw_okq (⟨"CeilingWorkbenchModel", "runJob", "(I)I"⟩, 38) := ⟨⟨by decide +kernel, by decide +kernel⟩, List.mem_of_getElem? (i := 1079) (by decide +kernel), List.mem_of_getElem? (i := 1387) (by decide +kernel), List.mem_of_getElem? (i := 1388) (by decide +kernel)⟩
theorem lw_p95 : lw_okq (⟨"CeilingWorkbenchModel", "endBusy", "()V"⟩, 38) := ⟨⟨by decide +kernel, by decide +kernel⟩, List.mem_of_getElem? (i := 1079) (by decide +kernel), List.mem_of_getElem? (i := 1391) (by decide +kernel), List.mem_of_getElem? (i := 1392) (by decide +kernel)⟩
def lw_privs_6 : List (MethodName × Nat) := [(⟨"CeilingWorkbenchModel", "comes", "(II)I"⟩, 38), (⟨"CeilingWorkbenchModel", "makeUnit", "()I"⟩, 38), (⟨"CeilingWorkbenchModel", "takeReplenishments", "()V"⟩, 38), (⟨"CeilingWorkbenchModel", "release", "()V"⟩, 38), (⟨"CeilingWorkbenchModel", "meetDeadlines", "()V"⟩, 38), (⟨"CeilingWorkbenchModel", "takeJob", "(II)V"⟩, 38), (⟨"CeilingWorkbenchModel", "mostUrgent", "()I"⟩, 38), (⟨"CeilingWorkbenchModel", "isReady", "(I)Z"⟩, 38), (⟨"CeilingWorkbenchModel", "firstRequest", "(I)I"⟩, 38), (⟨"CeilingWorkbenchModel", "activeOf", "(I)I"⟩, 38), (⟨"CeilingWorkbenchModel", "heldBy", "(I)I"⟩, 38), (⟨"CeilingWorkbenchModel", "segmentNow", "(IZ)I"⟩, 38), (⟨"CeilingWorkbenchModel", "countPreemption", "(I)V"⟩, 38), (⟨"CeilingWorkbenchModel", "runServer", "()V"⟩, 38), (⟨"CeilingWorkbenchModel", "runJob", "(I)I"⟩, 38), (⟨"CeilingWorkbenchModel", "endBusy", "()V"⟩, 38)]
theorem lw_r6 : ∀ q ∈ lw_privs_6, lw_okq q := List.forall_mem_cons.mpr ⟨lw_p80, List.forall_mem_cons.mpr ⟨lw_p81, List.forall_mem_cons.mpr ⟨lw_p82, List.forall_mem_cons.mpr ⟨lw_p83, List.forall_mem_cons.mpr ⟨lw_p84, List.forall_mem_cons.mpr ⟨lw_p85, List.forall_mem_cons.mpr ⟨lw_p86, List.forall_mem_cons.mpr ⟨lw_p87, List.forall_mem_cons.mpr ⟨lw_p88, List.forall_mem_cons.mpr ⟨lw_p89, List.forall_mem_cons.mpr ⟨lw_p90, List.forall_mem_cons.mpr ⟨lw_p91, List.forall_mem_cons.mpr ⟨lw_p92, List.forall_mem_cons.mpr ⟨lw_p93, List.forall_mem_cons.mpr ⟨lw_p94, List.forall_mem_cons.mpr ⟨lw_p95, fun _ h => absurd h List.not_mem_nil⟩⟩⟩⟩⟩⟩⟩⟩⟩⟩⟩⟩⟩⟩⟩⟩
theorem lw_p96 : lw_okq (⟨"CeilingWorkbenchModel", "readCommand", "()I"⟩, 38) := ⟨⟨by decide +kernel, by decide +kernel⟩, List.mem_of_getElem? (i := 1079) (by decide +kernel), List.mem_of_getElem? (i := 1454) (by decide +kernel), List.mem_of_getElem? (i := 1455) (by decide +kernel)⟩
theorem lw_p97 : lw_okq (⟨"CeilingWorkbenchModel", "sign", "()I"⟩, 38) := ⟨⟨by decide +kernel, by decide +kernel⟩, List.mem_of_getElem? (i := 1079) (by decide +kernel), List.mem_of_getElem? (i := 1458) (by decide +kernel), List.mem_of_getElem? (i := 1459) (by decide +kernel)⟩
theorem lw_p98 : lw_okq (⟨"CeilingWorkbenchModel", "take", "(C)V"⟩, 38) := ⟨⟨by decide +kernel, by decide +kernel⟩, List.mem_of_getElem? (i := 1079) (by decide +kernel), List.mem_of_getElem? (i := 1462) (by decide +kernel), List.mem_of_getElem? (i := 1463) (by decide +kernel)⟩
theorem lw_p99 : lw_okq (⟨"CeilingWorkbenchModel", "readNumbers", "(I)V"⟩, 38) := ⟨⟨by decide +kernel, by decide +kernel⟩, List.mem_of_getElem? (i := 1079) (by decide +kernel), List.mem_of_getElem? (i := 1466) (by decide +kernel), List.mem_of_getElem? (i := 1467) (by decide +kernel)⟩
theorem lw_p100 : lw_okq (⟨"CeilingWorkbenchModel", "number", "()I"⟩, 38) := ⟨⟨by decide +kernel, by decide +kernel⟩, List.mem_of_getElem? (i := 1079) (by decide +kernel), List.mem_of_getElem? (i := 1470) (by decide +kernel), List.mem_of_getElem? (i := 1471) (by decide +kernel)⟩
theorem lw_p101 : lw_okq (⟨"CeilingWorkbenchModel", "takeAll", "(CCCCCCC)V"⟩, 38) := ⟨⟨by decide +kernel, by decide +kernel⟩, List.mem_of_getElem? (i := 1079) (by decide +kernel), List.mem_of_getElem? (i := 1474) (by decide +kernel), List.mem_of_getElem? (i := 1475) (by decide +kernel)⟩
theorem lw_p102 : lw_okq (⟨"CeilingWorkbenchModel", "policyName", "()I"⟩, 38) := ⟨⟨by decide +kernel, by decide +kernel⟩, List.mem_of_getElem? (i := 1079) (by decide +kernel), List.mem_of_getElem? (i := 1478) (by decide +kernel), List.mem_of_getElem? (i := 1479) (by decide +kernel)⟩
theorem lw_p103 : lw_okq (⟨"CeilingWorkbenchModel", "resource", "()I"⟩, 38) := ⟨⟨by decide +kernel, by decide +kernel⟩, List.mem_of_getElem? (i := 1079) (by decide +kernel), List.mem_of_getElem? (i := 1482) (by decide +kernel), List.mem_of_getElem? (i := 1483) (by decide +kernel)⟩
theorem lw_p104 : lw_okq (⟨"CeilingWorkbenchModel", "doCommand", "(I)I"⟩, 38) := ⟨⟨by decide +kernel, by decide +kernel⟩, List.mem_of_getElem? (i := 1079) (by decide +kernel), List.mem_of_getElem? (i := 1486) (by decide +kernel), List.mem_of_getElem? (i := 1487) (by decide +kernel)⟩
theorem lw_p105 : lw_okq (⟨"CeilingWorkbenchModel", "passAll", "(Z)V"⟩, 38) := ⟨⟨by decide +kernel, by decide +kernel⟩, List.mem_of_getElem? (i := 1079) (by decide +kernel), List.mem_of_getElem? (i := 1503) (by decide +kernel), List.mem_of_getElem? (i := 1504) (by decide +kernel)⟩
theorem lw_p106 : lw_okq (⟨"CeilingWorkbenchModel", "pass", "(I)I"⟩, 38) := ⟨⟨by decide +kernel, by decide +kernel⟩, List.mem_of_getElem? (i := 1079) (by decide +kernel), List.mem_of_getElem? (i := 1507) (by decide +kernel), List.mem_of_getElem? (i := 1508) (by decide +kernel)⟩
theorem lw_p107 : lw_okq (⟨"CeilingWorkbenchModel", "passRow", "([I)V"⟩, 38) := ⟨⟨by decide +kernel, by decide +kernel⟩, List.mem_of_getElem? (i := 1079) (by decide +kernel), List.mem_of_getElem? (i := 1511) (by decide +kernel), List.mem_of_getElem? (i := 1512) (by decide +kernel)⟩
def lw_privs_7 : List (MethodName × Nat) := [(⟨"CeilingWorkbenchModel", "readCommand", "()I"⟩, 38), (⟨"CeilingWorkbenchModel", "sign", "()I"⟩, 38), (⟨"CeilingWorkbenchModel", "take", "(C)V"⟩, 38), (⟨"CeilingWorkbenchModel", "readNumbers", "(I)V"⟩, 38), (⟨"CeilingWorkbenchModel", "number", "()I"⟩, 38), (⟨"CeilingWorkbenchModel", "takeAll", "(CCCCCCC)V"⟩, 38), (⟨"CeilingWorkbenchModel", "policyName", "()I"⟩, 38), (⟨"CeilingWorkbenchModel", "resource", "()I"⟩, 38), (⟨"CeilingWorkbenchModel", "doCommand", "(I)I"⟩, 38), (⟨"CeilingWorkbenchModel", "passAll", "(Z)V"⟩, 38), (⟨"CeilingWorkbenchModel", "pass", "(I)I"⟩, 38), (⟨"CeilingWorkbenchModel", "passRow", "([I)V"⟩, 38)]
theorem lw_r7 : ∀ q ∈ lw_privs_7, lw_okq q := List.forall_mem_cons.mpr ⟨lw_p96, List.forall_mem_cons.mpr ⟨lw_p97, List.forall_mem_cons.mpr ⟨lw_p98, List.forall_mem_cons.mpr ⟨lw_p99, List.forall_mem_cons.mpr ⟨lw_p100, List.forall_mem_cons.mpr ⟨lw_p101, List.forall_mem_cons.mpr ⟨lw_p102, List.forall_mem_cons.mpr ⟨lw_p103, List.forall_mem_cons.mpr ⟨lw_p104, List.forall_mem_cons.mpr ⟨lw_p105, List.forall_mem_cons.mpr ⟨lw_p106, List.forall_mem_cons.mpr ⟨lw_p107, fun _ h => absurd h List.not_mem_nil⟩⟩⟩⟩⟩⟩⟩⟩⟩⟩⟩⟩
def lw_privs : List (MethodName × Nat) := lw_privs_1 ++ (lw_privs_2 ++ (lw_privs_3 ++ (lw_privs_4 ++ (lw_privs_5 ++ (lw_privs_6 ++ (lw_privs_7))))))
def lw_tbl : List Cond := k2_sels lw_privs ++ tables_1
theorem lw_privs_ok : ∀ q ∈ lw_privs, lw_okq q := by
  show ∀ q ∈ lw_privs_1 ++ (lw_privs_2 ++ (lw_privs_3 ++ (lw_privs_4 ++ (lw_privs_5 ++ (lw_privs_6 ++ (lw_privs_7)))))), lw_okq q
  exact List.forall_mem_append.mpr ⟨lw_r1, List.forall_mem_append.mpr ⟨lw_r2, List.forall_mem_append.mpr ⟨lw_r3, List.forall_mem_append.mpr ⟨lw_r4, List.forall_mem_append.mpr ⟨lw_r5, List.forall_mem_append.mpr ⟨lw_r6, lw_r7⟩⟩⟩⟩⟩⟩
/-- the streams that the claim lets the run draw from -/
abbrev lw_cs : List Choice := [Jvm.Choice.named "NaN.bits"]
theorem lw_bits : nanBits ∈ lw_cs := by first | decide | exact List.mem_cons_self | simp [lw_cs, nanBits]
end
section
-- names of the classes, fields and methods (out of claim/NAMES.whole.lean.txt)
def RX0 : String := "CeilingWorkbench$Analysis"
def TX0 : u_T := fun k => match k with
  | _ => ("", "", "", false)
def tyX0 : Nat → FieldType := fun k => match k with
  | _ => .int
theorem nmX0 : ∀ a, a < 0 → ∀ b, b < 0 → a ≠ b → (TX0 a).2.1 ≠ (TX0 b).2.1 := by decide +kernel
theorem tyX0_ok : ∀ k, k < 0 → parseFieldDescriptor (TX0 k).2.2.1 = some (tyX0 k) := by decide +kernel
abbrev cX0_blockingOf : ByteArray := prog_2_method_2_code
def yX0_blockingOf : MethodName := ⟨RX0, "blockingOf", "(LCeilingWorkbench$Bench;LCeilingWorkbench$Task;)I"⟩
abbrev cX0_blockingBy : ByteArray := prog_2_method_3_code
def yX0_blockingBy : MethodName := ⟨RX0, "blockingBy", "(LCeilingWorkbench$Bench;LCeilingWorkbench$Task;I)I"⟩
abbrev cX0_boundOf : ByteArray := prog_2_method_4_code
def yX0_boundOf : MethodName := ⟨RX0, "boundOf", "(LCeilingWorkbench$Bench;LCeilingWorkbench$Task;)I"⟩
abbrev cX0_urgentWorkWithin : ByteArray := prog_2_method_5_code
def yX0_urgentWorkWithin : MethodName := ⟨RX0, "urgentWorkWithin", "(LCeilingWorkbench$Bench;LCeilingWorkbench$Task;I)I"⟩
abbrev cX0_isServerAbove : ByteArray := prog_2_method_6_code
def yX0_isServerAbove : MethodName := ⟨RX0, "isServerAbove", "(LCeilingWorkbench$Bench;LCeilingWorkbench$Task;)Z"⟩
abbrev cX0_quotientUp : ByteArray := prog_2_method_7_code
def yX0_quotientUp : MethodName := ⟨RX0, "quotientUp", "(II)I"⟩
abbrev cX0_witnessOf : ByteArray := prog_2_method_8_code
def yX0_witnessOf : MethodName := ⟨RX0, "witnessOf", "(LCeilingWorkbench$Bench;LCeilingWorkbench$Task;)I"⟩
abbrev cX0_urgentWorkReleasedAt : ByteArray := prog_2_method_9_code
def yX0_urgentWorkReleasedAt : MethodName := ⟨RX0, "urgentWorkReleasedAt", "(LCeilingWorkbench$Bench;LCeilingWorkbench$Task;I)I"⟩
abbrev cX0_isMultiple : ByteArray := prog_2_method_10_code
def yX0_isMultiple : MethodName := ⟨RX0, "isMultiple", "(II)Z"⟩
abbrev cX0_meetsDeadlines : ByteArray := prog_2_method_11_code
def yX0_meetsDeadlines : MethodName := ⟨RX0, "meetsDeadlines", "(LCeilingWorkbench$Bench;)Z"⟩
abbrev cX0_loadOf : ByteArray := prog_2_method_12_code
def yX0_loadOf : MethodName := ⟨RX0, "loadOf", "(LCeilingWorkbench$Bench;)D"⟩
abbrev cX0_hyperbolicLoadOf : ByteArray := prog_2_method_13_code
def yX0_hyperbolicLoadOf : MethodName := ⟨RX0, "hyperbolicLoadOf", "(LCeilingWorkbench$Bench;)D"⟩
abbrev cX0_share : ByteArray := prog_2_method_14_code
def yX0_share : MethodName := ⟨RX0, "share", "(II)D"⟩
def RX1 : String := "CeilingWorkbench$Bench"
def TX1 : u_T := fun k => match k with
  | 0 => ("CeilingWorkbench$Bench", "tasks", "[LCeilingWorkbench$Task;", true)
  | 1 => ("CeilingWorkbench$Bench", "server", "LCeilingWorkbench$Server;", true)
  | 2 => ("CeilingWorkbench$Bench", "requests", "LCeilingWorkbench$Requests;", true)
  | 3 => ("CeilingWorkbench$Bench", "ceilings", "[I", true)
  | 4 => ("CeilingWorkbench$Bench", "ran", "[I", true)
  | 5 => ("CeilingWorkbench$Bench", "taskCount", "I", false)
  | 6 => ("CeilingWorkbench$Bench", "policy", "I", false)
  | _ => ("CeilingWorkbench$Bench", "clock", "I", false)
def tyX1 : Nat → FieldType := fun k => match k with
  | 0 => .array (.object "CeilingWorkbench$Task")
  | 1 => .object "CeilingWorkbench$Server"
  | 2 => .object "CeilingWorkbench$Requests"
  | 3 => .array .int
  | 4 => .array .int
  | 5 => .int
  | 6 => .int
  | _ => .int
theorem nmX1 : ∀ a, a < 8 → ∀ b, b < 8 → a ≠ b → (TX1 a).2.1 ≠ (TX1 b).2.1 := by decide +kernel
theorem tyX1_ok : ∀ k, k < 8 → parseFieldDescriptor (TX1 k).2.2.1 = some (tyX1 k) := by decide +kernel
abbrev cX1_init : ByteArray := prog_3_method_1_code
def yX1_init : MethodName := ⟨RX1, "<init>", "()V"⟩
abbrev cX1_hasTask : ByteArray := prog_3_method_2_code
def yX1_hasTask : MethodName := ⟨RX1, "hasTask", "(I)Z"⟩
abbrev cX1_removeAll : ByteArray := prog_3_method_3_code
def yX1_removeAll : MethodName := ⟨RX1, "removeAll", "()I"⟩
abbrev cX1_startAgain : ByteArray := prog_3_method_4_code
def yX1_startAgain : MethodName := ⟨RX1, "startAgain", "()I"⟩
abbrev cX1_putTask : ByteArray := prog_3_method_5_code
def yX1_putTask : MethodName := ⟨RX1, "putTask", "(IIII)I"⟩
abbrev cX1_isPriorityOfTask : ByteArray := prog_3_method_6_code
def yX1_isPriorityOfTask : MethodName := ⟨RX1, "isPriorityOfTask", "(I)Z"⟩
abbrev cX1_putSegment : ByteArray := prog_3_method_7_code
def yX1_putSegment : MethodName := ⟨RX1, "putSegment", "(III)I"⟩
abbrev cX1_putServer : ByteArray := prog_3_method_8_code
def yX1_putServer : MethodName := ⟨RX1, "putServer", "(III)I"⟩
abbrev cX1_putRequest : ByteArray := prog_3_method_9_code
def yX1_putRequest : MethodName := ⟨RX1, "putRequest", "(II)I"⟩
abbrev cX1_putPolicy : ByteArray := prog_3_method_10_code
def yX1_putPolicy : MethodName := ⟨RX1, "putPolicy", "(I)I"⟩
abbrev cX1_makeUnits : ByteArray := prog_3_method_11_code
def yX1_makeUnits : MethodName := ⟨RX1, "makeUnits", "(I)I"⟩
abbrev cX1_makeUnit : ByteArray := prog_3_method_12_code
def yX1_makeUnit : MethodName := ⟨RX1, "makeUnit", "()I"⟩
abbrev cX1_mostUrgent : ByteArray := prog_3_method_13_code
def yX1_mostUrgent : MethodName := ⟨RX1, "mostUrgent", "(Z)I"⟩
abbrev cX1_urgencyOf : ByteArray := prog_3_method_14_code
def yX1_urgencyOf : MethodName := ⟨RX1, "urgencyOf", "(LCeilingWorkbench$Task;)I"⟩
abbrev cX1_notePreemption : ByteArray := prog_3_method_15_code
def yX1_notePreemption : MethodName := ⟨RX1, "notePreemption", "(I)V"⟩
abbrev cX1_holderOf : ByteArray := prog_3_method_16_code
def yX1_holderOf : MethodName := ⟨RX1, "holderOf", "(I)I"⟩
abbrev cX1_usedUnits : ByteArray := prog_3_method_17_code
def yX1_usedUnits : MethodName := ⟨RX1, "usedUnits", "()I"⟩
abbrev cX1_copyFrom : ByteArray := prog_3_method_18_code
def yX1_copyFrom : MethodName := ⟨RX1, "copyFrom", "(LCeilingWorkbench$Bench;)V"⟩
def RX2 : String := "CeilingWorkbench$Jobs"
def TX2 : u_T := fun k => match k with
  | 0 => ("CeilingWorkbench$Jobs", "releases", "[I", true)
  | 1 => ("CeilingWorkbench$Jobs", "first", "I", false)
  | _ => ("CeilingWorkbench$Jobs", "end", "I", false)
def tyX2 : Nat → FieldType := fun k => match k with
  | 0 => .array .int
  | 1 => .int
  | _ => .int
theorem nmX2 : ∀ a, a < 3 → ∀ b, b < 3 → a ≠ b → (TX2 a).2.1 ≠ (TX2 b).2.1 := by decide +kernel
theorem tyX2_ok : ∀ k, k < 3 → parseFieldDescriptor (TX2 k).2.2.1 = some (tyX2 k) := by decide +kernel
abbrev cX2_init : ByteArray := prog_4_method_1_code
def yX2_init : MethodName := ⟨RX2, "<init>", "()V"⟩
abbrev cX2_removeAll : ByteArray := prog_4_method_2_code
def yX2_removeAll : MethodName := ⟨RX2, "removeAll", "()V"⟩
abbrev cX2_isEmpty : ByteArray := prog_4_method_3_code
def yX2_isEmpty : MethodName := ⟨RX2, "isEmpty", "()Z"⟩
abbrev cX2_size : ByteArray := prog_4_method_4_code
def yX2_size : MethodName := ⟨RX2, "size", "()I"⟩
abbrev cX2_add : ByteArray := prog_4_method_5_code
def yX2_add : MethodName := ⟨RX2, "add", "(I)V"⟩
abbrev cX2_firstRelease : ByteArray := prog_4_method_6_code
def yX2_firstRelease : MethodName := ⟨RX2, "firstRelease", "()I"⟩
abbrev cX2_removeFirst : ByteArray := prog_4_method_7_code
def yX2_removeFirst : MethodName := ⟨RX2, "removeFirst", "()V"⟩
abbrev cX2_placeOf : ByteArray := prog_4_method_8_code
def yX2_placeOf : MethodName := ⟨RX2, "placeOf", "(I)I"⟩
abbrev cX2_removeAt : ByteArray := prog_4_method_9_code
def yX2_removeAt : MethodName := ⟨RX2, "removeAt", "(I)V"⟩
abbrev cX2_copyFrom : ByteArray := prog_4_method_10_code
def yX2_copyFrom : MethodName := ⟨RX2, "copyFrom", "(LCeilingWorkbench$Jobs;)V"⟩
def RX3 : String := "CeilingWorkbench$Reader"
def TX3 : u_T := fun k => match k with
  | 0 => ("CeilingWorkbench$Reader", "signs", "[C", true)
  | 1 => ("CeilingWorkbench$Reader", "numbers", "[I", true)
  | 2 => ("CeilingWorkbench$Reader", "length", "I", false)
  | 3 => ("CeilingWorkbench$Reader", "numberCount", "I", false)
  | _ => ("CeilingWorkbench$Reader", "reach", "I", false)
def tyX3 : Nat → FieldType := fun k => match k with
  | 0 => .array .char
  | 1 => .array .int
  | 2 => .int
  | 3 => .int
  | _ => .int
theorem nmX3 : ∀ a, a < 5 → ∀ b, b < 5 → a ≠ b → (TX3 a).2.1 ≠ (TX3 b).2.1 := by decide +kernel
theorem tyX3_ok : ∀ k, k < 5 → parseFieldDescriptor (TX3 k).2.2.1 = some (tyX3 k) := by decide +kernel
abbrev cX3_init : ByteArray := prog_5_method_1_code
def yX3_init : MethodName := ⟨RX3, "<init>", "()V"⟩
abbrev cX3_isFull : ByteArray := prog_5_method_2_code
def yX3_isFull : MethodName := ⟨RX3, "isFull", "()Z"⟩
abbrev cX3_put : ByteArray := prog_5_method_3_code
def yX3_put : MethodName := ⟨RX3, "put", "(C)I"⟩
abbrev cX3_number : ByteArray := prog_5_method_4_code
def yX3_number : MethodName := ⟨RX3, "number", "(I)I"⟩
abbrev cX3_takeForm : ByteArray := prog_5_method_5_code
def yX3_takeForm : MethodName := ⟨RX3, "takeForm", "()I"⟩
abbrev cX3_patternOf : ByteArray := prog_5_method_6_code
def yX3_patternOf : MethodName := ⟨RX3, "patternOf", "(I)Ljava/lang/String;"⟩
abbrev cX3_fits : ByteArray := prog_5_method_7_code
def yX3_fits : MethodName := ⟨RX3, "fits", "(Ljava/lang/String;)Z"⟩
abbrev cX3_afterSign : ByteArray := prog_5_method_8_code
def yX3_afterSign : MethodName := ⟨RX3, "afterSign", "(IC)I"⟩
abbrev cX3_afterNumber : ByteArray := prog_5_method_9_code
def yX3_afterNumber : MethodName := ⟨RX3, "afterNumber", "(I)I"⟩
def RX4 : String := "CeilingWorkbench$Requests"
def TX4 : u_T := fun k => match k with
  | 0 => ("CeilingWorkbench$Requests", "times", "[I", true)
  | 1 => ("CeilingWorkbench$Requests", "lengths", "[I", true)
  | 2 => ("CeilingWorkbench$Requests", "unitsLeft", "[I", true)
  | 3 => ("CeilingWorkbench$Requests", "responses", "[I", true)
  | _ => ("CeilingWorkbench$Requests", "count", "I", false)
def tyX4 : Nat → FieldType := fun k => match k with
  | 0 => .array .int
  | 1 => .array .int
  | 2 => .array .int
  | 3 => .array .int
  | _ => .int
theorem nmX4 : ∀ a, a < 5 → ∀ b, b < 5 → a ≠ b → (TX4 a).2.1 ≠ (TX4 b).2.1 := by decide +kernel
theorem tyX4_ok : ∀ k, k < 5 → parseFieldDescriptor (TX4 k).2.2.1 = some (tyX4 k) := by decide +kernel
abbrev cX4_init : ByteArray := prog_6_method_1_code
def yX4_init : MethodName := ⟨RX4, "<init>", "()V"⟩
abbrev cX4_removeAll : ByteArray := prog_6_method_2_code
def yX4_removeAll : MethodName := ⟨RX4, "removeAll", "()V"⟩
abbrev cX4_isFull : ByteArray := prog_6_method_3_code
def yX4_isFull : MethodName := ⟨RX4, "isFull", "()Z"⟩
abbrev cX4_add : ByteArray := prog_6_method_4_code
def yX4_add : MethodName := ⟨RX4, "add", "(II)I"⟩
abbrev cX4_startAgain : ByteArray := prog_6_method_5_code
def yX4_startAgain : MethodName := ⟨RX4, "startAgain", "()V"⟩
abbrev cX4_nextToServe : ByteArray := prog_6_method_6_code
def yX4_nextToServe : MethodName := ⟨RX4, "nextToServe", "(I)I"⟩
abbrev cX4_serve : ByteArray := prog_6_method_7_code
def yX4_serve : MethodName := ⟨RX4, "serve", "(II)V"⟩
abbrev cX4_copyFrom : ByteArray := prog_6_method_8_code
def yX4_copyFrom : MethodName := ⟨RX4, "copyFrom", "(LCeilingWorkbench$Requests;)V"⟩
def RX5 : String := "CeilingWorkbench$Server"
def TX5 : u_T := fun k => match k with
  | 0 => ("CeilingWorkbench$Server", "planTimes", "[I", true)
  | 1 => ("CeilingWorkbench$Server", "planIncreases", "[I", true)
  | 2 => ("CeilingWorkbench$Server", "planCount", "I", false)
  | 3 => ("CeilingWorkbench$Server", "present", "Z", false)
  | 4 => ("CeilingWorkbench$Server", "priority", "I", false)
  | 5 => ("CeilingWorkbench$Server", "budget", "I", false)
  | 6 => ("CeilingWorkbench$Server", "period", "I", false)
  | 7 => ("CeilingWorkbench$Server", "balance", "I", false)
  | 8 => ("CeilingWorkbench$Server", "busy", "Z", false)
  | 9 => ("CeilingWorkbench$Server", "busySince", "I", false)
  | _ => ("CeilingWorkbench$Server", "busyUnits", "I", false)
def tyX5 : Nat → FieldType := fun k => match k with
  | 0 => .array .int
  | 1 => .array .int
  | 2 => .int
  | 3 => .boolean
  | 4 => .int
  | 5 => .int
  | 6 => .int
  | 7 => .int
  | 8 => .boolean
  | 9 => .int
  | _ => .int
theorem nmX5 : ∀ a, a < 11 → ∀ b, b < 11 → a ≠ b → (TX5 a).2.1 ≠ (TX5 b).2.1 := by decide +kernel
theorem tyX5_ok : ∀ k, k < 11 → parseFieldDescriptor (TX5 k).2.2.1 = some (tyX5 k) := by decide +kernel
abbrev cX5_init : ByteArray := prog_7_method_1_code
def yX5_init : MethodName := ⟨RX5, "<init>", "()V"⟩
abbrev cX5_begin : ByteArray := prog_7_method_2_code
def yX5_begin : MethodName := ⟨RX5, "begin", "(III)V"⟩
abbrev cX5_startAgain : ByteArray := prog_7_method_3_code
def yX5_startAgain : MethodName := ⟨RX5, "startAgain", "()V"⟩
abbrev cX5_hasPriority : ByteArray := prog_7_method_4_code
def yX5_hasPriority : MethodName := ⟨RX5, "hasPriority", "(I)Z"⟩
abbrev cX5_isReady : ByteArray := prog_7_method_5_code
def yX5_isReady : MethodName := ⟨RX5, "isReady", "(Z)Z"⟩
abbrev cX5_replenishAt : ByteArray := prog_7_method_6_code
def yX5_replenishAt : MethodName := ⟨RX5, "replenishAt", "(I)V"⟩
abbrev cX5_runUnit : ByteArray := prog_7_method_7_code
def yX5_runUnit : MethodName := ⟨RX5, "runUnit", "(I)V"⟩
abbrev cX5_endUnit : ByteArray := prog_7_method_8_code
def yX5_endUnit : MethodName := ⟨RX5, "endUnit", "(IZ)V"⟩
abbrev cX5_nextPlan : ByteArray := prog_7_method_9_code
def yX5_nextPlan : MethodName := ⟨RX5, "nextPlan", "()I"⟩
abbrev cX5_copyFrom : ByteArray := prog_7_method_10_code
def yX5_copyFrom : MethodName := ⟨RX5, "copyFrom", "(LCeilingWorkbench$Server;)V"⟩
def RX6 : String := "CeilingWorkbench$Task"
def TX6 : u_T := fun k => match k with
  | 0 => ("CeilingWorkbench$Task", "resources", "[I", true)
  | 1 => ("CeilingWorkbench$Task", "lengths", "[I", true)
  | 2 => ("CeilingWorkbench$Task", "jobs", "LCeilingWorkbench$Jobs;", true)
  | 3 => ("CeilingWorkbench$Task", "results", "[I", true)
  | 4 => ("CeilingWorkbench$Task", "priority", "I", false)
  | 5 => ("CeilingWorkbench$Task", "period", "I", false)
  | 6 => ("CeilingWorkbench$Task", "deadline", "I", false)
  | 7 => ("CeilingWorkbench$Task", "offset", "I", false)
  | 8 => ("CeilingWorkbench$Task", "segmentCount", "I", false)
  | 9 => ("CeilingWorkbench$Task", "demand", "I", false)
  | 10 => ("CeilingWorkbench$Task", "nextRelease", "I", false)
  | 11 => ("CeilingWorkbench$Task", "mustSkip", "Z", false)
  | 12 => ("CeilingWorkbench$Task", "segment", "I", false)
  | 13 => ("CeilingWorkbench$Task", "unitsOfSegment", "I", false)
  | _ => ("CeilingWorkbench$Task", "responseSum", "I", false)
def tyX6 : Nat → FieldType := fun k => match k with
  | 0 => .array .int
  | 1 => .array .int
  | 2 => .object "CeilingWorkbench$Jobs"
  | 3 => .array .int
  | 4 => .int
  | 5 => .int
  | 6 => .int
  | 7 => .int
  | 8 => .int
  | 9 => .int
  | 10 => .int
  | 11 => .boolean
  | 12 => .int
  | 13 => .int
  | _ => .int
theorem nmX6 : ∀ a, a < 15 → ∀ b, b < 15 → a ≠ b → (TX6 a).2.1 ≠ (TX6 b).2.1 := by decide +kernel
theorem tyX6_ok : ∀ k, k < 15 → parseFieldDescriptor (TX6 k).2.2.1 = some (tyX6 k) := by decide +kernel
abbrev cX6_init : ByteArray := prog_8_method_1_code
def yX6_init : MethodName := ⟨RX6, "<init>", "()V"⟩
abbrev cX6_begin : ByteArray := prog_8_method_2_code
def yX6_begin : MethodName := ⟨RX6, "begin", "(IIII)V"⟩
abbrev cX6_startAgain : ByteArray := prog_8_method_3_code
def yX6_startAgain : MethodName := ⟨RX6, "startAgain", "()V"⟩
abbrev cX6_addPart : ByteArray := prog_8_method_4_code
def yX6_addPart : MethodName := ⟨RX6, "addPart", "(II)V"⟩
abbrev cX6_property : ByteArray := prog_8_method_5_code
def yX6_property : MethodName := ⟨RX6, "property", "(I)I"⟩
abbrev cX6_releaseAt : ByteArray := prog_8_method_6_code
def yX6_releaseAt : MethodName := ⟨RX6, "releaseAt", "(I)V"⟩
abbrev cX6_missAt : ByteArray := prog_8_method_7_code
def yX6_missAt : MethodName := ⟨RX6, "missAt", "(II)V"⟩
abbrev cX6_removeJob : ByteArray := prog_8_method_8_code
def yX6_removeJob : MethodName := ⟨RX6, "removeJob", "(I)V"⟩
abbrev cX6_hasStartedJob : ByteArray := prog_8_method_9_code
def yX6_hasStartedJob : MethodName := ⟨RX6, "hasStartedJob", "()Z"⟩
abbrev cX6_heldResource : ByteArray := prog_8_method_10_code
def yX6_heldResource : MethodName := ⟨RX6, "heldResource", "()I"⟩
abbrev cX6_runUnit : ByteArray := prog_8_method_11_code
def yX6_runUnit : MethodName := ⟨RX6, "runUnit", "(I)Z"⟩
abbrev cX6_finishJob : ByteArray := prog_8_method_12_code
def yX6_finishJob : MethodName := ⟨RX6, "finishJob", "(I)V"⟩
abbrev cX6_copyFrom : ByteArray := prog_8_method_13_code
def yX6_copyFrom : MethodName := ⟨RX6, "copyFrom", "(LCeilingWorkbench$Task;)V"⟩
def RX7 : String := "CeilingWorkbench"
def TX7 : u_T := fun k => match k with
  | 0 => ("CeilingWorkbench", "bench", "LCeilingWorkbench$Bench;", true)
  | 1 => ("CeilingWorkbench", "kept", "LCeilingWorkbench$Bench;", true)
  | 2 => ("CeilingWorkbench", "reader", "LCeilingWorkbench$Reader;", true)
  | 3 => ("CeilingWorkbench", "hasSnapshot", "Z", false)
  | _ => ("CeilingWorkbench", "lastError", "I", false)
def tyX7 : Nat → FieldType := fun k => match k with
  | 0 => .object "CeilingWorkbench$Bench"
  | 1 => .object "CeilingWorkbench$Bench"
  | 2 => .object "CeilingWorkbench$Reader"
  | 3 => .boolean
  | _ => .int
theorem nmX7 : ∀ a, a < 5 → ∀ b, b < 5 → a ≠ b → (TX7 a).2.1 ≠ (TX7 b).2.1 := by decide +kernel
theorem tyX7_ok : ∀ k, k < 5 → parseFieldDescriptor (TX7 k).2.2.1 = some (tyX7 k) := by decide +kernel
abbrev cX7_init : ByteArray := prog_1_method_1_code
def yX7_init : MethodName := ⟨RX7, "<init>", "()V"⟩
abbrev cX7_clear : ByteArray := prog_1_method_2_code
def yX7_clear : MethodName := ⟨RX7, "clear", "()I"⟩
abbrev cX7_addTask : ByteArray := prog_1_method_3_code
def yX7_addTask : MethodName := ⟨RX7, "addTask", "(IIII)I"⟩
abbrev cX7_addSegment : ByteArray := prog_1_method_4_code
def yX7_addSegment : MethodName := ⟨RX7, "addSegment", "(III)I"⟩
abbrev cX7_setServer : ByteArray := prog_1_method_5_code
def yX7_setServer : MethodName := ⟨RX7, "setServer", "(III)Z"⟩
abbrev cX7_request : ByteArray := prog_1_method_6_code
def yX7_request : MethodName := ⟨RX7, "request", "(II)I"⟩
abbrev cX7_setPolicy : ByteArray := prog_1_method_7_code
def yX7_setPolicy : MethodName := ⟨RX7, "setPolicy", "(I)I"⟩
abbrev cX7_append : ByteArray := prog_1_method_8_code
def yX7_append : MethodName := ⟨RX7, "append", "(C)I"⟩
abbrev cX7_configure : ByteArray := prog_1_method_9_code
def yX7_configure : MethodName := ⟨RX7, "configure", "()I"⟩
abbrev cX7_errorPosition : ByteArray := prog_1_method_10_code
def yX7_errorPosition : MethodName := ⟨RX7, "errorPosition", "()I"⟩
abbrev cX7_taskCount : ByteArray := prog_1_method_11_code
def yX7_taskCount : MethodName := ⟨RX7, "taskCount", "()I"⟩
abbrev cX7_task : ByteArray := prog_1_method_12_code
def yX7_task : MethodName := ⟨RX7, "task", "(II)I"⟩
abbrev cX7_ceiling : ByteArray := prog_1_method_13_code
def yX7_ceiling : MethodName := ⟨RX7, "ceiling", "(I)I"⟩
abbrev cX7_blocking : ByteArray := prog_1_method_14_code
def yX7_blocking : MethodName := ⟨RX7, "blocking", "(I)I"⟩
abbrev cX7_bound : ByteArray := prog_1_method_15_code
def yX7_bound : MethodName := ⟨RX7, "bound", "(I)I"⟩
abbrev cX7_witness : ByteArray := prog_1_method_16_code
def yX7_witness : MethodName := ⟨RX7, "witness", "(I)I"⟩
abbrev cX7_isSchedulable : ByteArray := prog_1_method_17_code
def yX7_isSchedulable : MethodName := ⟨RX7, "isSchedulable", "()Z"⟩
abbrev cX7_load : ByteArray := prog_1_method_18_code
def yX7_load : MethodName := ⟨RX7, "load", "()D"⟩
abbrev cX7_hyperbolicLoad : ByteArray := prog_1_method_19_code
def yX7_hyperbolicLoad : MethodName := ⟨RX7, "hyperbolicLoad", "()D"⟩
abbrev cX7_run : ByteArray := prog_1_method_20_code
def yX7_run : MethodName := ⟨RX7, "run", "(I)I"⟩
abbrev cX7_rewind : ByteArray := prog_1_method_21_code
def yX7_rewind : MethodName := ⟨RX7, "rewind", "()I"⟩
abbrev cX7_clock : ByteArray := prog_1_method_22_code
def yX7_clock : MethodName := ⟨RX7, "clock", "()I"⟩
abbrev cX7_ranAt : ByteArray := prog_1_method_23_code
def yX7_ranAt : MethodName := ⟨RX7, "ranAt", "(I)I"⟩
abbrev cX7_pending : ByteArray := prog_1_method_24_code
def yX7_pending : MethodName := ⟨RX7, "pending", "(I)I"⟩
abbrev cX7_activePriority : ByteArray := prog_1_method_25_code
def yX7_activePriority : MethodName := ⟨RX7, "activePriority", "(I)I"⟩
abbrev cX7_holder : ByteArray := prog_1_method_26_code
def yX7_holder : MethodName := ⟨RX7, "holder", "(I)I"⟩
abbrev cX7_result : ByteArray := prog_1_method_27_code
def yX7_result : MethodName := ⟨RX7, "result", "(II)I"⟩
abbrev cX7_averageResponse : ByteArray := prog_1_method_28_code
def yX7_averageResponse : MethodName := ⟨RX7, "averageResponse", "(I)F"⟩
abbrev cX7_balance : ByteArray := prog_1_method_29_code
def yX7_balance : MethodName := ⟨RX7, "balance", "()I"⟩
abbrev cX7_nextReplenishment : ByteArray := prog_1_method_30_code
def yX7_nextReplenishment : MethodName := ⟨RX7, "nextReplenishment", "()I"⟩
abbrev cX7_requestResponse : ByteArray := prog_1_method_31_code
def yX7_requestResponse : MethodName := ⟨RX7, "requestResponse", "(I)I"⟩
abbrev cX7_utilization : ByteArray := prog_1_method_32_code
def yX7_utilization : MethodName := ⟨RX7, "utilization", "()D"⟩
abbrev cX7_snapshot : ByteArray := prog_1_method_33_code
def yX7_snapshot : MethodName := ⟨RX7, "snapshot", "()I"⟩
abbrev cX7_restore : ByteArray := prog_1_method_34_code
def yX7_restore : MethodName := ⟨RX7, "restore", "()I"⟩
abbrev cX7_perform : ByteArray := prog_1_method_35_code
def yX7_perform : MethodName := ⟨RX7, "perform", "(I)I"⟩
abbrev cX7_accepted : ByteArray := prog_1_method_36_code
def yX7_accepted : MethodName := ⟨RX7, "accepted", "(I)I"⟩
abbrev cX7_found : ByteArray := prog_1_method_37_code
def yX7_found : MethodName := ⟨RX7, "found", "(I)I"⟩
abbrev cX7_checkedResource : ByteArray := prog_1_method_38_code
def yX7_checkedResource : MethodName := ⟨RX7, "checkedResource", "(I)I"⟩
abbrev cX7_taskAt : ByteArray := prog_1_method_39_code
def yX7_taskAt : MethodName := ⟨RX7, "taskAt", "(I)LCeilingWorkbench$Task;"⟩
abbrev cX7_taskWithSegments : ByteArray := prog_1_method_40_code
def yX7_taskWithSegments : MethodName := ⟨RX7, "taskWithSegments", "(I)LCeilingWorkbench$Task;"⟩
abbrev cX7_presentServer : ByteArray := prog_1_method_41_code
def yX7_presentServer : MethodName := ⟨RX7, "presentServer", "()LCeilingWorkbench$Server;"⟩
abbrev cX7_isWithin : ByteArray := prog_1_method_42_code
def yX7_isWithin : MethodName := ⟨RX7, "isWithin", "(III)Z"⟩
def RX8 : String := "CeilingWorkbenchModel"
def TX8 : u_T := fun k => match k with
  | 0 => ("CeilingWorkbenchModel", "thrown", "I", false)
  | 1 => ("CeilingWorkbenchModel", "policy", "I", false)
  | 2 => ("CeilingWorkbenchModel", "many", "I", false)
  | 3 => ("CeilingWorkbenchModel", "tasks", "[I", true)
  | 4 => ("CeilingWorkbenchModel", "segmentMany", "[I", true)
  | 5 => ("CeilingWorkbenchModel", "segments", "[I", true)
  | 6 => ("CeilingWorkbenchModel", "serverPriority", "I", false)
  | 7 => ("CeilingWorkbenchModel", "serverBudget", "I", false)
  | 8 => ("CeilingWorkbenchModel", "serverPeriod", "I", false)
  | 9 => ("CeilingWorkbenchModel", "requestMany", "I", false)
  | 10 => ("CeilingWorkbenchModel", "requests", "[I", true)
  | 11 => ("CeilingWorkbenchModel", "clock", "I", false)
  | 12 => ("CeilingWorkbenchModel", "ran", "[I", true)
  | 13 => ("CeilingWorkbenchModel", "jobs", "[I", true)
  | 14 => ("CeilingWorkbenchModel", "jobMany", "[I", true)
  | 15 => ("CeilingWorkbenchModel", "progress", "[I", true)
  | 16 => ("CeilingWorkbenchModel", "skips", "[I", true)
  | 17 => ("CeilingWorkbenchModel", "results", "[I", true)
  | 18 => ("CeilingWorkbenchModel", "responses", "[I", true)
  | 19 => ("CeilingWorkbenchModel", "balance", "I", false)
  | 20 => ("CeilingWorkbenchModel", "isBusy", "I", false)
  | 21 => ("CeilingWorkbenchModel", "busySince", "I", false)
  | 22 => ("CeilingWorkbenchModel", "busyUnits", "I", false)
  | 23 => ("CeilingWorkbenchModel", "left", "[I", true)
  | 24 => ("CeilingWorkbenchModel", "finished", "[I", true)
  | 25 => ("CeilingWorkbenchModel", "planned", "[I", true)
  | 26 => ("CeilingWorkbenchModel", "plannedMany", "I", false)
  | 27 => ("CeilingWorkbenchModel", "input", "[C", true)
  | 28 => ("CeilingWorkbenchModel", "typed", "I", false)
  | 29 => ("CeilingWorkbenchModel", "end", "I", false)
  | 30 => ("CeilingWorkbenchModel", "at", "I", false)
  | 31 => ("CeilingWorkbenchModel", "fault", "I", false)
  | 32 => ("CeilingWorkbenchModel", "error", "I", false)
  | 33 => ("CeilingWorkbenchModel", "arguments", "[I", true)
  | 34 => ("CeilingWorkbenchModel", "isKept", "Z", false)
  | 35 => ("CeilingWorkbenchModel", "kept", "[I", true)
  | 36 => ("CeilingWorkbenchModel", "keptAt", "I", false)
  | _ => ("CeilingWorkbenchModel", "isBack", "Z", false)
def tyX8 : Nat → FieldType := fun k => match k with
  | 0 => .int
  | 1 => .int
  | 2 => .int
  | 3 => .array .int
  | 4 => .array .int
  | 5 => .array .int
  | 6 => .int
  | 7 => .int
  | 8 => .int
  | 9 => .int
  | 10 => .array .int
  | 11 => .int
  | 12 => .array .int
  | 13 => .array .int
  | 14 => .array .int
  | 15 => .array .int
  | 16 => .array .int
  | 17 => .array .int
  | 18 => .array .int
  | 19 => .int
  | 20 => .int
  | 21 => .int
  | 22 => .int
  | 23 => .array .int
  | 24 => .array .int
  | 25 => .array .int
  | 26 => .int
  | 27 => .array .char
  | 28 => .int
  | 29 => .int
  | 30 => .int
  | 31 => .int
  | 32 => .int
  | 33 => .array .int
  | 34 => .boolean
  | 35 => .array .int
  | 36 => .int
  | _ => .boolean
theorem nmX8 : ∀ a, a < 38 → ∀ b, b < 38 → a ≠ b → (TX8 a).2.1 ≠ (TX8 b).2.1 := by decide +kernel
theorem tyX8_ok : ∀ k, k < 38 → parseFieldDescriptor (TX8 k).2.2.1 = some (tyX8 k) := by decide +kernel
abbrev cX8_init : ByteArray := prog_10_method_1_code
def yX8_init : MethodName := ⟨RX8, "<init>", "()V"⟩
abbrev cX8_isIn : ByteArray := prog_10_method_2_code
def yX8_isIn : MethodName := ⟨RX8, "isIn", "(III)Z"⟩
abbrev cX8_thrown : ByteArray := prog_10_method_3_code
def yX8_thrown : MethodName := ⟨RX8, "thrown", "()I"⟩
abbrev cX8_fail : ByteArray := prog_10_method_4_code
def yX8_fail : MethodName := ⟨RX8, "fail", "(I)I"⟩
abbrev cX8_hasServer : ByteArray := prog_10_method_5_code
def yX8_hasServer : MethodName := ⟨RX8, "hasServer", "()Z"⟩
abbrev cX8_isTask : ByteArray := prog_10_method_6_code
def yX8_isTask : MethodName := ⟨RX8, "isTask", "(I)Z"⟩
abbrev cX8_priorityOf : ByteArray := prog_10_method_7_code
def yX8_priorityOf : MethodName := ⟨RX8, "priorityOf", "(I)I"⟩
abbrev cX8_periodOf : ByteArray := prog_10_method_8_code
def yX8_periodOf : MethodName := ⟨RX8, "periodOf", "(I)I"⟩
abbrev cX8_lengthAt : ByteArray := prog_10_method_9_code
def yX8_lengthAt : MethodName := ⟨RX8, "lengthAt", "(II)I"⟩
abbrev cX8_resourceAt : ByteArray := prog_10_method_10_code
def yX8_resourceAt : MethodName := ⟨RX8, "resourceAt", "(II)I"⟩
abbrev cX8_demandOf : ByteArray := prog_10_method_11_code
def yX8_demandOf : MethodName := ⟨RX8, "demandOf", "(I)I"⟩
abbrev cX8_restart : ByteArray := prog_10_method_12_code
def yX8_restart : MethodName := ⟨RX8, "restart", "()V"⟩
abbrev cX8_clear : ByteArray := prog_10_method_13_code
def yX8_clear : MethodName := ⟨RX8, "clear", "()I"⟩
abbrev cX8_isTaken : ByteArray := prog_10_method_14_code
def yX8_isTaken : MethodName := ⟨RX8, "isTaken", "(I)Z"⟩
abbrev cX8_addTask : ByteArray := prog_10_method_15_code
def yX8_addTask : MethodName := ⟨RX8, "addTask", "(IIII)I"⟩
abbrev cX8_addSegment : ByteArray := prog_10_method_16_code
def yX8_addSegment : MethodName := ⟨RX8, "addSegment", "(III)I"⟩
abbrev cX8_setServer : ByteArray := prog_10_method_17_code
def yX8_setServer : MethodName := ⟨RX8, "setServer", "(III)Z"⟩
abbrev cX8_request : ByteArray := prog_10_method_18_code
def yX8_request : MethodName := ⟨RX8, "request", "(II)I"⟩
abbrev cX8_setPolicy : ByteArray := prog_10_method_19_code
def yX8_setPolicy : MethodName := ⟨RX8, "setPolicy", "(I)I"⟩
abbrev cX8_taskCount : ByteArray := prog_10_method_20_code
def yX8_taskCount : MethodName := ⟨RX8, "taskCount", "()I"⟩
abbrev cX8_task : ByteArray := prog_10_method_21_code
def yX8_task : MethodName := ⟨RX8, "task", "(II)I"⟩
abbrev cX8_ceilingOf : ByteArray := prog_10_method_22_code
def yX8_ceilingOf : MethodName := ⟨RX8, "ceilingOf", "(I)I"⟩
abbrev cX8_ceiling : ByteArray := prog_10_method_23_code
def yX8_ceiling : MethodName := ⟨RX8, "ceiling", "(I)I"⟩
abbrev cX8_blockingOf : ByteArray := prog_10_method_24_code
def yX8_blockingOf : MethodName := ⟨RX8, "blockingOf", "(I)I"⟩
abbrev cX8_blocking : ByteArray := prog_10_method_25_code
def yX8_blocking : MethodName := ⟨RX8, "blocking", "(I)I"⟩
abbrev cX8_quotientUp : ByteArray := prog_10_method_26_code
def yX8_quotientUp : MethodName := ⟨RX8, "quotientUp", "(II)I"⟩
abbrev cX8_workUpTo : ByteArray := prog_10_method_27_code
def yX8_workUpTo : MethodName := ⟨RX8, "workUpTo", "(II)I"⟩
abbrev cX8_boundOf : ByteArray := prog_10_method_28_code
def yX8_boundOf : MethodName := ⟨RX8, "boundOf", "(I)I"⟩
abbrev cX8_bound : ByteArray := prog_10_method_29_code
def yX8_bound : MethodName := ⟨RX8, "bound", "(I)I"⟩
abbrev cX8_comes : ByteArray := prog_10_method_30_code
def yX8_comes : MethodName := ⟨RX8, "comes", "(II)I"⟩
abbrev cX8_witness : ByteArray := prog_10_method_31_code
def yX8_witness : MethodName := ⟨RX8, "witness", "(I)I"⟩
abbrev cX8_isSchedulable : ByteArray := prog_10_method_32_code
def yX8_isSchedulable : MethodName := ⟨RX8, "isSchedulable", "()Z"⟩
abbrev cX8_load : ByteArray := prog_10_method_33_code
def yX8_load : MethodName := ⟨RX8, "load", "()D"⟩
abbrev cX8_hyperbolicLoad : ByteArray := prog_10_method_34_code
def yX8_hyperbolicLoad : MethodName := ⟨RX8, "hyperbolicLoad", "()D"⟩
abbrev cX8_takeReplenishments : ByteArray := prog_10_method_35_code
def yX8_takeReplenishments : MethodName := ⟨RX8, "takeReplenishments", "()V"⟩
abbrev cX8_release : ByteArray := prog_10_method_36_code
def yX8_release : MethodName := ⟨RX8, "release", "()V"⟩
abbrev cX8_takeJob : ByteArray := prog_10_method_37_code
def yX8_takeJob : MethodName := ⟨RX8, "takeJob", "(II)V"⟩
abbrev cX8_meetDeadlines : ByteArray := prog_10_method_38_code
def yX8_meetDeadlines : MethodName := ⟨RX8, "meetDeadlines", "()V"⟩
abbrev cX8_segmentNow : ByteArray := prog_10_method_39_code
def yX8_segmentNow : MethodName := ⟨RX8, "segmentNow", "(IZ)I"⟩
abbrev cX8_heldBy : ByteArray := prog_10_method_40_code
def yX8_heldBy : MethodName := ⟨RX8, "heldBy", "(I)I"⟩
abbrev cX8_activeOf : ByteArray := prog_10_method_41_code
def yX8_activeOf : MethodName := ⟨RX8, "activeOf", "(I)I"⟩
abbrev cX8_firstRequest : ByteArray := prog_10_method_42_code
def yX8_firstRequest : MethodName := ⟨RX8, "firstRequest", "(I)I"⟩
abbrev cX8_isReady : ByteArray := prog_10_method_43_code
def yX8_isReady : MethodName := ⟨RX8, "isReady", "(I)Z"⟩
abbrev cX8_mostUrgent : ByteArray := prog_10_method_44_code
def yX8_mostUrgent : MethodName := ⟨RX8, "mostUrgent", "()I"⟩
abbrev cX8_runServer : ByteArray := prog_10_method_45_code
def yX8_runServer : MethodName := ⟨RX8, "runServer", "()V"⟩
abbrev cX8_runJob : ByteArray := prog_10_method_46_code
def yX8_runJob : MethodName := ⟨RX8, "runJob", "(I)I"⟩
abbrev cX8_countPreemption : ByteArray := prog_10_method_47_code
def yX8_countPreemption : MethodName := ⟨RX8, "countPreemption", "(I)V"⟩
abbrev cX8_endBusy : ByteArray := prog_10_method_48_code
def yX8_endBusy : MethodName := ⟨RX8, "endBusy", "()V"⟩
abbrev cX8_makeUnit : ByteArray := prog_10_method_49_code
def yX8_makeUnit : MethodName := ⟨RX8, "makeUnit", "()I"⟩
abbrev cX8_run : ByteArray := prog_10_method_50_code
def yX8_run : MethodName := ⟨RX8, "run", "(I)I"⟩
abbrev cX8_rewind : ByteArray := prog_10_method_51_code
def yX8_rewind : MethodName := ⟨RX8, "rewind", "()I"⟩
abbrev cX8_clock : ByteArray := prog_10_method_52_code
def yX8_clock : MethodName := ⟨RX8, "clock", "()I"⟩
abbrev cX8_ranAt : ByteArray := prog_10_method_53_code
def yX8_ranAt : MethodName := ⟨RX8, "ranAt", "(I)I"⟩
abbrev cX8_pending : ByteArray := prog_10_method_54_code
def yX8_pending : MethodName := ⟨RX8, "pending", "(I)I"⟩
abbrev cX8_activePriority : ByteArray := prog_10_method_55_code
def yX8_activePriority : MethodName := ⟨RX8, "activePriority", "(I)I"⟩
abbrev cX8_holder : ByteArray := prog_10_method_56_code
def yX8_holder : MethodName := ⟨RX8, "holder", "(I)I"⟩
abbrev cX8_result : ByteArray := prog_10_method_57_code
def yX8_result : MethodName := ⟨RX8, "result", "(II)I"⟩
abbrev cX8_averageResponse : ByteArray := prog_10_method_58_code
def yX8_averageResponse : MethodName := ⟨RX8, "averageResponse", "(I)F"⟩
abbrev cX8_balance : ByteArray := prog_10_method_59_code
def yX8_balance : MethodName := ⟨RX8, "balance", "()I"⟩
abbrev cX8_nextReplenishment : ByteArray := prog_10_method_60_code
def yX8_nextReplenishment : MethodName := ⟨RX8, "nextReplenishment", "()I"⟩
abbrev cX8_requestResponse : ByteArray := prog_10_method_61_code
def yX8_requestResponse : MethodName := ⟨RX8, "requestResponse", "(I)I"⟩
abbrev cX8_utilization : ByteArray := prog_10_method_62_code
def yX8_utilization : MethodName := ⟨RX8, "utilization", "()D"⟩
abbrev cX8_append : ByteArray := prog_10_method_63_code
def yX8_append : MethodName := ⟨RX8, "append", "(C)I"⟩
abbrev cX8_sign : ByteArray := prog_10_method_64_code
def yX8_sign : MethodName := ⟨RX8, "sign", "()I"⟩
abbrev cX8_take : ByteArray := prog_10_method_65_code
def yX8_take : MethodName := ⟨RX8, "take", "(C)V"⟩
abbrev cX8_takeAll : ByteArray := prog_10_method_66_code
def yX8_takeAll : MethodName := ⟨RX8, "takeAll", "(CCCCCCC)V"⟩
abbrev cX8_number : ByteArray := prog_10_method_67_code
def yX8_number : MethodName := ⟨RX8, "number", "()I"⟩
abbrev cX8_resource : ByteArray := prog_10_method_68_code
def yX8_resource : MethodName := ⟨RX8, "resource", "()I"⟩
abbrev cX8_policyName : ByteArray := prog_10_method_69_code
def yX8_policyName : MethodName := ⟨RX8, "policyName", "()I"⟩
abbrev cX8_readNumbers : ByteArray := prog_10_method_70_code
def yX8_readNumbers : MethodName := ⟨RX8, "readNumbers", "(I)V"⟩
abbrev cX8_readCommand : ByteArray := prog_10_method_71_code
def yX8_readCommand : MethodName := ⟨RX8, "readCommand", "()I"⟩
abbrev cX8_doCommand : ByteArray := prog_10_method_72_code
def yX8_doCommand : MethodName := ⟨RX8, "doCommand", "(I)I"⟩
abbrev cX8_configure : ByteArray := prog_10_method_73_code
def yX8_configure : MethodName := ⟨RX8, "configure", "()I"⟩
abbrev cX8_errorPosition : ByteArray := prog_10_method_74_code
def yX8_errorPosition : MethodName := ⟨RX8, "errorPosition", "()I"⟩
abbrev cX8_pass : ByteArray := prog_10_method_75_code
def yX8_pass : MethodName := ⟨RX8, "pass", "(I)I"⟩
abbrev cX8_passRow : ByteArray := prog_10_method_76_code
def yX8_passRow : MethodName := ⟨RX8, "passRow", "([I)V"⟩
abbrev cX8_passAll : ByteArray := prog_10_method_77_code
def yX8_passAll : MethodName := ⟨RX8, "passAll", "(Z)V"⟩
abbrev cX8_snapshot : ByteArray := prog_10_method_78_code
def yX8_snapshot : MethodName := ⟨RX8, "snapshot", "()I"⟩
abbrev cX8_restore : ByteArray := prog_10_method_79_code
def yX8_restore : MethodName := ⟨RX8, "restore", "()I"⟩
def RL : String := "CeilingWorkbenchLaw"
abbrev cL_addTask : ByteArray := method_3_code
def yL_addTask : MethodName := ⟨RL, "addTask", "(LCeilingWorkbench;IIII[J)I"⟩
abbrev cL_addSegment : ByteArray := method_4_code
def yL_addSegment : MethodName := ⟨RL, "addSegment", "(LCeilingWorkbench;III[J)I"⟩
abbrev cL_setServer : ByteArray := method_5_code
def yL_setServer : MethodName := ⟨RL, "setServer", "(LCeilingWorkbench;III[J)I"⟩
abbrev cL_request : ByteArray := method_6_code
def yL_request : MethodName := ⟨RL, "request", "(LCeilingWorkbench;II[J)I"⟩
abbrev cL_setPolicy : ByteArray := method_7_code
def yL_setPolicy : MethodName := ⟨RL, "setPolicy", "(LCeilingWorkbench;I[J)I"⟩
abbrev cL_append : ByteArray := method_8_code
def yL_append : MethodName := ⟨RL, "append", "(LCeilingWorkbench;C[J)I"⟩
abbrev cL_configure : ByteArray := method_9_code
def yL_configure : MethodName := ⟨RL, "configure", "(LCeilingWorkbench;[J)I"⟩
abbrev cL_errorPosition : ByteArray := method_10_code
def yL_errorPosition : MethodName := ⟨RL, "errorPosition", "(LCeilingWorkbench;[J)I"⟩
abbrev cL_task : ByteArray := method_11_code
def yL_task : MethodName := ⟨RL, "task", "(LCeilingWorkbench;II[J)I"⟩
abbrev cL_ceiling : ByteArray := method_12_code
def yL_ceiling : MethodName := ⟨RL, "ceiling", "(LCeilingWorkbench;I[J)I"⟩
abbrev cL_blocking : ByteArray := method_13_code
def yL_blocking : MethodName := ⟨RL, "blocking", "(LCeilingWorkbench;I[J)I"⟩
abbrev cL_bound : ByteArray := method_14_code
def yL_bound : MethodName := ⟨RL, "bound", "(LCeilingWorkbench;I[J)I"⟩
abbrev cL_witness : ByteArray := method_15_code
def yL_witness : MethodName := ⟨RL, "witness", "(LCeilingWorkbench;I[J)I"⟩
abbrev cL_run : ByteArray := method_16_code
def yL_run : MethodName := ⟨RL, "run", "(LCeilingWorkbench;I[J)I"⟩
abbrev cL_ranAt : ByteArray := method_17_code
def yL_ranAt : MethodName := ⟨RL, "ranAt", "(LCeilingWorkbench;I[J)I"⟩
abbrev cL_pending : ByteArray := method_18_code
def yL_pending : MethodName := ⟨RL, "pending", "(LCeilingWorkbench;I[J)I"⟩
abbrev cL_activePriority : ByteArray := method_19_code
def yL_activePriority : MethodName := ⟨RL, "activePriority", "(LCeilingWorkbench;I[J)I"⟩
abbrev cL_holder : ByteArray := method_20_code
def yL_holder : MethodName := ⟨RL, "holder", "(LCeilingWorkbench;I[J)I"⟩
abbrev cL_result : ByteArray := method_21_code
def yL_result : MethodName := ⟨RL, "result", "(LCeilingWorkbench;II[J)I"⟩
abbrev cL_averageResponse : ByteArray := method_22_code
def yL_averageResponse : MethodName := ⟨RL, "averageResponse", "(LCeilingWorkbench;I[D)I"⟩
abbrev cL_balance : ByteArray := method_23_code
def yL_balance : MethodName := ⟨RL, "balance", "(LCeilingWorkbench;[J)I"⟩
abbrev cL_nextReplenishment : ByteArray := method_24_code
def yL_nextReplenishment : MethodName := ⟨RL, "nextReplenishment", "(LCeilingWorkbench;[J)I"⟩
abbrev cL_requestResponse : ByteArray := method_25_code
def yL_requestResponse : MethodName := ⟨RL, "requestResponse", "(LCeilingWorkbench;I[J)I"⟩
abbrev cL_utilization : ByteArray := method_26_code
def yL_utilization : MethodName := ⟨RL, "utilization", "(LCeilingWorkbench;[D)I"⟩
abbrev cL_restore : ByteArray := method_27_code
def yL_restore : MethodName := ⟨RL, "restore", "(LCeilingWorkbench;[J)I"⟩
abbrev cL_law : ByteArray := code
def yL_law : MethodName := ⟨RL, "law", "([I)Z"⟩
end
section
/-! ===== BEGIN words of one list among another's, by their places ===== -/
theorem goodIn_r {big : List Cond} (ws : List Cond) (ps : List Nat) (hp : ws = ps.filterMap (fun i => big[i]?)) (h : ws.all goodWord = true) : GoodIn big ws := by
  intro w hw
  have h1 := List.all_eq_true.mp h w hw
  rw [hp] at hw
  obtain ⟨i, -, hi⟩ := List.mem_filterMap.mp hw
  have hm : w ∈ big := by first | exact List.mem_of_getElem? hi | exact List.getElem?_mem hi
  exact ⟨hm, good_of_word h1⟩
theorem goodIn_app {big a b : List Cond} (ha : GoodIn big a) (hb : GoodIn big b) : GoodIn big (a ++ b) := fun w h => (List.mem_append.mp h).elim (ha w) (hb w)
theorem goodIn_ca {big a b : List Cond} {c : Cond} (ha : GoodIn big (c :: a)) (hb : GoodIn big b) : GoodIn big (c :: (a ++ b)) := fun w h => (List.mem_cons.mp h).elim (fun e => ha w (List.mem_cons.mpr (Or.inl e))) (fun h => (List.mem_append.mp h).elim (fun h => ha w (List.mem_cons.mpr (Or.inr h))) (hb w))
theorem goodIn_sub {big ws : List Cond} (hm : ∀ w ∈ ws, w ∈ big) (h : ws.all goodWord = true) : GoodIn big ws := fun w hw => ⟨hm w hw, good_of_word (List.all_eq_true.mp h w hw)⟩
/-! ===== END ===== -/

/-! ===== BEGIN exceptions that leave a method, and their catching by the caller (launches without stack traces) ===== -/
section VXA
/-! The laws vx_back, vx_callV, vx_callS, vx_callSW, vx_throw0, vx_throwS follow proofs of the library, with one case more: JvmDerived/Free/Laws.lean (Back.of_free), Shelf42/LK1.lean (callV, callS), Shelf/KitTraced.lean (throwNew0V, throwNewS). -/
/-- where a method has thrown q: the class by its name, the cell, what was written, the world -/
def vx_T (XC : String → State → State → Prop) (st : State) (q : Addr) (t : State) (mc ms : Nat) (free : Addr → Prop) : Prop :=
  ∃ (E : String) (ce : Cell) (L : List Loc), XC E st t ∧ t.heap[q]? = some ce ∧ ce.vm = .none ∧ st.vm.findClass E = some ce.cls ∧ st.WarmedH t.vm ∧ st.sameButNew ({ t with vm := st.vm } : State) L mc ms ∧ ∀ z ∈ L, free z.base
def vx_Q (Qc : Array Value → State → Outcome → State → Prop) (XC : String → State → State → Prop) (mc ms : Nat) (free : Addr → Prop) : Array Value → State → Outcome → State → Prop := fun a st o t =>
  (Qc a st o t ∧ ∃ L, FrameEnd st o t L mc ms ∧ ∀ q ∈ L, free q.base) ∨ ∃ q, o = .threw q ∧ vx_T XC st q t mc ms free
/-- a callee that returns or throws -/
def vx_Met (l : Launch) (y : MethodName) (ws : List Cond) (rm : Room) (Pc : Array Value → State → Prop) (Qc : Array Value → State → Outcome → State → Prop) (XC : String → State → State → Prop) (mc ms : Nat) (free : Addr → Prop) : Prop :=
  MetFree l y (headSpec ws rm) Pc (fun _ _ _ _ _ => True) (vx_Q Qc XC mc ms free)
def vx_Post (XC : String → State → State → Prop) (mc ms : Nat) (free : Addr → Prop) : Pt → Array Value → Addr → Pt → Prop := fun A a q B =>
  ∃ (g : JFrame) (mk : MethodId) (t : State) (L : List Loc) (E : String) (ce : Cell), B.U.heap = t.heap ∧ B.U.vm = t.vm ∧ XC E (A.U.calling g mk a) t ∧ t.heap[q]? = some ce ∧ ce.vm = .none ∧ A.U.vm.findClass E = some ce.cls ∧ B.locs = A.locs ++ L ∧ (∀ z ∈ L, free z.base) ∧ B.cells = A.cells + mc ∧ B.slots = A.slots + ms
def vx_Back (l : Launch) (R : Room) (p : Program) (e : Env) (below : List Frame) (s : State) (sargs : Array Value) (y : MethodName) (len W9 : Nat)
    (Pre : Pt → Array Value → Prop) (Post : Pt → Array Value → Option Value → Pt → Prop) (PostX : Pt → Array Value → Addr → Pt → Prop) : Prop :=
  ∀ (m : MethodId) (meth : Method) (c : Code) (A : Pt) (g : JFrame) (ig : Instr) (mk : MethodId) (a : Array Value),
    Stand p l e R s m sargs below meth c A.U A.locs A.cells A.slots → g.method = m → g.locals.size = c.maxLocals → decode c.code g.pc = .ok (ig, len) →
    2 * g.monitorRoom + (g.stack.map fun v => v.category).sum ≤ W9 → A.U.methodNamed? y = some mk → Pre A a →
    (∃ (v : Option Value) (B : Pt), Stand p l e R s m sargs below meth c B.U B.locs B.cells B.slots ∧ Post A a v B ∧
      Steps p.tables e below (doInvoke e (A.U.setTop g) [] mk a).1 (B.U.setTop { g with pc := g.pc + len, stack := v.toList ++ g.stack })) ∨
    (∃ (q : Addr) (B : Pt), Stand p l e R s m sargs below meth c B.U B.locs B.cells B.slots ∧ PostX A a q B ∧
      Steps p.tables e below (doInvoke e (A.U.setTop g) [] mk a).1 ((B.U.setTop g).pushFrame (.throwing q)))
section Payer
variable {l : Launch} {R : Room} {p : Program} {e : Env} {below : List Frame} {s : State} {sargs : Array Value} {y : MethodName} {len W9 : Nat}
theorem vx_back {ws : List Cond} {rm : Room} {Pc : Array Value → State → Prop} {Qc : Array Value → State → Outcome → State → Prop} {XC : String → State → State → Prop} {mc ms : Nat} {free : Addr → Prop} {bytes : ByteArray} {maxL : Nat} {ret : Option FieldType}
    (hM : vx_Met l y ws rm Pc Qc XC mc ms free) (hblind : FrameBlind Pc) (hrc : rm.cells = mc) (hrs : rm.slots = ms)
    (hframes : rm.frames + 1 ≤ R.frames) (hlocals : W9 + (maxL + 11) + rm.locals ≤ R.locals)
    (hws : ∀ w ∈ ws, ∀ a' U, s.WarmedH U.vm → w.before a' U = true) (hcode : Cond.code y bytes maxL ret ∈ ws) (hinit : ∀ a' U, s.WarmedH U.vm → (Cond.initialized y.cls).before a' U = true) :
    vx_Back l R p e below s sargs y len W9 (PreOf R mc ms Pc) (PostOf Qc mc ms free) (vx_Post XC mc ms free) := by
  intro m meth c A g ig mk a X hg hsize hdg hW hn hp
  have h1 : (headSpec ws rm).pre.before a A.U = true := atoms_intro fun w hw => hws w hw _ _ X.warmed
  have h2 : (Cond.code y bytes maxL ret).before a A.U = true := hws _ hcode _ _ X.warmed
  have h3 : (Cond.initialized y.cls).before a A.U = true := hinit _ _ X.warmed
  have h4 : A.cells + (headSpec ws rm).room.cells ≤ R.cells := by rw [show (headSpec ws rm).room.cells = mc from hrc]; exact hp.1
  have h5 : A.slots + (headSpec ws rm).room.slots ≤ R.slots := by rw [show (headSpec ws rm).room.slots = ms from hrs]; exact hp.2.1
  have hPc : Pc a (A.U.calling g mk a) := hblind _ _ _ _ hp.2.2
  obtain ⟨U, Ls, c0, s0⟩ := A
  dsimp only [Pt.U, Pt.locs, Pt.cells, Pt.slots] at h1 h2 h3 h4 h5 X hn hPc ⊢
  obtain ⟨methY, cY, hmY, hcY, -, hlY, -, -, -, -⟩ := Cond.code_spec hn h2
  obtain ⟨kY, hkY, -⟩ := className_of_methodNamed hn
  have hinitY : kY.init = .initialized := Cond.initialized_spec (findClass_of_methodNamed hn) hkY h3
  have h : At U g.method c below := by rw [hg]; exact X.here
  have hlocals9 : W9 + (maxL + 11) + (headSpec ws rm).room.locals ≤ R.locals := hlocals
  have happ : (headSpec ws rm).appliesLoose y e.platform (U.calling g mk a) = true :=
    Spec.appliesLoose_calling (g := g) h hdg hn hkY hinitY
      (X.room_calling (g := g) (R' := (headSpec ws rm).room) hsize hmY hcY hframes (by rw [hlY]; omega) h4 h5) h1
  obtain ⟨mid, hmid⟩ := h.above
  have hfr : (U.setTop g).frames = (.java g :: mid) ++ below := by rw [State.frames_setTop' g h.top, hmid]; rfl
  obtain ⟨o, s₂, hsteps, -, hend, hq⟩ := Steps.callFree hM p X.admits X.cas X.clock (acts := []) hfr happ hPc trivial
  have hq' : vx_Q Qc XC mc ms free a (U.calling g mk a) o s₂ := hq
  rw [State.frames_setTop' g h.top] at hend
  obtain ⟨g₀, hg0⟩ := Option.isSome_iff_exists.mp h.top
  obtain ⟨r, hr⟩ := State.topJava?_eq_some.mp hg0
  have hr' : (({ U with heap := s₂.heap, slotsUsed := s₂.slotsUsed } : State).setVm s₂.vm).frames = .java g₀ :: r := hr
  rcases hq' with ⟨hqc, L, hfe, hL⟩ | ⟨q, rfl, E, ce, L, hx, hce, hcv, hcl, hW₂, hsm, hL⟩
  · obtain ⟨⟨v, rfl⟩, hW₂, e2, q2, q3, q4, q5, q6⟩ := id hfe
    have e3 : s₂ = ({ (U.calling g mk a).setFrames s₂.frames with heap := s₂.heap, slotsUsed := s₂.slotsUsed } : State).setVm s₂.vm := by
      have : s₂ = ({ s₂ with vm := (U.calling g mk a).vm } : State).setVm s₂.vm := rfl
      rw [e2] at this
      exact this
    obtain ⟨c₂, i₂, len₂, hc₂, hd₂, hf₂⟩ := hend
    have hW' : U.WarmedH s₂.vm := hW₂
    have hcc : c₂ = c := by
      have h1 : s₂.code? g.method = U.code? g.method := by
        rw [State.code?_eq, State.code?_eq, hW'.alike.method?]
      exact Option.some.inj (hc₂.symm.trans (h1.trans h.code))
    subst hcc
    have hlen : len₂ = len := by rw [hdg] at hd₂; cases hd₂; rfl
    subst hlen
    have hs₂ : s₂ = (({ U with heap := s₂.heap, slotsUsed := s₂.slotsUsed } : State).setVm s₂.vm).setTop { g with pc := g.pc + len₂, stack := v.toList ++ g.stack } := by
      refine e3.trans ?_
      rw [hf₂, State.calling_eq h.top, State.setFrames_setFrames, State.setTop_of_frames _ hr', hr]
      rfl
    have hsame : U.sameButNew ({ U with heap := s₂.heap, slotsUsed := s₂.slotsUsed } : State) L mc ms := by
      refine ⟨?_, q2, q3, q4, q5, q6⟩
      obtain ⟨t, ht, -⟩ := State.frames_cons hr
      show ({ U with heap := s₂.heap, slotsUsed := s₂.slotsUsed } : State) = { U.setFrames U.frames with heap := s₂.heap, slotsUsed := s₂.slotsUsed }
      rw [State.setFrames_self ht]
    subst hg
    refine Or.inl ⟨v, ⟨(({ U with heap := s₂.heap, slotsUsed := s₂.slotsUsed } : State).setVm s₂.vm), Ls ++ L, c0 + mc, s0 + ms⟩,
      ⟨X.admits, X.cas, X.clock, X.frames, X.room, X.hears, X.method, X.code, (X.here.setHeapUsed s₂.heap s₂.slotsUsed).setVm hW'.alike, X.tail, State.WarmedH.trans X.warmed hW', X.limits, X.bytes, X.same.trans (hsame.setVm s.vm)⟩,
      ⟨g, mk, s₂, L, rfl, rfl, hqc, rfl, hL, rfl, rfl⟩, ?_⟩
    show Steps p.tables e below _ ((({ U with heap := s₂.heap, slotsUsed := s₂.slotsUsed } : State).setVm s₂.vm).setTop { g with pc := g.pc + len₂, stack := v.toList ++ g.stack })
    rw [← hs₂]
    exact hsteps
  · obtain ⟨e2, q2, q3, q4, q5, q6⟩ := id hsm
    have e3 : s₂ = ({ (U.calling g mk a).setFrames s₂.frames with heap := s₂.heap, slotsUsed := s₂.slotsUsed } : State).setVm s₂.vm := by
      have : s₂ = ({ s₂ with vm := (U.calling g mk a).vm } : State).setVm s₂.vm := rfl
      rw [e2] at this
      exact this
    have hf₂ : s₂.frames = .throwing q :: .java g :: U.frames.tail := hend
    have hW' : U.WarmedH s₂.vm := hW₂
    have hs₂ : s₂ = ((({ U with heap := s₂.heap, slotsUsed := s₂.slotsUsed } : State).setVm s₂.vm).setTop g).pushFrame (.throwing q) := by
      refine e3.trans ?_
      rw [hf₂, State.calling_eq h.top, State.setFrames_setFrames, State.pushFrame, State.frames_setTop _ hr', State.setTop_of_frames _ hr', State.setFrames_setFrames, hr]
      rfl
    have hsame : U.sameButNew ({ U with heap := s₂.heap, slotsUsed := s₂.slotsUsed } : State) L mc ms := by
      refine ⟨?_, q2, q3, q4, q5, q6⟩
      obtain ⟨t, ht, -⟩ := State.frames_cons hr
      show ({ U with heap := s₂.heap, slotsUsed := s₂.slotsUsed } : State) = { U.setFrames U.frames with heap := s₂.heap, slotsUsed := s₂.slotsUsed }
      rw [State.setFrames_self ht]
    subst hg
    refine Or.inr ⟨q, ⟨(({ U with heap := s₂.heap, slotsUsed := s₂.slotsUsed } : State).setVm s₂.vm), Ls ++ L, c0 + mc, s0 + ms⟩,
      ⟨X.admits, X.cas, X.clock, X.frames, X.room, X.hears, X.method, X.code, (X.here.setHeapUsed s₂.heap s₂.slotsUsed).setVm hW'.alike, X.tail, State.WarmedH.trans X.warmed hW', X.limits, X.bytes, X.same.trans (hsame.setVm s.vm)⟩,
      ⟨g, mk, s₂, L, E, ce, rfl, rfl, hx, hce, hcv, hcl, rfl, hL, rfl, rfl⟩, ?_⟩
    show Steps p.tables e below _ (((({ U with heap := s₂.heap, slotsUsed := s₂.slotsUsed } : State).setVm s₂.vm).setTop g).pushFrame (.throwing q))
    rw [← hs₂]
    exact hsteps
end Payer
section Calls
variable {p : Program} {l : Launch} {e : Env} {R : Room} {s : State} {m : MethodId} {args : Array Value} {below : List Frame} {meth : Method} {c : Code} {T : State} {locs : List Loc} {cells slots : Nat}
theorem vx_callV (X : Stand p l e R s m args below meth c T locs cells slots) (hexec : p.tables.exec = Jvm.exec) {own C : String} {index : Nat} {y : MethodName} {bytes : ByteArray} {maxL : Nat} {ret : Option FieldType}
    (hown : s.vm.findClass own = some m.cls) (hlink : (Cond.methodLink own index y).before args s = true) (hinst : (Cond.instanceMethod y).before args s = true) (hsel : (Cond.selects C y y).before args s = true)
    (hcode : (Cond.code y bytes maxL ret).before args s = true) (hy : y.cls ≠ "java/lang/invoke/MethodHandle" ∧ y.cls ≠ "java/lang/invoke/VarHandle")
    {W9 : Nat} {Pre : Pt → Array Value → Prop} {Post : Pt → Array Value → Option Value → Pt → Prop} {PostX : Pt → Array Value → Addr → Pt → Prop} (hK : vx_Back l R p e below s args y 3 W9 Pre Post PostX)
    {b : Addr} {cellB : Cell} (hcell : T.heap[b]? = some cellB) (hobj : cellB.vm.isStatics = false) (hcls : s.vm.findClass C = some cellB.cls)
    {g : JFrame} (hg : g.method = m) (hsize : g.locals.size = c.maxLocals) {argsL rest : List Value} (hlen : ∀ sig, parseMethodDescriptor y.desc = some sig → argsL.length = sig.parameters.length)
    (hstack : g.stack = argsL.reverse ++ .ref b :: rest) (hW : 2 * g.monitorRoom + (rest.map fun v => v.category).sum ≤ W9) (hdg : decode c.code g.pc = .ok (.invokevirtual index, 3))
    (hpre : ∀ vm₁, s.WarmedH vm₁ → Pre ⟨T.setVm vm₁, locs, cells, slots⟩ (Value.ref b :: argsL).toArray) :
    (∃ (v : Option Value) (vm₁ : Vm) (B : Pt), s.WarmedH vm₁ ∧ Stand p l e R s m args below meth c B.U B.locs B.cells B.slots ∧ Post ⟨T.setVm vm₁, locs, cells, slots⟩ (Value.ref b :: argsL).toArray v B ∧
      ∀ target, Steps p.tables e below (B.U.setTop { g with pc := g.pc + 3, stack := v.toList ++ rest }) target → Steps p.tables e below (T.setTop g) target) ∨
    (∃ (q : Addr) (vm₁ : Vm) (B : Pt), s.WarmedH vm₁ ∧ Stand p l e R s m args below meth c B.U B.locs B.cells B.slots ∧ PostX ⟨T.setVm vm₁, locs, cells, slots⟩ (Value.ref b :: argsL).toArray q B ∧
      Steps p.tables e below (T.setTop g) ((B.U.setTop { g with stack := rest }).pushFrame (.throwing q))) := by
  obtain ⟨mk, methM, hnamed, hmethM, hstM, habM⟩ := Cond.instanceMethod_spec hinst
  obtain ⟨methM', cM, hmethM', -, -, -, -, -, -, hsigM⟩ := Cond.code_spec hnamed hcode
  cases hmethM.symm.trans hmethM'
  obtain ⟨c2, r2, m2, q1, q2, q3, q4, kP, hkP, hkPi⟩ := Cond.selects_spec hsel
  cases hcls.symm.trans q1
  cases (State.methodFound?_of_named hnamed hy).symm.trans q2
  cases hnamed.symm.trans q3
  have hselP : selectMethod e.platform s.vm cellB.cls mk = .method mk := by rw [Launch.admits_selectMethod X.admits]; exact q4
  obtain ⟨vm₁, X₁, hstep₁⟩ := X.invokevirtual hexec hown hlink hnamed hmethM hstM hkP hkPi hy (a := b) (cell := cellB) hcell
    (fun z h => by rw [h] at hobj; cases hobj) hselP hmethM habM hkP hkPi (g := g) hg (argsL := argsL) (rest := rest) (hlen _ hsigM) hstack hdg
  rcases hK m meth c ⟨T.setVm vm₁, locs, cells, slots⟩ { g with stack := rest } (.invokevirtual index) mk (Value.ref b :: argsL).toArray X₁ hg hsize hdg hW (X₁.named hnamed) (hpre vm₁ X₁.warmed) with ⟨v, B, X', hpost, hsteps⟩ | ⟨q, B, X', hpost, hsteps⟩
  · exact Or.inl ⟨v, vm₁, B, X₁.warmed, X', hpost, fun target h => hstep₁ _ fun acts => by rw [doInvoke_state]; exact hsteps.trans h⟩
  · exact Or.inr ⟨q, vm₁, B, X₁.warmed, X', hpost, hstep₁ _ fun acts => by rw [doInvoke_state]; exact hsteps⟩
theorem vx_callS (X : Stand p l e R s m args below meth c T locs cells slots) (hexec : p.tables.exec = Jvm.exec) {own : String} {index : Nat} {y : MethodName} {bytes : ByteArray} {maxL : Nat} {ret : Option FieldType}
    (hown : s.vm.findClass own = some m.cls) (hlink : (Cond.methodLink own index y).before args s = true) (hstat : (Cond.static y).before args s = true) (hinit : (Cond.initialized y.cls).before args s = true)
    (hcode : (Cond.code y bytes maxL ret).before args s = true) (hy : y.cls ≠ "java/lang/invoke/MethodHandle" ∧ y.cls ≠ "java/lang/invoke/VarHandle")
    {W9 : Nat} {Pre : Pt → Array Value → Prop} {Post : Pt → Array Value → Option Value → Pt → Prop} {PostX : Pt → Array Value → Addr → Pt → Prop} (hK : vx_Back l R p e below s args y 3 W9 Pre Post PostX)
    {g : JFrame} (hg : g.method = m) (hsize : g.locals.size = c.maxLocals) {argsL rest : List Value} (hlen : ∀ sig, parseMethodDescriptor y.desc = some sig → argsL.length = sig.parameters.length)
    (hstack : g.stack = argsL.reverse ++ rest) (hW : 2 * g.monitorRoom + (rest.map fun v => v.category).sum ≤ W9) (hdg : decode c.code g.pc = .ok (.invokestatic index, 3))
    (hpre : ∀ vm₁, s.WarmedH vm₁ → Pre ⟨T.setVm vm₁, locs, cells, slots⟩ argsL.toArray) :
    (∃ (v : Option Value) (vm₁ : Vm) (B : Pt), s.WarmedH vm₁ ∧ Stand p l e R s m args below meth c B.U B.locs B.cells B.slots ∧ Post ⟨T.setVm vm₁, locs, cells, slots⟩ argsL.toArray v B ∧
      ∀ target, Steps p.tables e below (B.U.setTop { g with pc := g.pc + 3, stack := v.toList ++ rest }) target → Steps p.tables e below (T.setTop g) target) ∨
    (∃ (q : Addr) (vm₁ : Vm) (B : Pt), s.WarmedH vm₁ ∧ Stand p l e R s m args below meth c B.U B.locs B.cells B.slots ∧ PostX ⟨T.setVm vm₁, locs, cells, slots⟩ argsL.toArray q B ∧
      Steps p.tables e below (T.setTop g) ((B.U.setTop { g with stack := rest }).pushFrame (.throwing q))) := by
  obtain ⟨mk, hnamed⟩ := Cond.code_named hcode
  obtain ⟨methM, cM, hmethM, -, -, -, -, -, -, hsigM⟩ := Cond.code_spec hnamed hcode
  have hstatic : methM.isStatic = true := Cond.static_spec hnamed hmethM hstat
  obtain ⟨kP, hkP, -⟩ := className_of_methodNamed hnamed
  have hinitP : kP.init = .initialized := Cond.initialized_spec (findClass_of_methodNamed hnamed) hkP hinit
  obtain ⟨vm₁, X₁, hstep₁⟩ := X.invokestatic hexec hown hlink hnamed hmethM hstatic hkP hinitP hy (g := g) hg (argsL := argsL) (rest := rest) (hlen _ hsigM) hstack hdg
  rcases hK m meth c ⟨T.setVm vm₁, locs, cells, slots⟩ { g with stack := rest } (.invokestatic index) mk argsL.toArray X₁ hg hsize hdg hW (X₁.named hnamed) (hpre vm₁ X₁.warmed) with ⟨v, B, X', hpost, hsteps⟩ | ⟨q, B, X', hpost, hsteps⟩
  · exact Or.inl ⟨v, vm₁, B, X₁.warmed, X', hpost, fun target h => hstep₁ _ fun acts => by rw [doInvoke_state]; exact hsteps.trans h⟩
  · exact Or.inr ⟨q, vm₁, B, X₁.warmed, X', hpost, hstep₁ _ fun acts => by rw [doInvoke_state]; exact hsteps⟩
end Calls
theorem vx_cls {s : State} {T : State} {vm₁ : Vm} {E : String} {k : ClassId} (hW : s.WarmedH vm₁) (h : (T.setVm vm₁).vm.findClass E = some k) : s.vm.findClass E = some k := by
  have h1 : vm₁.findClass E = some k := h
  rw [hW.alike.findClass] at h1
  exact h1
/-- the method's frame g, with q thrown over it -/
def vx_W (p : Program) (l : Launch) (e : Env) (R : Room) (s : State) (m : MethodId) (args : Array Value) (below : List Frame) (meth : Method) (c : Code) (H : Heap) (locs : List Loc) (cells slots : Nat) (Q : State → Prop) (g : JFrame) (q : Addr) : Prop :=
  ∀ T : State, T.heap = H → Stand p l e R s m args below meth c T locs cells slots → ∃ t, Steps p.tables e below ((T.setTop g).pushFrame (.throwing q)) t ∧ Q t
def vx_Run (p : Program) (l : Launch) (e : Env) (R : Room) (s : State) (m : MethodId) (args : Array Value) (below : List Frame) (meth : Method) (c : Code) (H : Heap) (locs : List Loc) (cells slots mc ms : Nat) (g : JFrame) (rest : List Value) (Qa : State → Outcome → State → Prop) (XC : String → State → State → Prop) (free : Addr → Prop) : Prop :=
  ∀ T : State, T.heap = H → Stand p l e R s m args below meth c T locs cells slots →
    (∃ (v : Option Value) (st₀ t T' : State) (L : List Loc), st₀.heap = H ∧ Stand p l e R s m args below meth c T' (locs ++ L) (cells + mc) (slots + ms) ∧ (∀ q ∈ L, free q.base) ∧ T'.heap = t.heap ∧ T'.vm = t.vm ∧ Qa st₀ (.returned v) t ∧
      Goes p e below T g T' { g with pc := g.pc + 3, stack := v.toList ++ rest }) ∨
    (∃ (q : Addr) (st₀ t T' : State) (L : List Loc) (E : String) (ce : Cell), st₀.heap = H ∧ Stand p l e R s m args below meth c T' (locs ++ L) (cells + mc) (slots + ms) ∧ (∀ z ∈ L, free z.base) ∧ T'.heap = t.heap ∧ T'.vm = t.vm ∧ XC E st₀ t ∧ t.heap[q]? = some ce ∧ ce.vm = .none ∧ s.vm.findClass E = some ce.cls ∧
      Steps p.tables e below (T.setTop g) ((T'.setTop { g with stack := rest }).pushFrame (.throwing q)))
def vx_X {S : Type} (px : S → Prop) (B : String → S → State → Prop) (A : Nat → Prop) : String → State → State → Prop := fun E st t => ∃ u : S, px u ∧ B E u t ∧ va_F A st t
section Runs
variable {p : Program} {l : Launch} {e : Env} {R : Room} {s : State} {m : MethodId} {args : Array Value} {below : List Frame} {meth : Method} {c : Code} {H : Heap} {locs : List Loc} {cells slots : Nat}
variable {y : MethodName} {bytes cc : ByteArray} {maxL nL mc ms n index : Nat} {ret : Option FieldType} {ws : List Cond} {rm : Room} {Pc : Array Value → State → Prop} {Qc : Array Value → State → Outcome → State → Prop} {XC : String → State → State → Prop} {free : Addr → Prop} {Ts : List Cond} {own C : String} {b : Addr} {As rest : List Value} {g : JFrame}
theorem vx_callBack (cb : CallB R s args own index y bytes maxL ret ws rm mc ms n) (hM : vx_Met l y ws rm Pc Qc XC mc ms free) (hbl : FrameBlind Pc) : vx_Back l R p e below s args y 3 8 (PreOf R mc ms Pc) (PostOf Qc mc ms free) (vx_Post XC mc ms free) := by
  obtain ⟨hrc, hrs, hfr, hlo, hws, hcw, -, hini, -⟩ := cb
  exact vx_back (bytes := bytes) (maxL := maxL) (ret := ret) hM hbl hrc hrs hfr hlo hws hcw (fun a' U hW => word_at hW (Or.inl (by first | rfl | simp [Cond.onTables, Cond.keeps, Cond.steady])) hini)
theorem vx_runV (S : CallFix p m c cc nL s args Ts own) (hM : vx_Met l y ws rm Pc Qc XC mc ms free) (cw : CallW R s args own C index y bytes maxL ret ws rm mc ms n) (hp : PreV s H C b Pc As)
    (hg : g.method = m) (hn : As.length = n) (hsize : g.locals.size = nL) (hstack : g.stack = As.reverse ++ .ref b :: rest) (hW : 2 * g.monitorRoom + (rest.map fun v => v.category).sum ≤ 8) (hdg : decode cc g.pc = .ok (.invokevirtual index, 3)) (hf : cells + mc ≤ R.cells ∧ slots + ms ≤ R.slots) :
    vx_Run p l e R s m args below meth c H locs cells slots mc ms g rest (Qc (Value.ref b :: As).toArray) XC free := by
  have hK : vx_Back l R p e below s args y 3 8 (PreOf R mc ms Pc) (PostOf Qc mc ms free) (vx_Post XC mc ms free) := vx_callBack cw.1 hM hp.1
  obtain ⟨⟨-, -, -, -, -, -, hcode, -, hy, hlen, hl⟩, hin, hse⟩ := cw
  obtain ⟨hx, hb, hml, ho, -⟩ := S
  obtain ⟨-, ⟨cellB, hcB, hoB, hclB⟩, hPc⟩ := hp
  intro T hT X
  rcases vx_callV X hx (C := C) (bytes := bytes) (maxL := maxL) (ret := ret) ho hl hin hse hcode hy hK (by rw [hT]; exact hcB) hoB hclB hg (hsize.trans hml.symm) (argsL := As) (rest := rest) (fun sig h => hn.trans (hlen sig h)) hstack hW (by rw [hb]; exact hdg)
    (fun vm₁ hW₁ => ⟨hf.1, hf.2, hPc (T.setVm vm₁) hT hW₁⟩) with ⟨v, vm₁, ⟨U', l2, c2, s2⟩, hW₁, X', ⟨g', mk, t, L, e1, e2, hq, h1, hL, h2, h3⟩, st⟩ | ⟨q, vm₁, ⟨U', l2, c2, s2⟩, hW₁, X', ⟨g', mk, t, L, E, ce, e1, e2, hq, hce, hcv, hcl, h1, hL, h2, h3⟩, st⟩
  · dsimp only [Pt.U, Pt.locs, Pt.cells, Pt.slots] at X' e1 e2 h1 h2 h3 st
    subst h1; subst h2; subst h3
    exact Or.inl ⟨v, (T.setVm vm₁).calling g' mk (Value.ref b :: As).toArray, t, U', L, hT, X', hL, e1, e2, hq, st⟩
  · dsimp only [Pt.U, Pt.locs, Pt.cells, Pt.slots] at X' e1 e2 h1 h2 h3 st hcl
    subst h1; subst h2; subst h3
    exact Or.inr ⟨q, (T.setVm vm₁).calling g' mk (Value.ref b :: As).toArray, t, U', L, E, ce, hT, X', hL, e1, e2, hq, hce, hcv, vx_cls hW₁ hcl, st⟩
theorem vx_runS (S : CallFix p m c cc nL s args Ts own) (hM : vx_Met l y ws rm Pc Qc XC mc ms free) (cw : CallB R s args own index y bytes maxL ret ws rm mc ms n ∧ (Cond.static y).before args s = true) (hp : PreS s H Pc As)
    (hg : g.method = m) (hn : As.length = n) (hsize : g.locals.size = nL) (hstack : g.stack = As.reverse ++ rest) (hW : 2 * g.monitorRoom + (rest.map fun v => v.category).sum ≤ 8) (hdg : decode cc g.pc = .ok (.invokestatic index, 3)) (hf : cells + mc ≤ R.cells ∧ slots + ms ≤ R.slots) :
    vx_Run p l e R s m args below meth c H locs cells slots mc ms g rest (Qc As.toArray) XC free := by
  have hK : vx_Back l R p e below s args y 3 8 (PreOf R mc ms Pc) (PostOf Qc mc ms free) (vx_Post XC mc ms free) := vx_callBack cw.1 hM hp.1
  obtain ⟨⟨-, -, -, -, -, -, hcode, hini, hy, hlen, hl⟩, hstt⟩ := cw
  obtain ⟨hx, hb, hml, ho, -⟩ := S
  intro T hT X
  rcases vx_callS X hx (bytes := bytes) (maxL := maxL) (ret := ret) ho hl hstt hini hcode hy hK hg (hsize.trans hml.symm) (argsL := As) (rest := rest) (fun sig h => hn.trans (hlen sig h)) hstack hW (by rw [hb]; exact hdg)
    (fun vm₁ hW₁ => ⟨hf.1, hf.2, hp.2 (T.setVm vm₁) hT hW₁⟩) with ⟨v, vm₁, ⟨U', l2, c2, s2⟩, hW₁, X', ⟨g', mk, t, L, e1, e2, hq, h1, hL, h2, h3⟩, st⟩ | ⟨q, vm₁, ⟨U', l2, c2, s2⟩, hW₁, X', ⟨g', mk, t, L, E, ce, e1, e2, hq, hce, hcv, hcl, h1, hL, h2, h3⟩, st⟩
  · dsimp only [Pt.U, Pt.locs, Pt.cells, Pt.slots] at X' e1 e2 h1 h2 h3 st
    subst h1; subst h2; subst h3
    exact Or.inl ⟨v, (T.setVm vm₁).calling g' mk As.toArray, t, U', L, hT, X', hL, e1, e2, hq, st⟩
  · dsimp only [Pt.U, Pt.locs, Pt.cells, Pt.slots] at X' e1 e2 h1 h2 h3 st hcl
    subst h1; subst h2; subst h3
    exact Or.inr ⟨q, (T.setVm vm₁).calling g' mk As.toArray, t, U', L, E, ce, hT, X', hL, e1, e2, hq, hce, hcv, vx_cls hW₁ hcl, st⟩
end Runs
section Rows
variable {p : Program} {l : Launch} {e : Env} {R : Room} {s : State} {m : MethodId} {args : Array Value} {below : List Frame} {meth : Method} {c : Code} {H : Heap} {locs : List Loc} {cells slots : Nat} {Q : State → Prop}
variable {mc ms : Nat} {free : Addr → Prop} {A0 A1 : Nat → Prop} {H0 : Heap} {a : Array Value} {pc : Nat} {ls : Array Slot} {st0 rest : List Value}
theorem vx_keep {st₀ t T' : State} {L : List Loc} (h0 : st₀.heap = H) (e1 : T'.heap = t.heap) (hS : va_S A0 H0 H locs) (hA : ∀ q, q < H.size → A1 q → A0 q) (hf : ∀ q, free q → A0 q) (hL : ∀ q ∈ L, free q.base) (hF : va_F A1 st₀ t) :
    H.size ≤ T'.heap.size ∧ (∀ q : Nat, q < H.size → ¬ A1 q → T'.heap[q]? = H[q]?) ∧ va_S A0 H0 T'.heap (locs ++ L) := by
  obtain ⟨hz, hk⟩ := hF
  rw [h0] at hz hk
  exact ⟨by rw [e1]; exact hz, fun q h1 h2 => by rw [e1]; exact hk q h1 h2,
    ⟨Nat.le_trans hS.1 (by rw [e1]; exact hz), fun q h1 h2 => by rw [e1, hk q (Nat.lt_of_lt_of_le h1 hS.1) (fun z => h2 (hA q (Nat.lt_of_lt_of_le h1 hS.1) z))]; exact hS.2.1 q h1 h2, fun q hq => by
      rcases List.mem_append.mp hq with h | h
      · exact hS.2.2 q h
      · exact hf _ (hL q h)⟩⟩
theorem vx_calli {S SX : Type} {post : Int32 → S → Prop} {px : SX → Prop} {B : S → State → Prop} {BX : String → SX → State → Prop} {AX : Nat → Prop} (hr : vx_Run p l e R s m args below meth c H locs cells slots mc ms (F0 m pc ls st0) rest (va_Qi post B A1 a) (vx_X px BX AX) free) (hS : va_S A0 H0 H locs) (hA : ∀ q, q < H.size → A1 q → A0 q) (hf : ∀ q, free q → A0 q) (hAX : ∀ q, q < H.size → AX q → A0 q)
    (kx : ∀ (E : String) (ce : Cell) (q9 : Addr) (u : SX) (t : State) (H1 : Heap) (locs1 : List Loc), t.heap = H1 → s.vm.Alike t.vm → px u → BX E u t → H.size ≤ H1.size → (∀ q : Nat, q < H.size → ¬ AX q → H1[q]? = H[q]?) → va_S A0 H0 H1 locs1 → H1[q9]? = some ce → ce.vm = .none → s.vm.findClass E = some ce.cls → vx_W p l e R s m args below meth c H1 locs1 (cells + mc) (slots + ms) Q (F0 m pc ls rest) q9)
    (kk : ∀ (r : Int32) (u : S) (t : State) (H1 : Heap) (locs1 : List Loc), t.heap = H1 → s.vm.Alike t.vm → post r u → B u t → H.size ≤ H1.size → (∀ q : Nat, q < H.size → ¬ A1 q → H1[q]? = H[q]?) → va_S A0 H0 H1 locs1 → W p l e R s m args below meth c H1 locs1 (cells + mc) (slots + ms) Q (F0 m (pc + 3) ls (.int r :: rest))) : W p l e R s m args below meth c H locs cells slots Q (F0 m pc ls st0) := by
  intro T hT X
  rcases hr T hT X with ⟨v, st₀, t, T', L, h0, X', hL, e1, e2, ⟨⟨r, u, hv, hp, hb⟩, hF⟩, st⟩ | ⟨q, st₀, t, T', L, E, ce, h0, X', hL, e1, e2, ⟨u, hp, hb, hF⟩, hce, hcv, hcl, st⟩
  · cases hv
    obtain ⟨k1, k2, k3⟩ := vx_keep h0 e1 hS hA hf hL hF
    obtain ⟨t2, a1, b1⟩ := kk r u t T'.heap (locs ++ L) e1.symm (by rw [← e2]; exact X'.warmed.alike) hp hb k1 k2 k3 T' rfl X'
    exact ⟨t2, st t2 a1, b1⟩
  · obtain ⟨k1, k2, k3⟩ := vx_keep h0 e1 hS hAX hf hL hF
    obtain ⟨t2, a1, b1⟩ := kx E ce q u t T'.heap (locs ++ L) e1.symm (by rw [← e2]; exact X'.warmed.alike) hp hb k1 k2 k3 (by rw [e1]; exact hce) hcv hcl T' rfl X'
    exact ⟨t2, st.trans a1, b1⟩
theorem vx_calll {S SX : Type} {post : Int64 → S → Prop} {px : SX → Prop} {B : S → State → Prop} {BX : String → SX → State → Prop} {AX : Nat → Prop} (hr : vx_Run p l e R s m args below meth c H locs cells slots mc ms (F0 m pc ls st0) rest (va_Ql post B A1 a) (vx_X px BX AX) free) (hS : va_S A0 H0 H locs) (hA : ∀ q, q < H.size → A1 q → A0 q) (hf : ∀ q, free q → A0 q) (hAX : ∀ q, q < H.size → AX q → A0 q)
    (kx : ∀ (E : String) (ce : Cell) (q9 : Addr) (u : SX) (t : State) (H1 : Heap) (locs1 : List Loc), t.heap = H1 → s.vm.Alike t.vm → px u → BX E u t → H.size ≤ H1.size → (∀ q : Nat, q < H.size → ¬ AX q → H1[q]? = H[q]?) → va_S A0 H0 H1 locs1 → H1[q9]? = some ce → ce.vm = .none → s.vm.findClass E = some ce.cls → vx_W p l e R s m args below meth c H1 locs1 (cells + mc) (slots + ms) Q (F0 m pc ls rest) q9)
    (kk : ∀ (r : Int64) (u : S) (t : State) (H1 : Heap) (locs1 : List Loc), t.heap = H1 → s.vm.Alike t.vm → post r u → B u t → H.size ≤ H1.size → (∀ q : Nat, q < H.size → ¬ A1 q → H1[q]? = H[q]?) → va_S A0 H0 H1 locs1 → W p l e R s m args below meth c H1 locs1 (cells + mc) (slots + ms) Q (F0 m (pc + 3) ls (.long r :: rest))) : W p l e R s m args below meth c H locs cells slots Q (F0 m pc ls st0) := by
  intro T hT X
  rcases hr T hT X with ⟨v, st₀, t, T', L, h0, X', hL, e1, e2, ⟨⟨r, u, hv, hp, hb⟩, hF⟩, st⟩ | ⟨q, st₀, t, T', L, E, ce, h0, X', hL, e1, e2, ⟨u, hp, hb, hF⟩, hce, hcv, hcl, st⟩
  · cases hv
    obtain ⟨k1, k2, k3⟩ := vx_keep h0 e1 hS hA hf hL hF
    obtain ⟨t2, a1, b1⟩ := kk r u t T'.heap (locs ++ L) e1.symm (by rw [← e2]; exact X'.warmed.alike) hp hb k1 k2 k3 T' rfl X'
    exact ⟨t2, st t2 a1, b1⟩
  · obtain ⟨k1, k2, k3⟩ := vx_keep h0 e1 hS hAX hf hL hF
    obtain ⟨t2, a1, b1⟩ := kx E ce q u t T'.heap (locs ++ L) e1.symm (by rw [← e2]; exact X'.warmed.alike) hp hb k1 k2 k3 (by rw [e1]; exact hce) hcv hcl T' rfl X'
    exact ⟨t2, st.trans a1, b1⟩
theorem vx_callf {S SX : Type} {post : UInt32 → S → Prop} {px : SX → Prop} {B : S → State → Prop} {BX : String → SX → State → Prop} {AX : Nat → Prop} (hr : vx_Run p l e R s m args below meth c H locs cells slots mc ms (F0 m pc ls st0) rest (va_Qf post B A1 a) (vx_X px BX AX) free) (hS : va_S A0 H0 H locs) (hA : ∀ q, q < H.size → A1 q → A0 q) (hf : ∀ q, free q → A0 q) (hAX : ∀ q, q < H.size → AX q → A0 q)
    (kx : ∀ (E : String) (ce : Cell) (q9 : Addr) (u : SX) (t : State) (H1 : Heap) (locs1 : List Loc), t.heap = H1 → s.vm.Alike t.vm → px u → BX E u t → H.size ≤ H1.size → (∀ q : Nat, q < H.size → ¬ AX q → H1[q]? = H[q]?) → va_S A0 H0 H1 locs1 → H1[q9]? = some ce → ce.vm = .none → s.vm.findClass E = some ce.cls → vx_W p l e R s m args below meth c H1 locs1 (cells + mc) (slots + ms) Q (F0 m pc ls rest) q9)
    (kk : ∀ (r : UInt32) (u : S) (t : State) (H1 : Heap) (locs1 : List Loc), t.heap = H1 → s.vm.Alike t.vm → post r u → B u t → H.size ≤ H1.size → (∀ q : Nat, q < H.size → ¬ A1 q → H1[q]? = H[q]?) → va_S A0 H0 H1 locs1 → W p l e R s m args below meth c H1 locs1 (cells + mc) (slots + ms) Q (F0 m (pc + 3) ls (.float r :: rest))) : W p l e R s m args below meth c H locs cells slots Q (F0 m pc ls st0) := by
  intro T hT X
  rcases hr T hT X with ⟨v, st₀, t, T', L, h0, X', hL, e1, e2, ⟨⟨r, u, hv, hp, hb⟩, hF⟩, st⟩ | ⟨q, st₀, t, T', L, E, ce, h0, X', hL, e1, e2, ⟨u, hp, hb, hF⟩, hce, hcv, hcl, st⟩
  · cases hv
    obtain ⟨k1, k2, k3⟩ := vx_keep h0 e1 hS hA hf hL hF
    obtain ⟨t2, a1, b1⟩ := kk r u t T'.heap (locs ++ L) e1.symm (by rw [← e2]; exact X'.warmed.alike) hp hb k1 k2 k3 T' rfl X'
    exact ⟨t2, st t2 a1, b1⟩
  · obtain ⟨k1, k2, k3⟩ := vx_keep h0 e1 hS hAX hf hL hF
    obtain ⟨t2, a1, b1⟩ := kx E ce q u t T'.heap (locs ++ L) e1.symm (by rw [← e2]; exact X'.warmed.alike) hp hb k1 k2 k3 (by rw [e1]; exact hce) hcv hcl T' rfl X'
    exact ⟨t2, st.trans a1, b1⟩
theorem vx_calld {S SX : Type} {post : UInt64 → S → Prop} {px : SX → Prop} {B : S → State → Prop} {BX : String → SX → State → Prop} {AX : Nat → Prop} (hr : vx_Run p l e R s m args below meth c H locs cells slots mc ms (F0 m pc ls st0) rest (va_Qd post B A1 a) (vx_X px BX AX) free) (hS : va_S A0 H0 H locs) (hA : ∀ q, q < H.size → A1 q → A0 q) (hf : ∀ q, free q → A0 q) (hAX : ∀ q, q < H.size → AX q → A0 q)
    (kx : ∀ (E : String) (ce : Cell) (q9 : Addr) (u : SX) (t : State) (H1 : Heap) (locs1 : List Loc), t.heap = H1 → s.vm.Alike t.vm → px u → BX E u t → H.size ≤ H1.size → (∀ q : Nat, q < H.size → ¬ AX q → H1[q]? = H[q]?) → va_S A0 H0 H1 locs1 → H1[q9]? = some ce → ce.vm = .none → s.vm.findClass E = some ce.cls → vx_W p l e R s m args below meth c H1 locs1 (cells + mc) (slots + ms) Q (F0 m pc ls rest) q9)
    (kk : ∀ (r : UInt64) (u : S) (t : State) (H1 : Heap) (locs1 : List Loc), t.heap = H1 → s.vm.Alike t.vm → post r u → B u t → H.size ≤ H1.size → (∀ q : Nat, q < H.size → ¬ A1 q → H1[q]? = H[q]?) → va_S A0 H0 H1 locs1 → W p l e R s m args below meth c H1 locs1 (cells + mc) (slots + ms) Q (F0 m (pc + 3) ls (.double r :: rest))) : W p l e R s m args below meth c H locs cells slots Q (F0 m pc ls st0) := by
  intro T hT X
  rcases hr T hT X with ⟨v, st₀, t, T', L, h0, X', hL, e1, e2, ⟨⟨r, u, hv, hp, hb⟩, hF⟩, st⟩ | ⟨q, st₀, t, T', L, E, ce, h0, X', hL, e1, e2, ⟨u, hp, hb, hF⟩, hce, hcv, hcl, st⟩
  · cases hv
    obtain ⟨k1, k2, k3⟩ := vx_keep h0 e1 hS hA hf hL hF
    obtain ⟨t2, a1, b1⟩ := kk r u t T'.heap (locs ++ L) e1.symm (by rw [← e2]; exact X'.warmed.alike) hp hb k1 k2 k3 T' rfl X'
    exact ⟨t2, st t2 a1, b1⟩
  · obtain ⟨k1, k2, k3⟩ := vx_keep h0 e1 hS hAX hf hL hF
    obtain ⟨t2, a1, b1⟩ := kx E ce q u t T'.heap (locs ++ L) e1.symm (by rw [← e2]; exact X'.warmed.alike) hp hb k1 k2 k3 (by rw [e1]; exact hce) hcv hcl T' rfl X'
    exact ⟨t2, st.trans a1, b1⟩
theorem vx_callv {S SX : Type} {post : S → Prop} {px : SX → Prop} {B : S → State → Prop} {BX : String → SX → State → Prop} {AX : Nat → Prop} (hr : vx_Run p l e R s m args below meth c H locs cells slots mc ms (F0 m pc ls st0) rest (va_Qv post B A1 a) (vx_X px BX AX) free) (hS : va_S A0 H0 H locs) (hA : ∀ q, q < H.size → A1 q → A0 q) (hf : ∀ q, free q → A0 q) (hAX : ∀ q, q < H.size → AX q → A0 q)
    (kx : ∀ (E : String) (ce : Cell) (q9 : Addr) (u : SX) (t : State) (H1 : Heap) (locs1 : List Loc), t.heap = H1 → s.vm.Alike t.vm → px u → BX E u t → H.size ≤ H1.size → (∀ q : Nat, q < H.size → ¬ AX q → H1[q]? = H[q]?) → va_S A0 H0 H1 locs1 → H1[q9]? = some ce → ce.vm = .none → s.vm.findClass E = some ce.cls → vx_W p l e R s m args below meth c H1 locs1 (cells + mc) (slots + ms) Q (F0 m pc ls rest) q9)
    (kk : ∀ (u : S) (t : State) (H1 : Heap) (locs1 : List Loc), t.heap = H1 → s.vm.Alike t.vm → post u → B u t → H.size ≤ H1.size → (∀ q : Nat, q < H.size → ¬ A1 q → H1[q]? = H[q]?) → va_S A0 H0 H1 locs1 → W p l e R s m args below meth c H1 locs1 (cells + mc) (slots + ms) Q (F0 m (pc + 3) ls (rest))) : W p l e R s m args below meth c H locs cells slots Q (F0 m pc ls st0) := by
  intro T hT X
  rcases hr T hT X with ⟨v, st₀, t, T', L, h0, X', hL, e1, e2, ⟨⟨u, hv, hp, hb⟩, hF⟩, st⟩ | ⟨q, st₀, t, T', L, E, ce, h0, X', hL, e1, e2, ⟨u, hp, hb, hF⟩, hce, hcv, hcl, st⟩
  · cases hv
    obtain ⟨k1, k2, k3⟩ := vx_keep h0 e1 hS hA hf hL hF
    obtain ⟨t2, a1, b1⟩ := kk u t T'.heap (locs ++ L) e1.symm (by rw [← e2]; exact X'.warmed.alike) hp hb k1 k2 k3 T' rfl X'
    exact ⟨t2, st t2 a1, b1⟩
  · obtain ⟨k1, k2, k3⟩ := vx_keep h0 e1 hS hAX hf hL hF
    obtain ⟨t2, a1, b1⟩ := kx E ce q u t T'.heap (locs ++ L) e1.symm (by rw [← e2]; exact X'.warmed.alike) hp hb k1 k2 k3 (by rw [e1]; exact hce) hcv hcl T' rfl X'
    exact ⟨t2, st.trans a1, b1⟩
/-- caught by the row x of this method's table; the rows ahead don't take it -/
theorem vx_catch {own name : String} {E : String} {ce : Cell} {q : Addr} (hown : s.vm.findClass own = some m.cls) (pre : List ExceptionTableEntry) (x : ExceptionTableEntry) (suf : List ExceptionTableEntry) (hsplit : c.exceptionTable.toList = pre ++ x :: suf)
    (hpass : ∀ z ∈ pre, covers z pc = false ∨ (z.catchType ≠ 0 ∧ ∃ nm : String, (Cond.classLink own z.catchType nm).before args s = true ∧ va_Nc E nm s)) (hx : covers x pc = true) (h0 : x.catchType ≠ 0)
    (hlink : (Cond.classLink own x.catchType name).before args s = true) (hcast : (Cond.castable E name).before args s = true) (hcell : H[q]? = some ce) (hv : ce.vm = .none) (hcl : s.vm.findClass E = some ce.cls)
    (kk : W p l e R s m args below meth c H locs cells slots Q (F0 m x.handlerPc ls [.ref q])) : vx_W p l e R s m args below meth c H locs cells slots Q (F0 m pc ls rest) q := by
  intro T hT X
  have hpl : e.platform.magicAccessors = ({} : Platform).magicAccessors := by rw [X.admits.platform]
  obtain ⟨c3, c4, hc3, hc4, hasg⟩ := Cond.castable_spec hcast
  cases Option.some.inj (hc3.symm.trans hcl)
  obtain ⟨c5, hc5, hcl5⟩ := Cond.classLink_spec hown hlink e.platform hpl
  cases Option.some.inj (hc4.symm.trans hc5)
  obtain ⟨vm', X', st⟩ := X.thenCaughtThrough q (g := F0 m pc ls rest) rfl (Steps.refl _) (by rw [hT]; exact hcell) (by rw [hv]; rfl) (by obtain ⟨k9, h9, -⟩ := Vm.findClass_spec hcl; exact ⟨k9, h9⟩) pre x suf hsplit
    (fun z hz => by
      rcases hpass z hz with h | ⟨hz0, nm, hl1, hn1⟩
      · exact Or.inl h
      · obtain ⟨c6, hc6, hcl6⟩ := Cond.classLink_spec hown hl1 e.platform hpl
        obtain ⟨a8, b8, h1, h2, h3⟩ := hn1
        cases Option.some.inj (h1.symm.trans hcl)
        cases Option.some.inj (h2.symm.trans hc6)
        exact Or.inr ⟨hz0, _, hcl6, h3⟩) hx (Or.inr ⟨h0, c4, hcl5, hasg⟩)
  obtain ⟨t, a1, b1⟩ := kk (T.setVm vm') hT X'
  exact ⟨t, st.trans a1, b1⟩
end Rows
section Ends
variable {p : Program} {l : Launch} {e : Env} {R : Room} {s : State} {m : MethodId} {args : Array Value} {below : List Frame} {meth : Method} {c : Code} {H : Heap} {locs : List Loc} {cells slots : Nat} {Q : State → Prop}
variable {mc ms : Nat} {free : Addr → Prop} {A0 A1 : Nat → Prop} {H0 : Heap} {a : Array Value} {ls : Array Slot} {st0 rest : List Value}
variable {Qc : Array Value → State → Outcome → State → Prop} {XC : String → State → State → Prop}
/-- what a body that may throw owes at its end -/
def vx_MQ (below : List Frame) (Qc : Array Value → State → Outcome → State → Prop) (XC : String → State → State → Prop) (a : Array Value) (s : State) (mc ms : Nat) (free : Addr → Prop) : State → Prop := fun t =>
  ∃ o, t.status = .running ∧ Ended t below o ∧ vx_Q Qc XC mc ms free a s o t
theorem vx_ret {g : JFrame} {mc ms : Nat} (k : W p l e R s m args below meth c H locs cells slots (MQ below Qc args s mc ms free) g) : W p l e R s m args below meth c H locs cells slots (vx_MQ below Qc XC args s mc ms free) g := by
  intro T hT X
  obtain ⟨t, a1, o, b1, b2, b3, b4⟩ := k T hT X
  exact ⟨t, a1, o, b1, b2, Or.inl ⟨b3, b4⟩⟩
/-- not caught here: it goes on to the caller -/
theorem vx_widen {g : JFrame} {q : Addr} {k n : Nat} (h1 : cells ≤ k) (h2 : slots ≤ n) (kk : vx_W p l e R s m args below meth c H locs k n Q g q) : vx_W p l e R s m args below meth c H locs cells slots Q g q := fun T hT X => kk T hT (stand_widen X h1 h2)
theorem vx_out {pc : Nat} {E : String} {ce : Cell} {q : Addr} {mc ms : Nat} (hout : ∀ x ∈ c.exceptionTable.toList, covers x pc = false) (hlocks : meth.locks = false) (hcell : H[q]? = some ce) (hv : ce.vm = .none) (hcl : s.vm.findClass E = some ce.cls)
    (hx : ∀ t : State, t.heap = H → s.vm.Alike t.vm → XC E s t) (hf : ∀ z ∈ locs, free z.base) (hc : cells ≤ mc) (hs : slots ≤ ms) :
    vx_W p l e R s m args below meth c H locs cells slots (vx_MQ below Qc XC args s mc ms free) (F0 m pc ls rest) q := by
  intro T hT X
  obtain ⟨st1, hrun, hend, hW, hsm⟩ := X.leaveThrown q (g := F0 m pc ls rest) rfl rfl rfl hout hlocks
  have hcell9 : (T.setFrames (.throwing q :: below)).heap[q]? = some ce := by
    show T.heap[q]? = some ce
    rw [hT]; exact hcell
  exact ⟨_, st1, .threw q, hrun, hend, Or.inr ⟨q, rfl, E, ce, locs, hx _ hT hW.alike, hcell9, hv, hcl, hW, hsm.mono hc hs, hf⟩⟩
theorem vx_frame {U : State} {k n : Nat} (h : s.sameButNew ({ U with vm := s.vm } : State) locs k n) : s.heap.size ≤ U.heap.size ∧ ∀ q : Nat, q < s.heap.size → (∀ z ∈ locs, z.base ≠ q) → U.heap[q]? = s.heap[q]? := by
  obtain ⟨-, h2, -, -, -, h6⟩ := h
  refine ⟨h2, fun q hq hz => ?_⟩
  obtain ⟨c9, e1, e2, e3, e4⟩ := h6 q _ (Array.getElem?_eq_getElem hq)
  have hs : c9.slots = (s.heap[q]).slots := Array.ext_getElem? fun i => e4 i fun hm => hz _ hm rfl
  have h9 : c9 = s.heap[q] := by
    rw [hs] at e2
    exact e2
  have e5 : U.heap[q]? = some c9 := e1
  rw [e5, h9, Array.getElem?_eq_getElem hq]
/-- the words of a throw but the four that speak of the heap -/
def vx_no (w : Cond) : Bool := decide (w ≠ .isRef (.static Bundle.tN "UNASSIGNED_STACK" Bundle.steD)) && decide (w ≠ .isRef (.static Bundle.tN "SUPPRESSED_SENTINEL" Bundle.listD)) && decide (w ≠ .laysStatic Bundle.tN "UNASSIGNED_STACK" Bundle.steD) && decide (w ≠ .laysStatic Bundle.tN "SUPPRESSED_SENTINEL" Bundle.listD)
def vx_at0 (own : String) (ic : Nat) (X : String) (names : List String) : List Cond := (Bundle.ownAtoms0 own ic X names).filter vx_no
def vx_atS (own : String) (ic : Nat) (X : String) (names : List String) : List Cond := (Bundle.ownAtoms own ic X names).filter vx_no
/-- a word that the tables alone decide, or a good one -/
def vx_ot (w : Cond) : Bool := w.onTables || goodWord w
theorem vx_ot_at {args a' : Array Value} {s U : State} {w : Cond} (hW : s.WarmedH U.vm) (hvm : s.vm = U.vm) (hg : vx_ot w = true) (h : w.before args s = true) : w.before a' U = true := by
  simp only [vx_ot, Bool.or_eq_true] at hg
  rcases hg with hg | hg
  · exact va_tabs hg hvm h
  · exact word_at hW (good_of_word hg) h
/-- a list's words: the good ones out of the method's own list, the others by premises of their own -/
theorem vx_hat {args : Array Value} {s : State} {L B : List Cond} (h1 : ∀ w ∈ L.filter goodWord, w.before args s = true) (h2 : ∀ w ∈ L.filter (fun w => !goodWord w), w ∈ B) (h3 : ∀ w ∈ B, w.before args s = true) : ∀ w ∈ L, w.before args s = true := by
  intro w hw
  by_cases g : goodWord w = true
  · exact h1 w (List.mem_filter.mpr ⟨hw, g⟩)
  · refine h3 w (h2 w (List.mem_filter.mpr ⟨hw, ?_⟩))
    show (!goodWord w) = true
    cases hgw : goodWord w
    · rfl
    · exact absurd hgw g
theorem vx_c {args : Array Value} {s : State} {w : Cond} {B : List Cond} (h : w.before args s = true) (t : ∀ w ∈ B, w.before args s = true) : ∀ w' ∈ w :: B, w'.before args s = true := fun w' h' => (List.mem_cons.mp h').elim (fun e => by rw [e]; exact h) (t w')
theorem vx_n {args : Array Value} {s : State} : ∀ w ∈ ([] : List Cond), w.before args s = true := fun _ h => nomatch h
theorem vx_own {args : Array Value} {s : State} {L : List Cond} (h1 : ∀ w ∈ L.filter vx_no, w.before args s = true)
    (hU : (Cond.isRef (.static Bundle.tN "UNASSIGNED_STACK" Bundle.steD)).before args s = true) (hN : (Cond.isRef (.static Bundle.tN "SUPPRESSED_SENTINEL" Bundle.listD)).before args s = true)
    (lU : (Cond.laysStatic Bundle.tN "UNASSIGNED_STACK" Bundle.steD).before args s = true) (lN : (Cond.laysStatic Bundle.tN "SUPPRESSED_SENTINEL" Bundle.listD).before args s = true) : ∀ w ∈ L, w.before args s = true := by
  intro w hw
  by_cases e1 : w = .isRef (.static Bundle.tN "UNASSIGNED_STACK" Bundle.steD)
  · rw [e1]; exact hU
  · by_cases e2 : w = .isRef (.static Bundle.tN "SUPPRESSED_SENTINEL" Bundle.listD)
    · rw [e2]; exact hN
    · by_cases e3 : w = .laysStatic Bundle.tN "UNASSIGNED_STACK" Bundle.steD
      · rw [e3]; exact lU
      · by_cases e4 : w = .laysStatic Bundle.tN "SUPPRESSED_SENTINEL" Bundle.listD
        · rw [e4]; exact lN
        · exact h1 w (List.mem_filter.mpr ⟨hw, by unfold vx_no; rw [decide_eq_true e1, decide_eq_true e2, decide_eq_true e3, decide_eq_true e4]; rfl⟩)
/-- where a static field lies, its class's statics cell in H -/
def vx_L (C n d : String) (A : Nat → Prop) (U : State) (H : Heap) : Prop := ∃ (c : ClassId) (k : Class) (i : Nat) (f : Field) (a : Nat) (cell : Cell), U.vm.findClass C = some c ∧ U.fieldFound? C n d = some (c, k, i, f) ∧ f.isStatic = true ∧ k.statics = some a ∧ H[a]? = some cell ∧ cell.vm.isStatics = true ∧ cell.cls = c ∧ f.slot < cell.slots.size ∧ k.staticTypes[f.slot]? = some f.type ∧ ¬ A a
theorem vx_L.moved {C n d : String} {A : Nat → Prop} {u U : State} {H : Heap} (hvm : u.vm.Alike U.vm) (h : vx_L C n d A u H) : vx_L C n d A U H := by
  obtain ⟨c, k, i, f, a, cell, h1, h2, h3, h4, h5, h6, h7, h8, h9, h10⟩ := h
  obtain ⟨k', hi', he⟩ := State.fieldFound?_setVm hvm h2
  exact ⟨c, k', i, f, a, cell, by rw [hvm.findClass]; exact h1, hi', h3, by rw [he]; exact h4, h5, h6, h7, h8, by rw [he]; exact h9, h10⟩
theorem vx_L.kept {C n d : String} {A : Nat → Prop} {U : State} {H H1 : Heap} (h : vx_L C n d A U H) (hq : ∀ a : Nat, a < H.size → ¬ A a → H1[a]? = H[a]?) : vx_L C n d A U H1 := by
  obtain ⟨c, k, i, f, a, cell, h1, h2, h3, h4, h5, h6, h7, h8, h9, h10⟩ := h
  exact ⟨c, k, i, f, a, cell, h1, h2, h3, h4, by rw [hq a (Array.getElem?_eq_some_iff.mp h5).1 h10]; exact h5, h6, h7, h8, h9, h10⟩
theorem vx_L.narrow {C n d : String} {A B : Nat → Prop} {U : State} {H : Heap} (h : vx_L C n d A U H) (hAB : ∀ q, B q → A q) : vx_L C n d B U H := by
  obtain ⟨c, k, i, f, a, cell, h1, h2, h3, h4, h5, h6, h7, h8, h9, h10⟩ := h
  exact ⟨c, k, i, f, a, cell, h1, h2, h3, h4, h5, h6, h7, h8, h9, fun z => h10 (hAB _ z)⟩
theorem vx_L.word {C n d : String} {A : Nat → Prop} {s : State} {args : Array Value} (h : vx_L C n d A s s.heap) : (Cond.laysStatic C n d).before args s = true := by
  obtain ⟨c, k, i, f, a, cell, h1, h2, h3, h4, h5, h6, h7, h8, h9, -⟩ := h
  show (Cond.laysStatic C n d).holds args s none s [] = true
  exact Cond.laysStatic_of h1 h2 h3 h4 h5 h6 h7 h8 h9
/-- .. and what it holds: null or some reference -/
def vx_Zq (C n d : String) (A : Nat → Prop) (U : State) (H : Heap) : Prop := va_Zq C n d A U H ∧ vx_L C n d A U H
theorem vx_Zq.moved {C n d : String} {A : Nat → Prop} {u U : State} {H : Heap} (hvm : u.vm.Alike U.vm) (h : vx_Zq C n d A u H) : vx_Zq C n d A U H := ⟨va_Zq.moved hvm h.1, vx_L.moved hvm h.2⟩
theorem vx_Zq.kept {C n d : String} {A : Nat → Prop} {U : State} {H H1 : Heap} (h : vx_Zq C n d A U H) (hq : ∀ a : Nat, a < H.size → ¬ A a → H1[a]? = H[a]?) : vx_Zq C n d A U H1 := ⟨va_Zq.kept h.1 hq, vx_L.kept h.2 hq⟩
theorem vx_Zq.narrow {C n d : String} {A B : Nat → Prop} {U : State} {H : Heap} (h : vx_Zq C n d A U H) (hAB : ∀ q, B q → A q) : vx_Zq C n d B U H := ⟨va_Zq.narrow h.1 hAB, vx_L.narrow h.2 hAB⟩
theorem vx_Zqof {args : Array Value} {s : State} {C n d : String} {A : Nat → Prop} (hl : (Cond.laysStatic C n d).before args s = true) (hini : (Cond.initialized C).before args s = true) (h : (Cond.isRef (.static C n d)).before args s = true) (hA : ∀ a : Nat, a < s.heap.size → ¬ A a) : vx_Zq C n d A s s.heap := by
  refine ⟨va_Zqof hl hini h hA, ?_⟩
  obtain ⟨c, k, i, f, a, cell, h1, h2, h3, h4, h5, h6, h7, h8, h9⟩ := Cond.laysStatic_spec hl
  exact ⟨c, k, i, f, a, cell, h1, h2, h3, h4, h5, h6, h7, h8, h9, hA a (Array.getElem?_eq_some_iff.mp h5).1⟩
theorem vx_isRef {C n d : String} {v : Value} {A : Nat → Prop} {s : State} {args : Array Value} (h : va_Z C n d v A s s.heap) (hv : v.isRef = true) : (Cond.isRef (.static C n d)).before args s = true := by
  obtain ⟨cf, kf, fi, f, a, cell, h1, h2, h3, h4, h5, h6, h7, -⟩ := h
  have he : (Term.static C n d).eval args s none [] s = some v := by
    simp [Term.eval, State.fieldNamed?, h1, h2, h4, h5, h6, h7]
  simp only [Cond.before, Cond.holds, Cond.value, he]
  cases v <;> simp_all [Value.isRef]
theorem vx_isRefq {C n d : String} {A : Nat → Prop} {s : State} {args : Array Value} (h : va_Zq C n d A s s.heap) : (Cond.isRef (.static C n d)).before args s = true := by
  rcases h with h | ⟨t, h⟩
  · exact vx_isRef h rfl
  · exact vx_isRef h rfl
/-- the same frame, seen from here: as if the method were called anew in this heap -/
theorem vx_rebase {T : State} (X : Stand p l e R s m args below meth c T locs cells slots) {R' : Room} (hf : R'.frames ≤ R.frames) (hl : R'.locals ≤ R.locals) (hc : cells + R'.cells ≤ R.cells) (hs : slots + R'.slots ≤ R.slots) :
    Stand p l e R' ((T.setVm s.vm).setFrames (.invoking m args :: below)) m args below meth c T [] 0 0 := by
  have htop : (T.setVm s.vm).topJava?.isSome := X.here.top
  have hF : ((T.setVm s.vm).setFrames (.invoking m args :: below)).frames = .invoking m args :: below := State.frames_setFrames _ (State.cur_lt_of_top htop)
  obtain ⟨g₀, hg0⟩ := Option.isSome_iff_exists.mp htop
  obtain ⟨r, hr⟩ := State.topJava?_eq_some.mp hg0
  have hl9 : e.platform.stackLimits (T.setVm s.vm).me = e.platform.stackLimits s.me := X.limits
  have hb9 : (T.setVm s.vm).me.stackBytes = s.me.stackBytes := X.bytes
  refine ⟨X.admits, X.cas, X.clock, hF, ?_, X.hears, X.method, X.code, X.here, X.tail, X.warmed, ?_, ?_, ?_⟩
  · have h := X.room
    have hU : ((T.setVm s.vm).setFrames (.invoking m args :: below)).localsInUse = s.localsInUse := by
      rw [State.localsInUse_invoking hF (meth := meth) (c := c) X.method X.code, State.localsInUse_invoking X.frames X.method X.code]
    simp only [State.hasRoom, Bool.and_eq_true, decide_eq_true_eq] at h ⊢
    obtain ⟨⟨⟨⟨h1, h2, h3, h4, h5, h6⟩, h7⟩, h8⟩, h9⟩ := h
    rw [X.frames, List.length_cons] at h2 h3
    have q1 := X.heapSize
    have q2 := X.used
    simp only [hF, hU, List.length_cons, State.stackLimits_setFrames, State.stackBytes_setFrames, hl9, hb9]
    refine ⟨⟨⟨⟨by omega, by omega, by omega, by omega, by omega, h6⟩, ?_⟩, ?_⟩, X.book⟩
    · show T.heap.size + R'.cells ≤ e.platform.maxCells
      omega
    · show T.slotsUsed + R'.slots ≤ e.platform.maxSlots
      omega
  · rw [State.stackLimits_setFrames]; rfl
  · rw [State.stackBytes_setFrames]; rfl
  · refine ⟨?_, Nat.le_refl _, Nat.le_refl _, ?_, ?_, fun a c9 h9 => ⟨c9, h9, rfl, rfl, fun _ _ => rfl⟩⟩
    · obtain ⟨t, ht, -⟩ := State.frames_cons hr
      show T.setVm s.vm = { ((T.setVm s.vm).setFrames (.invoking m args :: below)).setFrames (T.setVm s.vm).frames with heap := T.heap, slotsUsed := T.slotsUsed }
      rw [State.setFrames_setFrames, State.setFrames_self ht]
      rfl
    · show T.slotsUsed = T.slotsUsed + ((T.heap.toList.drop T.heap.size).map (·.slots.size)).sum
      rw [List.drop_eq_nil_of_le (Nat.le_of_eq Array.length_toList)]
      rfl
    · show ((T.heap.toList.drop T.heap.size).map (·.slots.size)).sum ≤ 0
      rw [List.drop_eq_nil_of_le (Nat.le_of_eq Array.length_toList)]
      exact Nat.le_refl _
/-- 'throw new E()': new; dup; invokespecial; athrow -/
theorem vx_throw0 {cc : ByteArray} {pc : Nat} (hexec : p.tables.exec = Jvm.exec) (hb : c.code = cc) (hl : l.stackTraces = false) {own cls : String} {names : List String} {ik ic mc ms : Nat} {A : Nat → Prop}
    (hown : s.vm.findClass own = some m.cls) (hcls : Bundle.fit cls = true) (hnames : ∀ n ∈ names, Bundle.fit n = true)
    (hk : (Cond.classLink own ik cls).before args s = true) (hini : (Cond.initialized cls).before args s = true) (hat : ∀ w ∈ vx_at0 own ic cls names, w.before args s = true)
    (hgood : ∀ w ∈ Cond.classLink own ik cls :: Cond.initialized cls :: vx_at0 own ic cls names, vx_ot w = true)
    (hU : vx_Zq Bundle.tN "UNASSIGNED_STACK" Bundle.steD A s s.heap) (hN : vx_Zq Bundle.tN "SUPPRESSED_SENTINEL" Bundle.listD A s s.heap) (hS : va_S A s.heap H locs) (hsize : ls.size = c.maxLocals)
    (d0 : decode cc pc = .ok (.new ik, 3)) (d3 : decode cc (pc + 3) = .ok (.dup, 1)) (d4 : decode cc (pc + 4) = .ok (.invokespecial ic, 3)) (d7 : decode cc (pc + 7) = .ok (.athrow, 1))
    (hout : ∀ x ∈ c.exceptionTable.toList, covers x (pc + 7) = false)
    (hRframes : names.length + 3 < R.frames) (hRlocals : (rest.map fun v => v.category).sum + (13 * (names.length + 1) + 42) ≤ R.locals) (hRcells : cells + 1 ≤ R.cells) (hRslots : slots + 6 ≤ R.slots) (hlocks : meth.locks = false)
    (hx : ∀ t : State, s.vm.Alike t.vm → H.size ≤ t.heap.size → (∀ q : Nat, q < H.size → t.heap[q]? = H[q]?) → XC cls s t)
    (hf : ∀ z ∈ locs, free z.base) (hc : cells + 1 ≤ mc) (hs : slots + 6 ≤ ms) :
    W p l e R s m args below meth c H locs cells slots (vx_MQ below Qc XC args s mc ms free) (F0 m pc ls rest) := by
  intro T hT X
  have htr : e.platform.stackTraces = false := (show e.platform.stackTraces = l.stackTraces by rw [X.admits.platform]).trans hl
  have Y := vx_rebase X (R' := { frames := R.frames, locals := R.locals, cells := 1, slots := 6 }) (Nat.le_refl _) (Nat.le_refl _) hRcells hRslots
  obtain ⟨s', hA⟩ : ∃ z, z = (T.setVm s.vm).setFrames (.invoking m args :: below) := ⟨_, rfl⟩
  rw [← hA] at Y
  have hvm : s'.vm = s.vm := by rw [hA]; rfl
  have hhp : s'.heap = H := by rw [hA]; exact hT
  have hW0 : s.WarmedH s'.vm := by rw [hvm]; exact State.WarmedH.refl s
  have hat' : ∀ w ∈ vx_at0 own ic cls names, w.before args s' = true := fun w hw => vx_ot_at hW0 hvm.symm (hgood w (List.mem_cons_of_mem _ (List.mem_cons_of_mem _ hw))) (hat w hw)
  have hk' : (Cond.classLink own ik cls).before args s' = true := vx_ot_at hW0 hvm.symm (hgood _ List.mem_cons_self) hk
  have hini' : (Cond.initialized cls).before args s' = true := vx_ot_at hW0 hvm.symm (hgood _ (List.mem_cons_of_mem _ List.mem_cons_self)) hini
  have hU' : vx_Zq Bundle.tN "UNASSIGNED_STACK" Bundle.steD A s' s'.heap := by rw [hhp]; exact vx_Zq.moved hW0.alike (hU.kept hS.2.1)
  have hN' : vx_Zq Bundle.tN "SUPPRESSED_SENTINEL" Bundle.listD A s' s'.heap := by rw [hhp]; exact vx_Zq.moved hW0.alike (hN.kept hS.2.1)
  have h : ∀ w ∈ Bundle.ownAtoms0 own ic cls names, w.before args s' = true := vx_own hat' (vx_isRefq hU'.1) (vx_isRefq hN'.1) hU'.2.word hN'.2.word
  have hown' : s'.vm.findClass own = some m.cls := by rw [hvm]; exact hown
  have hins : (Cond.instantiable cls 6).before args s' = true := h _ (by simp [Bundle.ownAtoms0])
  obtain ⟨vm₁, cX, kX, hfX, hkX, -, -, X₁, st1⟩ := Y.newCold hexec (own := own) (C := cls) (index := ik) (n := 6) hown' hk' hins hini'
    (g := F0 m pc ls rest) rfl (by rw [hb]; exact d0) (Nat.le_refl _) (Nat.le_refl _)
  generalize hT1 : (T.setVm vm₁).pushCell { cls := cX, slots := kX.instanceTypes.map defaultValue, vm := .none } = T1 at X₁ st1
  have hcat : (Value.ref T.heap.size).category = 1 := rfl
  have hcellA : T1.heap[T.heap.size]? = some (freshCell cX kX) := by rw [← hT1]; exact State.heap_pushCell_size _ _
  have d3' : decode c.code (pc + 3) = .ok (.dup, 1) := by rw [hb]; exact d3
  obtain ⟨U, hsteps, hrun, hend, hW, hsame, ce, hce, hO⟩ := X₁.ctorThrow0 hexec htr (own := own) (cls := cls) (names := names) (ic := ic) hown' hcls hnames h (fun x hx => nomatch hx) hfX hkX hcellA (by rw [hhp, hT]; exact Nat.le_refl _)
    (g := { method := m, pc := pc + 4, locals := ls, stack := .ref T.heap.size :: .ref T.heap.size :: rest, locked := none }) rfl hsize rfl rfl (rest := rest) rfl
    (by rw [hb]; exact d4) (by rw [hb]; exact d7) hout hRframes (by simp only [List.map_cons, List.sum_cons, hcat]; omega) hlocks
  obtain ⟨f1, f2⟩ := vx_frame hsame
  rw [hhp] at f1 f2
  have hWs : s.WarmedH U.vm := State.WarmedH.trans hW0 hW
  have hcl : s.vm.findClass cls = some ce.cls := by
    have h9 := hO.cls
    rw [hvm] at h9
    exact h9
  have hall : s.sameButNew ({ U with vm := s.vm } : State) locs mc ms := by
    subst hA
    obtain ⟨e1, e2⟩ := hsame
    rw [State.setFrames_setFrames] at e1
    have h2 : (T.setVm s.vm).sameButNew ({ U with vm := s.vm } : State) [] (0 + 1) (0 + 6) := ⟨e1, e2⟩
    have h3 := X.same.trans h2
    rw [List.append_nil] at h3
    exact h3.mono hc hs
  refine ⟨U, ?_, .threw T.heap.size, hrun, hend, Or.inr ⟨T.heap.size, rfl, cls, ce, locs, hx U hWs.alike f1 (fun q hq => f2 q hq (fun z hz => nomatch hz)), hce, hO.vm, hcl, hWs, hall, hf⟩⟩
  refine st1 _ ?_
  show Steps p.tables e below (T1.setTop { method := m, pc := pc + 3, locals := ls, stack := .ref T.heap.size :: rest, locked := none }) _
  jvm_step X₁.here [X₁.here.top, hexec, d3', Value.category]
  exact hsteps
/-- 'throw new E("text")': new; dup; ldc; invokespecial; athrow -/
theorem vx_throwS {cc : ByteArray} {pc : Nat} (hexec : p.tables.exec = Jvm.exec) (hb : c.code = cc) (hl : l.stackTraces = false) {own cls text : String} {names : List String} {ik is ic mc ms sa : Nat} {A : Nat → Prop}
    (hown : s.vm.findClass own = some m.cls) (hcls : Bundle.fit cls = true) (hnames : ∀ n ∈ names, Bundle.fit n = true)
    (hk : (Cond.classLink own ik cls).before args s = true) (hini : (Cond.initialized cls).before args s = true) (hstr : vk_R own is text sa s) (hat : ∀ w ∈ vx_atS own ic cls names, w.before args s = true)
    (hgood : ∀ w ∈ Cond.classLink own ik cls :: Cond.initialized cls :: vx_atS own ic cls names, vx_ot w = true)
    (hU : vx_Zq Bundle.tN "UNASSIGNED_STACK" Bundle.steD A s s.heap) (hN : vx_Zq Bundle.tN "SUPPRESSED_SENTINEL" Bundle.listD A s s.heap) (hS : va_S A s.heap H locs) (hsize : ls.size = c.maxLocals)
    (d0 : decode cc pc = .ok (.new ik, 3)) (d3 : decode cc (pc + 3) = .ok (.dup, 1)) (d4 : decode cc (pc + 4) = .ok (.ldc is, 2)) (d6 : decode cc (pc + 6) = .ok (.invokespecial ic, 3)) (d9 : decode cc (pc + 9) = .ok (.athrow, 1))
    (hout : ∀ x ∈ c.exceptionTable.toList, covers x (pc + 9) = false)
    (hRframes : names.length + 3 < R.frames) (hRlocals : (rest.map fun v => v.category).sum + (13 * (names.length + 1) + 43) ≤ R.locals) (hRcells : cells + 1 ≤ R.cells) (hRslots : slots + 6 ≤ R.slots) (hlocks : meth.locks = false)
    (hx : ∀ t : State, s.vm.Alike t.vm → H.size ≤ t.heap.size → (∀ q : Nat, q < H.size → t.heap[q]? = H[q]?) → XC cls s t)
    (hf : ∀ z ∈ locs, free z.base) (hc : cells + 1 ≤ mc) (hs : slots + 6 ≤ ms) :
    W p l e R s m args below meth c H locs cells slots (vx_MQ below Qc XC args s mc ms free) (F0 m pc ls rest) := by
  intro T hT X
  have htr : e.platform.stackTraces = false := (show e.platform.stackTraces = l.stackTraces by rw [X.admits.platform]).trans hl
  have Y := vx_rebase X (R' := { frames := R.frames, locals := R.locals, cells := 1, slots := 6 }) (Nat.le_refl _) (Nat.le_refl _) hRcells hRslots
  obtain ⟨s', hA⟩ : ∃ z, z = (T.setVm s.vm).setFrames (.invoking m args :: below) := ⟨_, rfl⟩
  rw [← hA] at Y
  have hvm : s'.vm = s.vm := by rw [hA]; rfl
  have hhp : s'.heap = H := by rw [hA]; exact hT
  have hW0 : s.WarmedH s'.vm := by rw [hvm]; exact State.WarmedH.refl s
  have hat' : ∀ w ∈ vx_atS own ic cls names, w.before args s' = true := fun w hw => vx_ot_at hW0 hvm.symm (hgood w (List.mem_cons_of_mem _ (List.mem_cons_of_mem _ hw))) (hat w hw)
  have hk' : (Cond.classLink own ik cls).before args s' = true := vx_ot_at hW0 hvm.symm (hgood _ List.mem_cons_self) hk
  have hini' : (Cond.initialized cls).before args s' = true := vx_ot_at hW0 hvm.symm (hgood _ (List.mem_cons_of_mem _ List.mem_cons_self)) hini
  have hU' : vx_Zq Bundle.tN "UNASSIGNED_STACK" Bundle.steD A s' s'.heap := by rw [hhp]; exact vx_Zq.moved hW0.alike (hU.kept hS.2.1)
  have hN' : vx_Zq Bundle.tN "SUPPRESSED_SENTINEL" Bundle.listD A s' s'.heap := by rw [hhp]; exact vx_Zq.moved hW0.alike (hN.kept hS.2.1)
  have h : ∀ w ∈ Bundle.ownAtoms own ic cls names, w.before args s' = true := vx_own hat' (vx_isRefq hU'.1) (vx_isRefq hN'.1) hU'.2.word hN'.2.word
  have hown' : s'.vm.findClass own = some m.cls := by rw [hvm]; exact hown
  have hins : (Cond.instantiable cls 6).before args s' = true := h _ (by simp [Bundle.ownAtoms])
  obtain ⟨vm₁, cX, kX, hfX, hkX, -, -, X₁, st1⟩ := Y.newCold hexec (own := own) (C := cls) (index := ik) (n := 6) hown' hk' hins hini'
    (g := F0 m pc ls rest) rfl (by rw [hb]; exact d0) (Nat.le_refl _) (Nat.le_refl _)
  generalize hT1 : (T.setVm vm₁).pushCell { cls := cX, slots := kX.instanceTypes.map defaultValue, vm := .none } = T1 at X₁ st1
  have hcat : (Value.ref T.heap.size).category = 1 := rfl
  have hcellA : T1.heap[T.heap.size]? = some (freshCell cX kX) := by rw [← hT1]; exact State.heap_pushCell_size _ _
  have d3' : decode c.code (pc + 3) = .ok (.dup, 1) := by rw [hb]; exact d3
  have d4' : decode c.code (pc + 4) = .ok (.ldc is, 2) := by rw [hb]; exact d4
  have hstr' : vk_R own is text sa s' := vk_R.warm hW0 hstr
  obtain ⟨U, hsteps, hrun, hend, hW, hsame, ce, hce, hO⟩ := X₁.ctorThrowS hexec htr (own := own) (cls := cls) (names := names) (ic := ic) hown' hcls hnames h (fun x hx => nomatch hx) hfX hkX hcellA (by rw [hhp, hT]; exact Nat.le_refl _) (msg := .ref sa) rfl
    (g := { method := m, pc := pc + 6, locals := ls, stack := .ref sa :: .ref T.heap.size :: .ref T.heap.size :: rest, locked := none }) rfl hsize rfl rfl (rest := rest) rfl
    (by rw [hb]; exact d6) (by rw [hb]; exact d9) hout hRframes (by simp only [List.map_cons, List.sum_cons, hcat]; omega) hlocks
  obtain ⟨f1, f2⟩ := vx_frame hsame
  rw [hhp] at f1 f2
  have hWs : s.WarmedH U.vm := State.WarmedH.trans hW0 hW
  have hcl : s.vm.findClass cls = some ce.cls := by
    have h9 := hO.cls
    rw [hvm] at h9
    exact h9
  have hall : s.sameButNew ({ U with vm := s.vm } : State) locs mc ms := by
    subst hA
    obtain ⟨e1, e2⟩ := hsame
    rw [State.setFrames_setFrames] at e1
    have h2 : (T.setVm s.vm).sameButNew ({ U with vm := s.vm } : State) [] (0 + 1) (0 + 6) := ⟨e1, e2⟩
    have h3 := X.same.trans h2
    rw [List.append_nil] at h3
    exact h3.mono hc hs
  refine ⟨U, ?_, .threw T.heap.size, hrun, hend, Or.inr ⟨T.heap.size, rfl, cls, ce, locs, hx U hWs.alike f1 (fun q hq => f2 q hq (fun z hz => nomatch hz)), hce, hO.vm, hcl, hWs, hall, hf⟩⟩
  refine st1 _ ?_
  show Steps p.tables e below (T1.setTop { method := m, pc := pc + 3, locals := ls, stack := .ref T.heap.size :: rest, locked := none }) _
  jvm_step X₁.here [X₁.here.top, hexec, d3', Value.category]
  exact X₁.ldcString hexec (own := own) (text := text) (index := is) (a := sa) hown' hstr'.1 hstr'.2
    (g := { method := m, pc := pc + 4, locals := ls, stack := .ref T.heap.size :: .ref T.heap.size :: rest, locked := none }) rfl d4' _ hsteps
/-- 'throw new E("text")', the text by a wide index -/
theorem vx_throwSW {cc : ByteArray} {pc : Nat} (hexec : p.tables.exec = Jvm.exec) (hb : c.code = cc) (hl : l.stackTraces = false) {own cls text : String} {names : List String} {ik is ic mc ms sa : Nat} {A : Nat → Prop}
    (hown : s.vm.findClass own = some m.cls) (hcls : Bundle.fit cls = true) (hnames : ∀ n ∈ names, Bundle.fit n = true)
    (hk : (Cond.classLink own ik cls).before args s = true) (hini : (Cond.initialized cls).before args s = true) (hstr : vk_R own is text sa s) (hat : ∀ w ∈ vx_atS own ic cls names, w.before args s = true)
    (hgood : ∀ w ∈ Cond.classLink own ik cls :: Cond.initialized cls :: vx_atS own ic cls names, vx_ot w = true)
    (hU : vx_Zq Bundle.tN "UNASSIGNED_STACK" Bundle.steD A s s.heap) (hN : vx_Zq Bundle.tN "SUPPRESSED_SENTINEL" Bundle.listD A s s.heap) (hS : va_S A s.heap H locs) (hsize : ls.size = c.maxLocals)
    (d0 : decode cc pc = .ok (.new ik, 3)) (d3 : decode cc (pc + 3) = .ok (.dup, 1)) (d4 : decode cc (pc + 4) = .ok (.ldc_w is, 3)) (d7 : decode cc (pc + 7) = .ok (.invokespecial ic, 3)) (d10 : decode cc (pc + 10) = .ok (.athrow, 1))
    (hout : ∀ x ∈ c.exceptionTable.toList, covers x (pc + 10) = false)
    (hRframes : names.length + 3 < R.frames) (hRlocals : (rest.map fun v => v.category).sum + (13 * (names.length + 1) + 43) ≤ R.locals) (hRcells : cells + 1 ≤ R.cells) (hRslots : slots + 6 ≤ R.slots) (hlocks : meth.locks = false)
    (hx : ∀ t : State, s.vm.Alike t.vm → H.size ≤ t.heap.size → (∀ q : Nat, q < H.size → t.heap[q]? = H[q]?) → XC cls s t)
    (hf : ∀ z ∈ locs, free z.base) (hc : cells + 1 ≤ mc) (hs : slots + 6 ≤ ms) :
    W p l e R s m args below meth c H locs cells slots (vx_MQ below Qc XC args s mc ms free) (F0 m pc ls rest) := by
  intro T hT X
  have htr : e.platform.stackTraces = false := (show e.platform.stackTraces = l.stackTraces by rw [X.admits.platform]).trans hl
  have Y := vx_rebase X (R' := { frames := R.frames, locals := R.locals, cells := 1, slots := 6 }) (Nat.le_refl _) (Nat.le_refl _) hRcells hRslots
  obtain ⟨s', hA⟩ : ∃ z, z = (T.setVm s.vm).setFrames (.invoking m args :: below) := ⟨_, rfl⟩
  rw [← hA] at Y
  have hvm : s'.vm = s.vm := by rw [hA]; rfl
  have hhp : s'.heap = H := by rw [hA]; exact hT
  have hW0 : s.WarmedH s'.vm := by rw [hvm]; exact State.WarmedH.refl s
  have hat' : ∀ w ∈ vx_atS own ic cls names, w.before args s' = true := fun w hw => vx_ot_at hW0 hvm.symm (hgood w (List.mem_cons_of_mem _ (List.mem_cons_of_mem _ hw))) (hat w hw)
  have hk' : (Cond.classLink own ik cls).before args s' = true := vx_ot_at hW0 hvm.symm (hgood _ List.mem_cons_self) hk
  have hini' : (Cond.initialized cls).before args s' = true := vx_ot_at hW0 hvm.symm (hgood _ (List.mem_cons_of_mem _ List.mem_cons_self)) hini
  have hU' : vx_Zq Bundle.tN "UNASSIGNED_STACK" Bundle.steD A s' s'.heap := by rw [hhp]; exact vx_Zq.moved hW0.alike (hU.kept hS.2.1)
  have hN' : vx_Zq Bundle.tN "SUPPRESSED_SENTINEL" Bundle.listD A s' s'.heap := by rw [hhp]; exact vx_Zq.moved hW0.alike (hN.kept hS.2.1)
  have h : ∀ w ∈ Bundle.ownAtoms own ic cls names, w.before args s' = true := vx_own hat' (vx_isRefq hU'.1) (vx_isRefq hN'.1) hU'.2.word hN'.2.word
  have hown' : s'.vm.findClass own = some m.cls := by rw [hvm]; exact hown
  have hins : (Cond.instantiable cls 6).before args s' = true := h _ (by simp [Bundle.ownAtoms])
  obtain ⟨vm₁, cX, kX, hfX, hkX, -, -, X₁, st1⟩ := Y.newCold hexec (own := own) (C := cls) (index := ik) (n := 6) hown' hk' hins hini'
    (g := F0 m pc ls rest) rfl (by rw [hb]; exact d0) (Nat.le_refl _) (Nat.le_refl _)
  generalize hT1 : (T.setVm vm₁).pushCell { cls := cX, slots := kX.instanceTypes.map defaultValue, vm := .none } = T1 at X₁ st1
  have hcat : (Value.ref T.heap.size).category = 1 := rfl
  have hcellA : T1.heap[T.heap.size]? = some (freshCell cX kX) := by rw [← hT1]; exact State.heap_pushCell_size _ _
  have d3' : decode c.code (pc + 3) = .ok (.dup, 1) := by rw [hb]; exact d3
  have d4' : decode c.code (pc + 4) = .ok (.ldc_w is, 3) := by rw [hb]; exact d4
  have hstr' : vk_R own is text sa s' := vk_R.warm hW0 hstr
  obtain ⟨U, hsteps, hrun, hend, hW, hsame, ce, hce, hO⟩ := X₁.ctorThrowS hexec htr (own := own) (cls := cls) (names := names) (ic := ic) hown' hcls hnames h (fun x hx => nomatch hx) hfX hkX hcellA (by rw [hhp, hT]; exact Nat.le_refl _) (msg := .ref sa) rfl
    (g := { method := m, pc := pc + 7, locals := ls, stack := .ref sa :: .ref T.heap.size :: .ref T.heap.size :: rest, locked := none }) rfl hsize rfl rfl (rest := rest) rfl
    (by rw [hb]; exact d7) (by rw [hb]; exact d10) hout hRframes (by simp only [List.map_cons, List.sum_cons, hcat]; omega) hlocks
  obtain ⟨f1, f2⟩ := vx_frame hsame
  rw [hhp] at f1 f2
  have hWs : s.WarmedH U.vm := State.WarmedH.trans hW0 hW
  have hcl : s.vm.findClass cls = some ce.cls := by
    have h9 := hO.cls
    rw [hvm] at h9
    exact h9
  have hall : s.sameButNew ({ U with vm := s.vm } : State) locs mc ms := by
    subst hA
    obtain ⟨e1, e2⟩ := hsame
    rw [State.setFrames_setFrames] at e1
    have h2 : (T.setVm s.vm).sameButNew ({ U with vm := s.vm } : State) [] (0 + 1) (0 + 6) := ⟨e1, e2⟩
    have h3 := X.same.trans h2
    rw [List.append_nil] at h3
    exact h3.mono hc hs
  refine ⟨U, ?_, .threw T.heap.size, hrun, hend, Or.inr ⟨T.heap.size, rfl, cls, ce, locs, hx U hWs.alike f1 (fun q hq => f2 q hq (fun z hz => nomatch hz)), hce, hO.vm, hcl, hWs, hall, hf⟩⟩
  refine st1 _ ?_
  show Steps p.tables e below (T1.setTop { method := m, pc := pc + 3, locals := ls, stack := .ref T.heap.size :: rest, locked := none }) _
  jvm_step X₁.here [X₁.here.top, hexec, d3', Value.category]
  exact X₁.ldcStringW hexec (own := own) (text := text) (index := is) (a := sa) hown' hstr'.1 hstr'.2
    (g := { method := m, pc := pc + 4, locals := ls, stack := .ref T.heap.size :: .ref T.heap.size :: rest, locked := none }) rfl d4' _ hsteps
end Ends
section Bodies
variable {l : Launch}
theorem vx_ofW {y : MethodName} {ws ws' : List Cond} {rm : Room} {Pc : Array Value → State → Prop} {Qc : Array Value → State → Outcome → State → Prop} {XC : String → State → State → Prop} {mc ms : Nat} {free : Addr → Prop} {cc : ByteArray} {maxL : Nat} {ret : Option FieldType}
    (hy : plainName y.cls = true) (hw : ws = Cond.code y cc maxL ret :: ws')
    (body : ∀ p e s m args below meth c s₁, BodyLoose p l y (headSpec ws rm) cc maxL ret e s m args below meth c s₁ → c.maxLocals = maxL → (∀ x ∈ c.exceptionTable.toList, False) → Pc args s →
      W p l e (headSpec ws rm).room s m args below meth c s.heap [] 0 0 (vx_MQ below Qc XC args s mc ms free) (entryFrame m args maxL)) : vx_Met l y ws rm Pc Qc XC mc ms free := by
  refine MetFree.of_bodyS (code := cc) (maxLocals := maxL) (ret := ret) hy ?_ ?_
  · intro args s m h hn
    obtain ⟨meth, c, h1, h2, h3, h4, h5, h6, -, -⟩ := Cond.code_spec hn (atoms_spec (ws := ws) h _ (by rw [hw]; exact List.mem_cons_self))
    exact ⟨meth, c, h1, h2, h3, h4, h5, h6⟩
  · intro p e s m args below meth c s₁ B hml hP _
    have hh0 : s₁.heap = s.heap := by rw [B.state]; rfl
    have ht : ∀ x ∈ c.exceptionTable.toList, False := by
      obtain ⟨meth9, c9, h1, h2, -, -, -, -, h7, -⟩ := Cond.code_spec B.named (atoms_spec (ws := ws) B.pre _ (by rw [hw]; exact List.mem_cons_self))
      cases Option.some.inj (h1.symm.trans B.method)
      cases Option.some.inj (h2.symm.trans (Stand.of_body B).code)
      intro x hx
      rw [Array.isEmpty_iff.mp h7] at hx
      cases hx
    obtain ⟨t, a1, o, b1, b2, b3⟩ := body p e s m args below meth c s₁ B hml ht hP s₁ hh0 (Stand.of_body B)
    exact ⟨t, o, a1, b1, b2, b3⟩
/-- the table of a body with handlers -/
theorem vx_table {p : Program} {x y : MethodName} {S : Spec} {cc bytes : ByteArray} {maxL maxL' : Nat} {ret ret' : Option FieldType} {e : Env} {s s₁ : State} {m : MethodId} {args : Array Value} {below : List Frame} {meth : Method} {c : Code} {hh : List (Nat × Nat × Nat × Nat)}
    (B : BodyLoose p l y S cc maxL ret e s m args below meth c s₁) (h : (Cond.codeWith y bytes maxL' ret' hh).before args s = true) : c.exceptionTable.toList = tableOf hh := by
  obtain ⟨m9, meth9, c9, hn9, h1, h2, -, -, h6, -⟩ := Cond.codeWith_spec h
  cases Option.some.inj (hn9.symm.trans B.named)
  cases Option.some.inj (h1.symm.trans B.method)
  cases Option.some.inj (h2.symm.trans (Stand.of_body B).code)
  rw [← h6, table_eq]
end Bodies
end VXA
/-! ===== END ===== -/
/-! ===== BEGIN a static call of a method with an exception table ===== -/
section VXS
variable {p : Program} {l : Launch} {e : Env} {R : Room} {s : State} {m : MethodId} {args : Array Value} {below : List Frame} {meth : Method} {c : Code} {T : State} {H : Heap} {locs : List Loc} {cells slots : Nat}
abbrev vx_CSW (R : Room) (s : State) (args : Array Value) (own : String) (index : Nat) (y : MethodName) (bytes : ByteArray) (maxL : Nat) (ret : Option FieldType) (hh : List (Nat × Nat × Nat × Nat)) (ws : List Cond) (rm : Room) (mc ms n : Nat) : Prop :=
  (rm.cells = mc ∧ rm.slots = ms ∧ rm.frames + 1 ≤ R.frames ∧ 8 + (maxL + 11) + rm.locals ≤ R.locals ∧ (∀ w ∈ ws, ∀ (a' : Array Value) (U : State), s.WarmedH U.vm → w.before a' U = true) ∧ Cond.codeWith y bytes maxL ret hh ∈ ws) ∧
  (Cond.codeWith y bytes maxL ret hh).before args s = true ∧ (Cond.initialized y.cls).before args s = true ∧ (y.cls ≠ "java/lang/invoke/MethodHandle" ∧ y.cls ≠ "java/lang/invoke/VarHandle") ∧
  (∀ sig, parseMethodDescriptor y.desc = some sig → n = sig.parameters.length) ∧ (Cond.methodLink own index y).before args s = true ∧ (Cond.static y).before args s = true
theorem vx_cwSW {own : String} {index maxL mc ms : Nat} {y : MethodName} {bytes : ByteArray} {ret : Option FieldType} {hh : List (Nat × Nat × Nat × Nat)} {Ts ws ws' : List Cond} {rm : Room} (n : Nat) (ht : ∀ w ∈ Ts, w.before args s = true) (hT : GoodIn Ts (va_wsS own index y ws)) (hw : ws = Cond.codeWith y bytes maxL ret hh :: ws') (hrc : rm.cells = mc) (hrs : rm.slots = ms)
    (hd : y.cls ≠ "java/lang/invoke/MethodHandle" ∧ y.cls ≠ "java/lang/invoke/VarHandle" ∧ (parseMethodDescriptor y.desc).map (fun d => d.parameters.length) = some n) (hR : rm.frames + 1 ≤ R.frames ∧ 8 + (maxL + 11) + rm.locals ≤ R.locals) :
    vx_CSW R s args own index y bytes maxL ret hh ws rm mc ms n := by
  have ok : ∀ w ∈ va_wsS own index y ws, w.before args s = true := fun w h => ht w (hT w h).1
  have hG : GoodIn Ts ws := fun w h => hT w (by unfold va_wsS; exact List.mem_append_right _ h)
  have hc : Cond.codeWith y bytes maxL ret hh ∈ ws := by rw [hw]; exact List.mem_cons_self
  refine ⟨⟨hrc, hrs, hR.1, hR.2, pay_in ht hG, hc⟩, ht _ (hG _ hc).1, ok _ (by simp [va_wsS]), ⟨hd.1, hd.2.1⟩, fun sig h => ?_, ok _ (by simp [va_wsS]), ok _ (by simp [va_wsS])⟩
  have h2 := hd.2.2
  rw [h] at h2
  exact (Option.some.inj h2).symm
theorem vx_callSW (X : Stand p l e R s m args below meth c T locs cells slots) (hexec : p.tables.exec = Jvm.exec) {own : String} {index : Nat} {y : MethodName} {bytes : ByteArray} {maxL : Nat} {ret : Option FieldType} {hh : List (Nat × Nat × Nat × Nat)}
    (hown : s.vm.findClass own = some m.cls) (hlink : (Cond.methodLink own index y).before args s = true) (hstat : (Cond.static y).before args s = true) (hinit : (Cond.initialized y.cls).before args s = true)
    (hcode : (Cond.codeWith y bytes maxL ret hh).before args s = true) (hy : y.cls ≠ "java/lang/invoke/MethodHandle" ∧ y.cls ≠ "java/lang/invoke/VarHandle")
    {W9 : Nat} {Pre : Pt → Array Value → Prop} {Post : Pt → Array Value → Option Value → Pt → Prop} (hK : Back l R p e below s args y 3 W9 Pre Post)
    {g : JFrame} (hg : g.method = m) (hsize : g.locals.size = c.maxLocals) {argsL rest : List Value} (hlen : ∀ sig, parseMethodDescriptor y.desc = some sig → argsL.length = sig.parameters.length)
    (hstack : g.stack = argsL.reverse ++ rest) (hW : 2 * g.monitorRoom + (rest.map fun v => v.category).sum ≤ W9) (hdg : decode c.code g.pc = .ok (.invokestatic index, 3))
    (hpre : ∀ vm₁, s.WarmedH vm₁ → Pre ⟨T.setVm vm₁, locs, cells, slots⟩ argsL.toArray) :
    ∃ (v : Option Value) (vm₁ : Vm) (B : Pt), s.WarmedH vm₁ ∧ Stand p l e R s m args below meth c B.U B.locs B.cells B.slots ∧ Post ⟨T.setVm vm₁, locs, cells, slots⟩ argsL.toArray v B ∧
      ∀ target, Steps p.tables e below (B.U.setTop { g with pc := g.pc + 3, stack := v.toList ++ rest }) target → Steps p.tables e below (T.setTop g) target := by
  obtain ⟨mk, methM, cM, hnamed, hmethM, -, -, -, -, -, -, hsigM⟩ := Cond.codeWith_spec hcode
  have hstatic : methM.isStatic = true := Cond.static_spec hnamed hmethM hstat
  obtain ⟨kP, hkP, -⟩ := className_of_methodNamed hnamed
  have hinitP : kP.init = .initialized := Cond.initialized_spec (findClass_of_methodNamed hnamed) hkP hinit
  obtain ⟨vm₁, X₁, hstep₁⟩ := X.invokestatic hexec hown hlink hnamed hmethM hstatic hkP hinitP hy (g := g) hg (argsL := argsL) (rest := rest) (hlen _ hsigM) hstack hdg
  obtain ⟨v, B, X', hpost, hsteps⟩ := hK m meth c ⟨T.setVm vm₁, locs, cells, slots⟩ { g with stack := rest } (.invokestatic index) mk argsL.toArray X₁ hg hsize hdg hW (X₁.named hnamed) (hpre vm₁ X₁.warmed)
  exact ⟨v, vm₁, B, X₁.warmed, X', hpost, fun target h => hstep₁ _ fun acts => by rw [doInvoke_state]; exact hsteps.trans h⟩
theorem vx_runSW {y : MethodName} {bytes cc : ByteArray} {maxL nL mc ms n index : Nat} {ret : Option FieldType} {hh : List (Nat × Nat × Nat × Nat)} {ws : List Cond} {rm : Room} {Pc : Array Value → State → Prop} {Qc : Array Value → State → Outcome → State → Prop} {free : Addr → Prop} {Ts : List Cond} {own : String} {As rest : List Value} {g : JFrame}
    (S : CallFix p m c cc nL s args Ts own) (hM : Met l y ws rm Pc Qc mc ms free) (cw : vx_CSW R s args own index y bytes maxL ret hh ws rm mc ms n) (hp : PreS s H Pc As)
    (hg : g.method = m) (hn : As.length = n) (hsize : g.locals.size = nL) (hstack : g.stack = As.reverse ++ rest) (hW : 2 * g.monitorRoom + (rest.map fun v => v.category).sum ≤ 8) (hdg : decode cc g.pc = .ok (.invokestatic index, 3)) (hf : cells + mc ≤ R.cells ∧ slots + ms ≤ R.slots) :
    va_Run p l e R s m args below meth c H locs cells slots mc ms g rest (Qc As.toArray) (free) := by
  obtain ⟨⟨hrc, hrs, hfr, hlo, hws, hcw⟩, hcode, hini, hy, hlen, hl, hstt⟩ := cw
  have hK : Back l R p e below s args y 3 8 (PreOf R mc ms Pc) (PostOf Qc mc ms free) := va_backW (hh := hh) (bytes := bytes) (maxL := maxL) (ret := ret) hM hp.1 hrc hrs hfr hlo hws hcw (fun a' U hW => word_at hW (Or.inl (by first | rfl | simp [Cond.onTables, Cond.keeps, Cond.steady])) hini)
  obtain ⟨hx, hb, hml, ho, -⟩ := S
  intro T hT X
  obtain ⟨v, vm₁, ⟨U', l2, c2, s2⟩, hW₁, X', ⟨g', mk, t, L, e1, e2, hq, h1, hL, h2, h3⟩, st⟩ := vx_callSW X hx (hh := hh) (bytes := bytes) (maxL := maxL) (ret := ret) ho hl hstt hini hcode hy hK hg (hsize.trans hml.symm) (argsL := As) (rest := rest) (fun sig h => hn.trans (hlen sig h)) hstack hW (by rw [hb]; exact hdg)
    (fun vm₁ hW₁ => ⟨hf.1, hf.2, hp.2 (T.setVm vm₁) hT hW₁⟩)
  dsimp only [Pt.U, Pt.locs, Pt.cells, Pt.slots] at X' e1 e2 h1 h2 h3 st
  subst h1; subst h2; subst h3
  exact ⟨v, (T.setVm vm₁).calling g' mk As.toArray, t, U', L, hT, X', hL, e1, e2, hq, st⟩
/-- not caught here, past rows that name other classes: it goes on to the caller -/
theorem vx_outP {p : Program} {l : Launch} {e : Env} {R : Room} {s : State} {m : MethodId} {args : Array Value} {below : List Frame} {meth : Method} {c : Code} {H : Heap} {locs : List Loc} {cells slots : Nat} {free : Addr → Prop} {ls : Array Slot} {rest : List Value} {Qc : Array Value → State → Outcome → State → Prop} {XC : String → State → State → Prop}
    {pc : Nat} {own E : String} {ce : Cell} {q : Addr} {mc ms : Nat} (hown : s.vm.findClass own = some m.cls) (hlocks : meth.locks = false)
    (hpass : ∀ z ∈ c.exceptionTable.toList, covers z pc = false ∨ (z.catchType ≠ 0 ∧ ∃ nm : String, (Cond.classLink own z.catchType nm).before args s = true ∧ va_Nc E nm s)) (hcell : H[q]? = some ce) (hv : ce.vm = .none) (hcl : s.vm.findClass E = some ce.cls)
    (hx : ∀ t : State, t.heap = H → s.vm.Alike t.vm → XC E s t) (hf : ∀ z ∈ locs, free z.base) (hc : cells ≤ mc) (hs : slots ≤ ms) :
    vx_W p l e R s m args below meth c H locs cells slots (vx_MQ below Qc XC args s mc ms free) (F0 m pc ls rest) q := by
  intro T hT X
  have hpl : e.platform.magicAccessors = ({} : Platform).magicAccessors := by rw [X.admits.platform]
  obtain ⟨vm', hW', X', st⟩ := X.outThrough hlocks q (g := F0 m pc ls rest) rfl rfl rfl (cell := ce) (by rw [hT]; exact hcell) (by rw [hv]; rfl)
    (by obtain ⟨k9, h9, -⟩ := Vm.findClass_spec hcl; exact ⟨k9, h9⟩) (fun z hz => by
      rcases hpass z hz with h | ⟨hz0, nm, hl1, hn1⟩
      · exact Or.inl h
      · obtain ⟨c6, hc6, hcl6⟩ := Cond.classLink_spec hown hl1 e.platform hpl
        obtain ⟨a8, b8, h1, h2, h3⟩ := hn1
        cases Option.some.inj (h1.symm.trans hcl)
        cases Option.some.inj (h2.symm.trans hc6)
        exact Or.inr ⟨hz0, _, hcl6, h3⟩)
  obtain ⟨g₀, hfr⟩ := X'.frames_eq
  have hcell9 : ((T.setVm vm').setFrames (.throwing q :: below)).heap[q]? = some ce := by
    show T.heap[q]? = some ce
    rw [hT]; exact hcell
  have hend : Ended ((T.setVm vm').setFrames (.throwing q :: below)) below (.threw q) := State.frames_setFrames _ (State.cur_lt_of_frames hfr)
  refine ⟨(T.setVm vm').setFrames (.throwing q :: below), ?_, .threw q, X'.here.running, hend, Or.inr ⟨q, rfl, E, ce, locs, hx _ hT (X'.ends _).1.alike, hcell9, hv, hcl, (X'.ends _).1, (X'.ends _).2.mono hc hs, hf⟩⟩
  rw [X.pushThrowing_eq]
  exact st
/-- a thing of a world lies in the heap -/
theorem vx_lt {D : va_G} {cl : List vw_C} {ws : va_W} {H1 : Heap} (h : va_P D cl ws H1) {k : Nat} {q : Nat × va_E} (hk : ws[k]? = some q) : q.1 < H1.size := (h k q hk).lt
end VXS
/-! ===== END ===== -/
/-! ===== BEGIN methods with a table of their own: called by a name, returning or throwing ===== -/
section VXH
/-! vx_backW, vx_callVX, vx_callSX, vx_callVW, vx_runVW, vx_runVX, vx_runSX, vx_ofWH follow the same proofs as their sisters above (Free/Laws.lean, Shelf42/LK1.lean); vx_outP calls Shelf42/NT130.lean (outThrough). -/
section
variable {l : Launch} {R : Room} {p : Program} {e : Env} {below : List Frame} {s : State} {sargs : Array Value} {y : MethodName} {len W9 : Nat}
theorem vx_backW {ws : List Cond} {rm : Room} {Pc : Array Value → State → Prop} {Qc : Array Value → State → Outcome → State → Prop} {XC : String → State → State → Prop} {mc ms : Nat} {free : Addr → Prop} {bytes : ByteArray} {maxL : Nat} {ret : Option FieldType} {hh : List (Nat × Nat × Nat × Nat)}
    (hM : vx_Met l y ws rm Pc Qc XC mc ms free) (hblind : FrameBlind Pc) (hrc : rm.cells = mc) (hrs : rm.slots = ms)
    (hframes : rm.frames + 1 ≤ R.frames) (hlocals : W9 + (maxL + 11) + rm.locals ≤ R.locals)
    (hws : ∀ w ∈ ws, ∀ a' U, s.WarmedH U.vm → w.before a' U = true) (hcode : Cond.codeWith y bytes maxL ret hh ∈ ws) (hinit : ∀ a' U, s.WarmedH U.vm → (Cond.initialized y.cls).before a' U = true) :
    vx_Back l R p e below s sargs y len W9 (PreOf R mc ms Pc) (PostOf Qc mc ms free) (vx_Post XC mc ms free) := by
  intro m meth c A g ig mk a X hg hsize hdg hW hn hp
  have h1 : (headSpec ws rm).pre.before a A.U = true := atoms_intro fun w hw => hws w hw _ _ X.warmed
  have h2 : (Cond.codeWith y bytes maxL ret hh).before a A.U = true := hws _ hcode _ _ X.warmed
  have h3 : (Cond.initialized y.cls).before a A.U = true := hinit _ _ X.warmed
  have h4 : A.cells + (headSpec ws rm).room.cells ≤ R.cells := by rw [show (headSpec ws rm).room.cells = mc from hrc]; exact hp.1
  have h5 : A.slots + (headSpec ws rm).room.slots ≤ R.slots := by rw [show (headSpec ws rm).room.slots = ms from hrs]; exact hp.2.1
  have hPc : Pc a (A.U.calling g mk a) := hblind _ _ _ _ hp.2.2
  obtain ⟨U, Ls, c0, s0⟩ := A
  dsimp only [Pt.U, Pt.locs, Pt.cells, Pt.slots] at h1 h2 h3 h4 h5 X hn hPc ⊢
  obtain ⟨m9, methY, cY, hn9, hmY, hcY, -, hlY, -⟩ := Cond.codeWith_spec h2
  cases Option.some.inj (hn9.symm.trans hn)
  obtain ⟨kY, hkY, -⟩ := className_of_methodNamed hn
  have hinitY : kY.init = .initialized := Cond.initialized_spec (findClass_of_methodNamed hn) hkY h3
  have h : At U g.method c below := by rw [hg]; exact X.here
  have hlocals9 : W9 + (maxL + 11) + (headSpec ws rm).room.locals ≤ R.locals := hlocals
  have happ : (headSpec ws rm).appliesLoose y e.platform (U.calling g mk a) = true :=
    Spec.appliesLoose_calling (g := g) h hdg hn hkY hinitY
      (X.room_calling (g := g) (R' := (headSpec ws rm).room) hsize hmY hcY hframes (by rw [hlY]; omega) h4 h5) h1
  obtain ⟨mid, hmid⟩ := h.above
  have hfr : (U.setTop g).frames = (.java g :: mid) ++ below := by rw [State.frames_setTop' g h.top, hmid]; rfl
  obtain ⟨o, s₂, hsteps, -, hend, hq⟩ := Steps.callFree hM p X.admits X.cas X.clock (acts := []) hfr happ hPc trivial
  have hq' : vx_Q Qc XC mc ms free a (U.calling g mk a) o s₂ := hq
  rw [State.frames_setTop' g h.top] at hend
  obtain ⟨g₀, hg0⟩ := Option.isSome_iff_exists.mp h.top
  obtain ⟨r, hr⟩ := State.topJava?_eq_some.mp hg0
  have hr' : (({ U with heap := s₂.heap, slotsUsed := s₂.slotsUsed } : State).setVm s₂.vm).frames = .java g₀ :: r := hr
  rcases hq' with ⟨hqc, L, hfe, hL⟩ | ⟨q, rfl, E, ce, L, hx, hce, hcv, hcl, hW₂, hsm, hL⟩
  · obtain ⟨⟨v, rfl⟩, hW₂, e2, q2, q3, q4, q5, q6⟩ := id hfe
    have e3 : s₂ = ({ (U.calling g mk a).setFrames s₂.frames with heap := s₂.heap, slotsUsed := s₂.slotsUsed } : State).setVm s₂.vm := by
      have : s₂ = ({ s₂ with vm := (U.calling g mk a).vm } : State).setVm s₂.vm := rfl
      rw [e2] at this
      exact this
    obtain ⟨c₂, i₂, len₂, hc₂, hd₂, hf₂⟩ := hend
    have hW' : U.WarmedH s₂.vm := hW₂
    have hcc : c₂ = c := by
      have h1 : s₂.code? g.method = U.code? g.method := by
        rw [State.code?_eq, State.code?_eq, hW'.alike.method?]
      exact Option.some.inj (hc₂.symm.trans (h1.trans h.code))
    subst hcc
    have hlen : len₂ = len := by rw [hdg] at hd₂; cases hd₂; rfl
    subst hlen
    have hs₂ : s₂ = (({ U with heap := s₂.heap, slotsUsed := s₂.slotsUsed } : State).setVm s₂.vm).setTop { g with pc := g.pc + len₂, stack := v.toList ++ g.stack } := by
      refine e3.trans ?_
      rw [hf₂, State.calling_eq h.top, State.setFrames_setFrames, State.setTop_of_frames _ hr', hr]
      rfl
    have hsame : U.sameButNew ({ U with heap := s₂.heap, slotsUsed := s₂.slotsUsed } : State) L mc ms := by
      refine ⟨?_, q2, q3, q4, q5, q6⟩
      obtain ⟨t, ht, -⟩ := State.frames_cons hr
      show ({ U with heap := s₂.heap, slotsUsed := s₂.slotsUsed } : State) = { U.setFrames U.frames with heap := s₂.heap, slotsUsed := s₂.slotsUsed }
      rw [State.setFrames_self ht]
    subst hg
    refine Or.inl ⟨v, ⟨(({ U with heap := s₂.heap, slotsUsed := s₂.slotsUsed } : State).setVm s₂.vm), Ls ++ L, c0 + mc, s0 + ms⟩,
      ⟨X.admits, X.cas, X.clock, X.frames, X.room, X.hears, X.method, X.code, (X.here.setHeapUsed s₂.heap s₂.slotsUsed).setVm hW'.alike, X.tail, State.WarmedH.trans X.warmed hW', X.limits, X.bytes, X.same.trans (hsame.setVm s.vm)⟩,
      ⟨g, mk, s₂, L, rfl, rfl, hqc, rfl, hL, rfl, rfl⟩, ?_⟩
    show Steps p.tables e below _ ((({ U with heap := s₂.heap, slotsUsed := s₂.slotsUsed } : State).setVm s₂.vm).setTop { g with pc := g.pc + len₂, stack := v.toList ++ g.stack })
    rw [← hs₂]
    exact hsteps
  · obtain ⟨e2, q2, q3, q4, q5, q6⟩ := id hsm
    have e3 : s₂ = ({ (U.calling g mk a).setFrames s₂.frames with heap := s₂.heap, slotsUsed := s₂.slotsUsed } : State).setVm s₂.vm := by
      have : s₂ = ({ s₂ with vm := (U.calling g mk a).vm } : State).setVm s₂.vm := rfl
      rw [e2] at this
      exact this
    have hf₂ : s₂.frames = .throwing q :: .java g :: U.frames.tail := hend
    have hW' : U.WarmedH s₂.vm := hW₂
    have hs₂ : s₂ = ((({ U with heap := s₂.heap, slotsUsed := s₂.slotsUsed } : State).setVm s₂.vm).setTop g).pushFrame (.throwing q) := by
      refine e3.trans ?_
      rw [hf₂, State.calling_eq h.top, State.setFrames_setFrames, State.pushFrame, State.frames_setTop _ hr', State.setTop_of_frames _ hr', State.setFrames_setFrames, hr]
      rfl
    have hsame : U.sameButNew ({ U with heap := s₂.heap, slotsUsed := s₂.slotsUsed } : State) L mc ms := by
      refine ⟨?_, q2, q3, q4, q5, q6⟩
      obtain ⟨t, ht, -⟩ := State.frames_cons hr
      show ({ U with heap := s₂.heap, slotsUsed := s₂.slotsUsed } : State) = { U.setFrames U.frames with heap := s₂.heap, slotsUsed := s₂.slotsUsed }
      rw [State.setFrames_self ht]
    subst hg
    refine Or.inr ⟨q, ⟨(({ U with heap := s₂.heap, slotsUsed := s₂.slotsUsed } : State).setVm s₂.vm), Ls ++ L, c0 + mc, s0 + ms⟩,
      ⟨X.admits, X.cas, X.clock, X.frames, X.room, X.hears, X.method, X.code, (X.here.setHeapUsed s₂.heap s₂.slotsUsed).setVm hW'.alike, X.tail, State.WarmedH.trans X.warmed hW', X.limits, X.bytes, X.same.trans (hsame.setVm s.vm)⟩,
      ⟨g, mk, s₂, L, E, ce, rfl, rfl, hx, hce, hcv, hcl, rfl, hL, rfl, rfl⟩, ?_⟩
    show Steps p.tables e below _ (((({ U with heap := s₂.heap, slotsUsed := s₂.slotsUsed } : State).setVm s₂.vm).setTop g).pushFrame (.throwing q))
    rw [← hs₂]
    exact hsteps
end
variable {p : Program} {l : Launch} {e : Env} {R : Room} {s : State} {m : MethodId} {args : Array Value} {below : List Frame} {meth : Method} {c : Code} {T : State} {H : Heap} {locs : List Loc} {cells slots : Nat}
theorem vx_callVX (X : Stand p l e R s m args below meth c T locs cells slots) (hexec : p.tables.exec = Jvm.exec) {own C : String} {index : Nat} {y : MethodName} {bytes : ByteArray} {maxL : Nat} {ret : Option FieldType} {hh : List (Nat × Nat × Nat × Nat)}
    (hown : s.vm.findClass own = some m.cls) (hlink : (Cond.methodLink own index y).before args s = true) (hinst : (Cond.instanceMethod y).before args s = true) (hsel : (Cond.selects C y y).before args s = true)
    (hcode : (Cond.codeWith y bytes maxL ret hh).before args s = true) (hy : y.cls ≠ "java/lang/invoke/MethodHandle" ∧ y.cls ≠ "java/lang/invoke/VarHandle")
    {W9 : Nat} {Pre : Pt → Array Value → Prop} {Post : Pt → Array Value → Option Value → Pt → Prop} {PostX : Pt → Array Value → Addr → Pt → Prop} (hK : vx_Back l R p e below s args y 3 W9 Pre Post PostX)
    {b : Addr} {cellB : Cell} (hcell : T.heap[b]? = some cellB) (hobj : cellB.vm.isStatics = false) (hcls : s.vm.findClass C = some cellB.cls)
    {g : JFrame} (hg : g.method = m) (hsize : g.locals.size = c.maxLocals) {argsL rest : List Value} (hlen : ∀ sig, parseMethodDescriptor y.desc = some sig → argsL.length = sig.parameters.length)
    (hstack : g.stack = argsL.reverse ++ .ref b :: rest) (hW : 2 * g.monitorRoom + (rest.map fun v => v.category).sum ≤ W9) (hdg : decode c.code g.pc = .ok (.invokevirtual index, 3))
    (hpre : ∀ vm₁, s.WarmedH vm₁ → Pre ⟨T.setVm vm₁, locs, cells, slots⟩ (Value.ref b :: argsL).toArray) :
    (∃ (v : Option Value) (vm₁ : Vm) (B : Pt), s.WarmedH vm₁ ∧ Stand p l e R s m args below meth c B.U B.locs B.cells B.slots ∧ Post ⟨T.setVm vm₁, locs, cells, slots⟩ (Value.ref b :: argsL).toArray v B ∧
      ∀ target, Steps p.tables e below (B.U.setTop { g with pc := g.pc + 3, stack := v.toList ++ rest }) target → Steps p.tables e below (T.setTop g) target) ∨
    (∃ (q : Addr) (vm₁ : Vm) (B : Pt), s.WarmedH vm₁ ∧ Stand p l e R s m args below meth c B.U B.locs B.cells B.slots ∧ PostX ⟨T.setVm vm₁, locs, cells, slots⟩ (Value.ref b :: argsL).toArray q B ∧
      Steps p.tables e below (T.setTop g) ((B.U.setTop { g with stack := rest }).pushFrame (.throwing q))) := by
  obtain ⟨mk, methM, hnamed, hmethM, hstM, habM⟩ := Cond.instanceMethod_spec hinst
  obtain ⟨m8, methM', cM, hn8, hmethM', -, -, -, -, -, -, hsigM⟩ := Cond.codeWith_spec hcode
  cases Option.some.inj (hn8.symm.trans hnamed)
  cases hmethM.symm.trans hmethM'
  obtain ⟨c2, r2, m2, q1, q2, q3, q4, kP, hkP, hkPi⟩ := Cond.selects_spec hsel
  cases hcls.symm.trans q1
  cases (State.methodFound?_of_named hnamed hy).symm.trans q2
  cases hnamed.symm.trans q3
  have hselP : selectMethod e.platform s.vm cellB.cls mk = .method mk := by rw [Launch.admits_selectMethod X.admits]; exact q4
  obtain ⟨vm₁, X₁, hstep₁⟩ := X.invokevirtual hexec hown hlink hnamed hmethM hstM hkP hkPi hy (a := b) (cell := cellB) hcell
    (fun z h => by rw [h] at hobj; cases hobj) hselP hmethM habM hkP hkPi (g := g) hg (argsL := argsL) (rest := rest) (hlen _ hsigM) hstack hdg
  rcases hK m meth c ⟨T.setVm vm₁, locs, cells, slots⟩ { g with stack := rest } (.invokevirtual index) mk (Value.ref b :: argsL).toArray X₁ hg hsize hdg hW (X₁.named hnamed) (hpre vm₁ X₁.warmed) with ⟨v, B, X', hpost, hsteps⟩ | ⟨q, B, X', hpost, hsteps⟩
  · exact Or.inl ⟨v, vm₁, B, X₁.warmed, X', hpost, fun target h => hstep₁ _ fun acts => by rw [doInvoke_state]; exact hsteps.trans h⟩
  · exact Or.inr ⟨q, vm₁, B, X₁.warmed, X', hpost, hstep₁ _ fun acts => by rw [doInvoke_state]; exact hsteps⟩
theorem vx_callSX (X : Stand p l e R s m args below meth c T locs cells slots) (hexec : p.tables.exec = Jvm.exec) {own : String} {index : Nat} {y : MethodName} {bytes : ByteArray} {maxL : Nat} {ret : Option FieldType} {hh : List (Nat × Nat × Nat × Nat)}
    (hown : s.vm.findClass own = some m.cls) (hlink : (Cond.methodLink own index y).before args s = true) (hstat : (Cond.static y).before args s = true) (hinit : (Cond.initialized y.cls).before args s = true)
    (hcode : (Cond.codeWith y bytes maxL ret hh).before args s = true) (hy : y.cls ≠ "java/lang/invoke/MethodHandle" ∧ y.cls ≠ "java/lang/invoke/VarHandle")
    {W9 : Nat} {Pre : Pt → Array Value → Prop} {Post : Pt → Array Value → Option Value → Pt → Prop} {PostX : Pt → Array Value → Addr → Pt → Prop} (hK : vx_Back l R p e below s args y 3 W9 Pre Post PostX)
    {g : JFrame} (hg : g.method = m) (hsize : g.locals.size = c.maxLocals) {argsL rest : List Value} (hlen : ∀ sig, parseMethodDescriptor y.desc = some sig → argsL.length = sig.parameters.length)
    (hstack : g.stack = argsL.reverse ++ rest) (hW : 2 * g.monitorRoom + (rest.map fun v => v.category).sum ≤ W9) (hdg : decode c.code g.pc = .ok (.invokestatic index, 3))
    (hpre : ∀ vm₁, s.WarmedH vm₁ → Pre ⟨T.setVm vm₁, locs, cells, slots⟩ argsL.toArray) :
    (∃ (v : Option Value) (vm₁ : Vm) (B : Pt), s.WarmedH vm₁ ∧ Stand p l e R s m args below meth c B.U B.locs B.cells B.slots ∧ Post ⟨T.setVm vm₁, locs, cells, slots⟩ argsL.toArray v B ∧
      ∀ target, Steps p.tables e below (B.U.setTop { g with pc := g.pc + 3, stack := v.toList ++ rest }) target → Steps p.tables e below (T.setTop g) target) ∨
    (∃ (q : Addr) (vm₁ : Vm) (B : Pt), s.WarmedH vm₁ ∧ Stand p l e R s m args below meth c B.U B.locs B.cells B.slots ∧ PostX ⟨T.setVm vm₁, locs, cells, slots⟩ argsL.toArray q B ∧
      Steps p.tables e below (T.setTop g) ((B.U.setTop { g with stack := rest }).pushFrame (.throwing q))) := by
  obtain ⟨mk, methM, cM, hnamed, hmethM, -, -, -, -, -, -, hsigM⟩ := Cond.codeWith_spec hcode
  have hstatic : methM.isStatic = true := Cond.static_spec hnamed hmethM hstat
  obtain ⟨kP, hkP, -⟩ := className_of_methodNamed hnamed
  have hinitP : kP.init = .initialized := Cond.initialized_spec (findClass_of_methodNamed hnamed) hkP hinit
  obtain ⟨vm₁, X₁, hstep₁⟩ := X.invokestatic hexec hown hlink hnamed hmethM hstatic hkP hinitP hy (g := g) hg (argsL := argsL) (rest := rest) (hlen _ hsigM) hstack hdg
  rcases hK m meth c ⟨T.setVm vm₁, locs, cells, slots⟩ { g with stack := rest } (.invokestatic index) mk argsL.toArray X₁ hg hsize hdg hW (X₁.named hnamed) (hpre vm₁ X₁.warmed) with ⟨v, B, X', hpost, hsteps⟩ | ⟨q, B, X', hpost, hsteps⟩
  · exact Or.inl ⟨v, vm₁, B, X₁.warmed, X', hpost, fun target h => hstep₁ _ fun acts => by rw [doInvoke_state]; exact hsteps.trans h⟩
  · exact Or.inr ⟨q, vm₁, B, X₁.warmed, X', hpost, hstep₁ _ fun acts => by rw [doInvoke_state]; exact hsteps⟩
theorem vx_callVW (X : Stand p l e R s m args below meth c T locs cells slots) (hexec : p.tables.exec = Jvm.exec) {own C : String} {index : Nat} {y : MethodName} {bytes : ByteArray} {maxL : Nat} {ret : Option FieldType} {hh : List (Nat × Nat × Nat × Nat)}
    (hown : s.vm.findClass own = some m.cls) (hlink : (Cond.methodLink own index y).before args s = true) (hinst : (Cond.instanceMethod y).before args s = true) (hsel : (Cond.selects C y y).before args s = true)
    (hcode : (Cond.codeWith y bytes maxL ret hh).before args s = true) (hy : y.cls ≠ "java/lang/invoke/MethodHandle" ∧ y.cls ≠ "java/lang/invoke/VarHandle")
    {W9 : Nat} {Pre : Pt → Array Value → Prop} {Post : Pt → Array Value → Option Value → Pt → Prop} (hK : Back l R p e below s args y 3 W9 Pre Post)
    {b : Addr} {cellB : Cell} (hcell : T.heap[b]? = some cellB) (hobj : cellB.vm.isStatics = false) (hcls : s.vm.findClass C = some cellB.cls)
    {g : JFrame} (hg : g.method = m) (hsize : g.locals.size = c.maxLocals) {argsL rest : List Value} (hlen : ∀ sig, parseMethodDescriptor y.desc = some sig → argsL.length = sig.parameters.length)
    (hstack : g.stack = argsL.reverse ++ .ref b :: rest) (hW : 2 * g.monitorRoom + (rest.map fun v => v.category).sum ≤ W9) (hdg : decode c.code g.pc = .ok (.invokevirtual index, 3))
    (hpre : ∀ vm₁, s.WarmedH vm₁ → Pre ⟨T.setVm vm₁, locs, cells, slots⟩ (Value.ref b :: argsL).toArray) :
    ∃ (v : Option Value) (vm₁ : Vm) (B : Pt), s.WarmedH vm₁ ∧ Stand p l e R s m args below meth c B.U B.locs B.cells B.slots ∧ Post ⟨T.setVm vm₁, locs, cells, slots⟩ (Value.ref b :: argsL).toArray v B ∧
      ∀ target, Steps p.tables e below (B.U.setTop { g with pc := g.pc + 3, stack := v.toList ++ rest }) target → Steps p.tables e below (T.setTop g) target := by
  obtain ⟨mk, methM, hnamed, hmethM, hstM, habM⟩ := Cond.instanceMethod_spec hinst
  obtain ⟨m8, methM', cM, hn8, hmethM', -, -, -, -, -, -, hsigM⟩ := Cond.codeWith_spec hcode
  cases Option.some.inj (hn8.symm.trans hnamed)
  cases hmethM.symm.trans hmethM'
  obtain ⟨c2, r2, m2, q1, q2, q3, q4, kP, hkP, hkPi⟩ := Cond.selects_spec hsel
  cases hcls.symm.trans q1
  cases (State.methodFound?_of_named hnamed hy).symm.trans q2
  cases hnamed.symm.trans q3
  have hselP : selectMethod e.platform s.vm cellB.cls mk = .method mk := by rw [Launch.admits_selectMethod X.admits]; exact q4
  obtain ⟨vm₁, X₁, hstep₁⟩ := X.invokevirtual hexec hown hlink hnamed hmethM hstM hkP hkPi hy (a := b) (cell := cellB) hcell
    (fun z h => by rw [h] at hobj; cases hobj) hselP hmethM habM hkP hkPi (g := g) hg (argsL := argsL) (rest := rest) (hlen _ hsigM) hstack hdg
  obtain ⟨v, B, X', hpost, hsteps⟩ := hK m meth c ⟨T.setVm vm₁, locs, cells, slots⟩ { g with stack := rest } (.invokevirtual index) mk (Value.ref b :: argsL).toArray X₁ hg hsize hdg hW (X₁.named hnamed) (hpre vm₁ X₁.warmed)
  exact ⟨v, vm₁, B, X₁.warmed, X', hpost, fun target h => hstep₁ _ fun acts => by rw [doInvoke_state]; exact hsteps.trans h⟩
abbrev vx_CVW (R : Room) (s : State) (args : Array Value) (own C : String) (index : Nat) (y : MethodName) (bytes : ByteArray) (maxL : Nat) (ret : Option FieldType) (hh : List (Nat × Nat × Nat × Nat)) (ws : List Cond) (rm : Room) (mc ms n : Nat) : Prop :=
  (rm.cells = mc ∧ rm.slots = ms ∧ rm.frames + 1 ≤ R.frames ∧ 8 + (maxL + 11) + rm.locals ≤ R.locals ∧ (∀ w ∈ ws, ∀ (a' : Array Value) (U : State), s.WarmedH U.vm → w.before a' U = true) ∧ Cond.codeWith y bytes maxL ret hh ∈ ws) ∧
  (Cond.codeWith y bytes maxL ret hh).before args s = true ∧ (Cond.initialized y.cls).before args s = true ∧ (y.cls ≠ "java/lang/invoke/MethodHandle" ∧ y.cls ≠ "java/lang/invoke/VarHandle") ∧
  (∀ sig, parseMethodDescriptor y.desc = some sig → n = sig.parameters.length) ∧ (Cond.methodLink own index y).before args s = true ∧ (Cond.instanceMethod y).before args s = true ∧ (Cond.selects C y y).before args s = true
theorem vx_cwVW {own C : String} {index maxL mc ms : Nat} {y : MethodName} {bytes : ByteArray} {ret : Option FieldType} {hh : List (Nat × Nat × Nat × Nat)} {Ts ws ws' : List Cond} {rm : Room} (n : Nat) (ht : ∀ w ∈ Ts, w.before args s = true) (hT : GoodIn Ts (wsV own index C y ws)) (hw : ws = Cond.codeWith y bytes maxL ret hh :: ws') (hrc : rm.cells = mc) (hrs : rm.slots = ms)
    (hd : y.cls = C ∧ y.cls ≠ "java/lang/invoke/MethodHandle" ∧ y.cls ≠ "java/lang/invoke/VarHandle" ∧ (parseMethodDescriptor y.desc).map (fun d => d.parameters.length) = some n) (hR : rm.frames + 1 ≤ R.frames ∧ 8 + (maxL + 11) + rm.locals ≤ R.locals) :
    vx_CVW R s args own C index y bytes maxL ret hh ws rm mc ms n := by
  obtain ⟨hC, hd⟩ := hd
  subst hC
  have ok : ∀ w ∈ wsV own index y.cls y ws, w.before args s = true := fun w h => ht w (hT w h).1
  have hG : GoodIn Ts ws := fun w h => hT w (by unfold wsV; exact List.mem_append_right _ h)
  have hc : Cond.codeWith y bytes maxL ret hh ∈ ws := by rw [hw]; exact List.mem_cons_self
  refine ⟨⟨hrc, hrs, hR.1, hR.2, pay_in ht hG, hc⟩, ht _ (hG _ hc).1, ok _ (by simp [wsV]), ⟨hd.1, hd.2.1⟩, fun sig h => ?_, ok _ (by simp [wsV]), ok _ (by simp [wsV]), ok _ (by simp [wsV])⟩
  have h2 := hd.2.2
  rw [h] at h2
  exact (Option.some.inj h2).symm
theorem vx_runVW {y : MethodName} {bytes cc : ByteArray} {maxL nL mc ms n index : Nat} {ret : Option FieldType} {hh : List (Nat × Nat × Nat × Nat)} {ws : List Cond} {rm : Room} {Pc : Array Value → State → Prop} {Qc : Array Value → State → Outcome → State → Prop} {free : Addr → Prop} {Ts : List Cond} {own C : String} {b : Addr} {As rest : List Value} {g : JFrame}
    (S : CallFix p m c cc nL s args Ts own) (hM : Met l y ws rm Pc Qc mc ms free) (cw : vx_CVW R s args own C index y bytes maxL ret hh ws rm mc ms n) (hp : PreV s H C b Pc As)
    (hg : g.method = m) (hn : As.length = n) (hsize : g.locals.size = nL) (hstack : g.stack = As.reverse ++ .ref b :: rest) (hW : 2 * g.monitorRoom + (rest.map fun v => v.category).sum ≤ 8) (hdg : decode cc g.pc = .ok (.invokevirtual index, 3)) (hf : cells + mc ≤ R.cells ∧ slots + ms ≤ R.slots) :
    va_Run p l e R s m args below meth c H locs cells slots mc ms g rest (Qc (Value.ref b :: As).toArray) free := by
  obtain ⟨⟨hrc, hrs, hfr, hlo, hws, hcw⟩, hcode, hini, hy, hlen, hl, hin, hse⟩ := cw
  have hK : Back l R p e below s args y 3 8 (PreOf R mc ms Pc) (PostOf Qc mc ms free) := va_backW (hh := hh) (bytes := bytes) (maxL := maxL) (ret := ret) hM hp.1 hrc hrs hfr hlo hws hcw (fun a' U hW => word_at hW (Or.inl (by first | rfl | simp [Cond.onTables, Cond.keeps, Cond.steady])) hini)
  obtain ⟨hx, hb, hml, ho, -⟩ := S
  obtain ⟨-, ⟨cellB, hcB, hoB, hclB⟩, hPc⟩ := hp
  intro T hT X
  obtain ⟨v, vm₁, ⟨U', l2, c2, s2⟩, hW₁, X', ⟨g', mk, t, L, e1, e2, hq, h1, hL, h2, h3⟩, st⟩ := vx_callVW X hx (C := C) (hh := hh) (bytes := bytes) (maxL := maxL) (ret := ret) ho hl hin hse hcode hy hK (by rw [hT]; exact hcB) hoB hclB hg (hsize.trans hml.symm) (argsL := As) (rest := rest) (fun sig h => hn.trans (hlen sig h)) hstack hW (by rw [hb]; exact hdg)
    (fun vm₁ hW₁ => ⟨hf.1, hf.2, hPc (T.setVm vm₁) hT hW₁⟩)
  dsimp only [Pt.U, Pt.locs, Pt.cells, Pt.slots] at X' e1 e2 h1 h2 h3 st
  subst h1; subst h2; subst h3
  exact ⟨v, (T.setVm vm₁).calling g' mk (Value.ref b :: As).toArray, t, U', L, hT, X', hL, e1, e2, hq, st⟩
section
variable {y : MethodName} {bytes cc : ByteArray} {maxL nL mc ms n index : Nat} {ret : Option FieldType} {ws : List Cond} {rm : Room} {Pc : Array Value → State → Prop} {Qc : Array Value → State → Outcome → State → Prop} {XC : String → State → State → Prop} {free : Addr → Prop} {Ts : List Cond} {own C : String} {b : Addr} {As rest : List Value} {g : JFrame}
theorem vx_runVX {hh : List (Nat × Nat × Nat × Nat)} (S : CallFix p m c cc nL s args Ts own) (hM : vx_Met l y ws rm Pc Qc XC mc ms free) (cw : vx_CVW R s args own C index y bytes maxL ret hh ws rm mc ms n) (hp : PreV s H C b Pc As)
    (hg : g.method = m) (hn : As.length = n) (hsize : g.locals.size = nL) (hstack : g.stack = As.reverse ++ .ref b :: rest) (hW : 2 * g.monitorRoom + (rest.map fun v => v.category).sum ≤ 8) (hdg : decode cc g.pc = .ok (.invokevirtual index, 3)) (hf : cells + mc ≤ R.cells ∧ slots + ms ≤ R.slots) :
    vx_Run p l e R s m args below meth c H locs cells slots mc ms g rest (Qc (Value.ref b :: As).toArray) XC free := by
  obtain ⟨⟨hrc, hrs, hfr, hlo, hws, hcw⟩, hcode, hini, hy, hlen, hl, hin, hse⟩ := cw
  have hK : vx_Back l R p e below s args y 3 8 (PreOf R mc ms Pc) (PostOf Qc mc ms free) (vx_Post XC mc ms free) := vx_backW (hh := hh) (bytes := bytes) (maxL := maxL) (ret := ret) hM hp.1 hrc hrs hfr hlo hws hcw (fun a' U hW => word_at hW (Or.inl (by first | rfl | simp [Cond.onTables, Cond.keeps, Cond.steady])) hini)
  obtain ⟨hx, hb, hml, ho, -⟩ := S
  obtain ⟨-, ⟨cellB, hcB, hoB, hclB⟩, hPc⟩ := hp
  intro T hT X
  rcases vx_callVX X hx (C := C) (hh := hh) (bytes := bytes) (maxL := maxL) (ret := ret) ho hl hin hse hcode hy hK (by rw [hT]; exact hcB) hoB hclB hg (hsize.trans hml.symm) (argsL := As) (rest := rest) (fun sig h => hn.trans (hlen sig h)) hstack hW (by rw [hb]; exact hdg)
    (fun vm₁ hW₁ => ⟨hf.1, hf.2, hPc (T.setVm vm₁) hT hW₁⟩) with ⟨v, vm₁, ⟨U', l2, c2, s2⟩, hW₁, X', ⟨g', mk, t, L, e1, e2, hq, h1, hL, h2, h3⟩, st⟩ | ⟨q, vm₁, ⟨U', l2, c2, s2⟩, hW₁, X', ⟨g', mk, t, L, E, ce, e1, e2, hq, hce, hcv, hcl, h1, hL, h2, h3⟩, st⟩
  · dsimp only [Pt.U, Pt.locs, Pt.cells, Pt.slots] at X' e1 e2 h1 h2 h3 st
    subst h1; subst h2; subst h3
    exact Or.inl ⟨v, (T.setVm vm₁).calling g' mk (Value.ref b :: As).toArray, t, U', L, hT, X', hL, e1, e2, hq, st⟩
  · dsimp only [Pt.U, Pt.locs, Pt.cells, Pt.slots] at X' e1 e2 h1 h2 h3 st hcl
    subst h1; subst h2; subst h3
    exact Or.inr ⟨q, (T.setVm vm₁).calling g' mk (Value.ref b :: As).toArray, t, U', L, E, ce, hT, X', hL, e1, e2, hq, hce, hcv, vx_cls hW₁ hcl, st⟩
theorem vx_runSX {hh : List (Nat × Nat × Nat × Nat)} (S : CallFix p m c cc nL s args Ts own) (hM : vx_Met l y ws rm Pc Qc XC mc ms free) (cw : vx_CSW R s args own index y bytes maxL ret hh ws rm mc ms n) (hp : PreS s H Pc As)
    (hg : g.method = m) (hn : As.length = n) (hsize : g.locals.size = nL) (hstack : g.stack = As.reverse ++ rest) (hW : 2 * g.monitorRoom + (rest.map fun v => v.category).sum ≤ 8) (hdg : decode cc g.pc = .ok (.invokestatic index, 3)) (hf : cells + mc ≤ R.cells ∧ slots + ms ≤ R.slots) :
    vx_Run p l e R s m args below meth c H locs cells slots mc ms g rest (Qc As.toArray) XC free := by
  obtain ⟨⟨hrc, hrs, hfr, hlo, hws, hcw⟩, hcode, hini, hy, hlen, hl, hstt⟩ := cw
  have hK : vx_Back l R p e below s args y 3 8 (PreOf R mc ms Pc) (PostOf Qc mc ms free) (vx_Post XC mc ms free) := vx_backW (hh := hh) (bytes := bytes) (maxL := maxL) (ret := ret) hM hp.1 hrc hrs hfr hlo hws hcw (fun a' U hW => word_at hW (Or.inl (by first | rfl | simp [Cond.onTables, Cond.keeps, Cond.steady])) hini)
  obtain ⟨hx, hb, hml, ho, -⟩ := S
  intro T hT X
  rcases vx_callSX X hx (hh := hh) (bytes := bytes) (maxL := maxL) (ret := ret) ho hl hstt hini hcode hy hK hg (hsize.trans hml.symm) (argsL := As) (rest := rest) (fun sig h => hn.trans (hlen sig h)) hstack hW (by rw [hb]; exact hdg)
    (fun vm₁ hW₁ => ⟨hf.1, hf.2, hp.2 (T.setVm vm₁) hT hW₁⟩) with ⟨v, vm₁, ⟨U', l2, c2, s2⟩, hW₁, X', ⟨g', mk, t, L, e1, e2, hq, h1, hL, h2, h3⟩, st⟩ | ⟨q, vm₁, ⟨U', l2, c2, s2⟩, hW₁, X', ⟨g', mk, t, L, E, ce, e1, e2, hq, hce, hcv, hcl, h1, hL, h2, h3⟩, st⟩
  · dsimp only [Pt.U, Pt.locs, Pt.cells, Pt.slots] at X' e1 e2 h1 h2 h3 st
    subst h1; subst h2; subst h3
    exact Or.inl ⟨v, (T.setVm vm₁).calling g' mk As.toArray, t, U', L, hT, X', hL, e1, e2, hq, st⟩
  · dsimp only [Pt.U, Pt.locs, Pt.cells, Pt.slots] at X' e1 e2 h1 h2 h3 st hcl
    subst h1; subst h2; subst h3
    exact Or.inr ⟨q, (T.setVm vm₁).calling g' mk As.toArray, t, U', L, E, ce, hT, X', hL, e1, e2, hq, hce, hcv, vx_cls hW₁ hcl, st⟩
end
end VXH
theorem vx_ofWH {l : Launch} {y : MethodName} {ws ws' : List Cond} {rm : Room} {Pc : Array Value → State → Prop} {Qc : Array Value → State → Outcome → State → Prop} {XC : String → State → State → Prop} {mc ms : Nat} {free : Addr → Prop} {cc : ByteArray} {maxL : Nat} {ret : Option FieldType} {hh : List (Nat × Nat × Nat × Nat)}
    (hy : plainName y.cls = true) (hw : ws = Cond.codeWith y cc maxL ret hh :: ws')
    (body : ∀ p e s m args below meth c s₁, BodyLoose p l y (headSpec ws rm) cc maxL ret e s m args below meth c s₁ → c.maxLocals = maxL → Pc args s →
      W p l e (headSpec ws rm).room s m args below meth c s.heap [] 0 0 (vx_MQ below Qc XC args s mc ms free) (entryFrame m args maxL)) : vx_Met l y ws rm Pc Qc XC mc ms free := by
  refine MetFree.of_bodyS (code := cc) (maxLocals := maxL) (ret := ret) hy ?_ ?_
  · intro args s m h hn
    obtain ⟨m9, meth, c, hn9, h1, h2, h3, h4, -, h5, h6, -⟩ := Cond.codeWith_spec (atoms_spec (ws := ws) h _ (by rw [hw]; exact List.mem_cons_self))
    cases hn.symm.trans hn9
    exact ⟨meth, c, h1, h2, h3, h4, h5, h6⟩
  · intro p e s m args below meth c s₁ B hml hP _
    have hh0 : s₁.heap = s.heap := by rw [B.state]; rfl
    obtain ⟨t, a1, o, b1, b2, b3⟩ := body p e s m args below meth c s₁ B hml hP s₁ hh0 (Stand.of_body B)
    exact ⟨t, o, a1, b1, b2, b3⟩
/-! ===== END ===== -/
end
section
/-! the world: virtual cells (tag, number); a memory of ints by tag, number, slot; what the real heap holds for it -/
abbrev zkV : Type := Int ⊕ ((Nat × Nat) ⊕ Value)
abbrev vi (x : Int) : zkV := Sum.inl x
abbrev vr (t i : Nat) : zkV := Sum.inr (Sum.inl (t, i))
abbrev vv (v : Value) : zkV := Sum.inr (Sum.inr v)
abbrev vl (x : Int) : zkV := Sum.inr (Sum.inr (Value.long (Int64.ofInt x)))
abbrev vd (x : UInt64) : zkV := Sum.inr (Sum.inr (Value.double x))
abbrev vf (x : UInt32) : zkV := Sum.inr (Sum.inr (Value.float x))
abbrev zkM : Type := Nat → Nat → Nat → Int
def mset (m : zkM) (t i k : Nat) (x : Int) : zkM := fun t' i' k' => if t' = t ∧ i' = i ∧ k' = k then x else m t' i' k'
/-- a whole row is replaced -/
def mrow (m : zkM) (t i : Nat) (f : Nat → Int) : zkM := fun t' i' k' => if t' = t ∧ i' = i then f k' else m t' i' k'
/-- classes' numbers, slots' numbers, array classes, addresses -/
abbrev zkG : Type := (Nat → ClassId) × (Nat → Nat → Nat) × (Nat → ClassId) × (Nat × Nat → Nat)
abbrev gD (G : zkG) : va_G := (G.1, G.2.1)
abbrev gA (G : zkG) : Nat → ClassId := G.2.2.1
abbrev ga (G : zkG) : Nat × Nat → Nat := G.2.2.2
def tau (G : zkG) (v : zkV) : Value := match v with
  | Sum.inl x => .int (Int32.ofInt x)
  | Sum.inr (Sum.inl q) => .ref (ga G q)
  | Sum.inr (Sum.inr w) => w
def catV (v : zkV) : Nat := match v with
  | Sum.inl _ => 1
  | Sum.inr (Sum.inl _) => 1
  | Sum.inr (Sum.inr w) => w.category
theorem catV_eq (G : zkG) (v : zkV) : (tau G v).category = catV v := by
  rcases v with x | q | w <;> rfl
/-- how many cells of a tag there are -/
def cnt (t : Nat) : Nat := match t with
  | 0 => 2 | 1 => 10 | 2 => 1 | 3 => 2 | 4 => 2 | 5 => 10 | 6 => 1 | 7 => 1
  | 10 => 2 | 11 => 2 | 12 => 2 | 13 => 2 | 14 => 2 | 15 => 2 | 16 => 2 | 17 => 2 | 18 => 2
  | 19 => 10 | 20 => 10 | 21 => 10 | 22 => 10 | 23 => 1 | 24 => 1
  | 30 => 1 | 31 => 1 | 32 => 1 | 33 => 1 | 34 => 1 | 35 => 1 | 36 => 1 | 37 => 1 | 38 => 1 | 39 => 1
  | 40 => 1 | 41 => 1 | 42 => 1 | 43 => 1 | 44 => 1 | 45 => 1 | 46 => 1 | 50 => 1 | 51 => 1
  | _ => 0
theorem cnt_lt {t i : Nat} (h : i < cnt t) : t < 52 := by
  unfold cnt at h
  split at h <;> omega
/-- how many fields an object of a tag has -/
def nfl (t : Nat) : Nat := match t with
  | 0 => 8 | 1 => 3 | 2 => 5 | 3 => 5 | 4 => 11 | 5 => 15 | 6 => 5 | 7 => 38 | _ => 0
/-- the cell that a field holds, if it holds one -/
def rfo (t i k : Nat) : Option (Nat × Nat) := match t, k with
  | 0, 0 => some (10, i) | 0, 1 => some (4, i) | 0, 2 => some (3, i) | 0, 3 => some (17, i) | 0, 4 => some (18, i)
  | 1, 0 => some (21, i)
  | 2, 0 => some (23, i) | 2, 1 => some (24, i)
  | 3, 0 => some (13, i) | 3, 1 => some (14, i) | 3, 2 => some (15, i) | 3, 3 => some (16, i)
  | 4, 0 => some (11, i) | 4, 1 => some (12, i)
  | 5, 0 => some (19, i) | 5, 1 => some (20, i) | 5, 2 => some (1, i) | 5, 3 => some (22, i)
  | 6, 0 => some (0, 0) | 6, 1 => some (0, 1) | 6, 2 => some (2, 0)
  | 7, 3 => some (30, i) | 7, 4 => some (31, i) | 7, 5 => some (32, i) | 7, 10 => some (33, i) | 7, 12 => some (34, i) | 7, 13 => some (35, i)
  | 7, 14 => some (36, i) | 7, 15 => some (37, i) | 7, 16 => some (38, i) | 7, 17 => some (39, i) | 7, 18 => some (40, i)
  | 7, 23 => some (41, i) | 7, 24 => some (42, i) | 7, 25 => some (43, i) | 7, 27 => some (44, i) | 7, 33 => some (45, i) | 7, 35 => some (46, i)
  | _, _ => none
/-- an array's length, and its kind: 0 int, 1 char, 2 Task, 3 long, 4 double -/
def aln (t : Nat) : Nat := match t with
  | 10 => 5 | 11 => 9 | 12 => 9 | 13 => 12 | 14 => 12 | 15 => 12 | 16 => 12 | 17 => 4 | 18 => 400
  | 19 => 6 | 20 => 6 | 21 => 400 | 22 => 6 | 23 => 60 | 24 => 4
  | 30 => 20 | 31 => 5 | 32 => 60 | 33 => 24 | 34 => 400 | 35 => 2005 | 36 => 5 | 37 => 5 | 38 => 5 | 39 => 30
  | 40 => 5 | 41 => 12 | 42 => 12 | 43 => 800 | 44 => 60 | 45 => 4 | 46 => 3600 | 50 => 1 | 51 => 1
  | _ => 0
def akd (t : Nat) : Nat := match t with
  | 10 => 2 | 23 => 1 | 44 => 1 | 50 => 3 | 51 => 4 | _ => 0
def zkF (G : zkG) (m : zkM) (t i k : Nat) : Value := match rfo t i k with
  | some q => .ref (ga G q)
  | none => .int (Int32.ofInt (m t i k))
def zkE (G : zkG) (m : zkM) (q : Nat × Nat) : va_E :=
  if q.1 < 8 then Sum.inr (q.1, (List.range (nfl q.1)).map (fun k => zkF G m q.1 q.2 k))
  else Sum.inl (gA G (akd q.1), (aln q.1, match akd q.1 with
    | 2 => Sum.inr (Sum.inr (Sum.inr (Sum.inr (fun j => some (ga G (5, 5 * q.2 + j))))))
    | 3 => Sum.inr (Sum.inl (fun j => Int64.ofInt (m q.1 q.2 j)))
    | 4 => Sum.inr (Sum.inr (Sum.inr (Sum.inl (fun j => UInt64.ofNat (m q.1 q.2 j).toNat))))
    | _ => Sum.inl (fun j => Int32.ofInt (m q.1 q.2 j))))
def zkL : List (Nat × Nat) := (List.range 52).flatMap (fun t => (List.range (cnt t)).map (fun i => (t, i)))
theorem zkL_mem {t i : Nat} (h : i < cnt t) : (t, i) ∈ zkL :=
  List.mem_flatMap.mpr ⟨t, List.mem_range.mpr (cnt_lt h), List.mem_map.mpr ⟨i, List.mem_range.mpr h, rfl⟩⟩
theorem zkL_nd : zkL.Nodup := by decide +kernel
def wl (G : zkG) (m : zkM) : va_W := zkL.map (fun q => (ga G q, zkE G m q))
theorem wl_at (G : zkG) (m : zkM) {t i : Nat} (h : i < cnt t) : ∃ k : Nat, zkL[k]? = some (t, i) ∧ (wl G m)[k]? = some (ga G (t, i), zkE G m (t, i)) := by
  obtain ⟨k, hk⟩ := List.getElem?_of_mem (zkL_mem h)
  exact ⟨k, hk, by unfold wl; rw [List.getElem?_map, hk]; rfl⟩
/-- the cells may be told apart -/
def zkJ (G : zkG) : Prop := ∀ u ∈ zkL, ∀ v ∈ zkL, ga G u = ga G v → u = v
/-- which real cells may change: the world's, and new ones -/
def zkA (G : zkG) (sz : Nat) : Nat → Prop := fun q => (∃ v ∈ zkL, q = ga G v) ∨ sz ≤ q
theorem zkA_in {G : zkG} {sz t i : Nat} (h : i < cnt t) : zkA G sz (ga G (t, i)) := Or.inl ⟨_, zkL_mem h, rfl⟩
theorem zkA_mono {G : zkG} {a b : Nat} (h : a ≤ b) : ∀ q, zkA G b q → zkA G a q := fun q hq => hq.elim Or.inl (fun h2 => Or.inr (Nat.le_trans h h2))
theorem wl_D {G : zkG} (hJ : zkJ G) (m : zkM) (sz : Nat) : va_D (zkA G sz) (wl G m) := by
  have key : ∀ (k : Nat) (p : Nat × va_E), (wl G m)[k]? = some p → ∃ u, zkL[k]? = some u ∧ p.1 = ga G u := by
    intro k p hp
    unfold wl at hp
    rw [List.getElem?_map] at hp
    cases hu : zkL[k]? with
    | none => rw [hu] at hp; cases hp
    | some u => rw [hu] at hp; cases hp; exact ⟨u, rfl, rfl⟩
  refine ⟨fun i j p q hp hq e => ?_, fun k q hq => ?_⟩
  · obtain ⟨u, hu, eu⟩ := key i p hp
    obtain ⟨v, hv, ev⟩ := key j q hq
    have huv : u = v := hJ u (List.mem_of_getElem? hu) v (List.mem_of_getElem? hv) (by rw [← eu, ← ev]; exact e)
    subst huv
    have h1 := (List.getElem?_eq_some_iff.mp hu).1
    exact (List.getElem?_inj h1 zkL_nd).mp (hu.trans hv.symm)
  · obtain ⟨u, hu, eu⟩ := key k q hq
    exact Or.inl ⟨u, List.mem_of_getElem? hu, eu⟩
/-- one cell of the world is written -/
theorem wl_set {G : zkG} {m m' : zkM} {k t i : Nat} (hk : zkL[k]? = some (t, i)) (ho : ∀ u ∈ zkL, u ≠ (t, i) → zkE G m' u = zkE G m u) : (wl G m).set k (ga G (t, i), zkE G m' (t, i)) = wl G m' := by
  apply List.ext_getElem?
  intro j
  unfold wl
  rw [List.getElem?_set]
  by_cases hj : k = j
  · subst hj
    have h1 := (List.getElem?_eq_some_iff.mp hk).1
    rw [if_pos rfl, List.length_map, if_pos h1, List.getElem?_map, hk]
    rfl
  · rw [if_neg hj, List.getElem?_map, List.getElem?_map]
    cases hu : zkL[j]? with
    | none => rfl
    | some u =>
      have hne : u ≠ (t, i) := fun e => by
        subst e
        have h1 := (List.getElem?_eq_some_iff.mp hk).1
        exact hj ((List.getElem?_inj h1 zkL_nd).mp (hk.trans hu.symm))
      show some (ga G u, zkE G m u) = some (ga G u, zkE G m' u)
      rw [ho u (List.mem_of_getElem? hu) hne]
theorem zkE_off {G : zkG} {m m' : zkM} {u : Nat × Nat} (h : ∀ k, m' u.1 u.2 k = m u.1 u.2 k) : zkE G m' u = zkE G m u := by
  have h2 : m' u.1 u.2 = m u.1 u.2 := funext h
  unfold zkE
  simp only [zkF, h2]
theorem mset_s {m : zkM} {t i k : Nat} {x : Int} : mset m t i k x t i k = x := by simp [mset]
theorem mset_off {m : zkM} {t i k : Nat} {x : Int} {u : Nat × Nat} (h : u ≠ (t, i)) (j : Nat) : mset m t i k x u.1 u.2 j = m u.1 u.2 j := by
  unfold mset
  rw [if_neg]
  rintro ⟨h1, h2, -⟩
  exact h (Prod.ext h1 h2)
theorem mrow_off {m : zkM} {t i : Nat} {f : Nat → Int} {u : Nat × Nat} (h : u ≠ (t, i)) (j : Nat) : mrow m t i f u.1 u.2 j = m u.1 u.2 j := by
  unfold mrow
  rw [if_neg]
  rintro ⟨h1, h2⟩
  exact h (Prod.ext h1 h2)
abbrev zkTy (G : zkG) : List (ClassId × FieldType) := [(gA G 0, .int), (gA G 1, .char), (gA G 2, .object "CeilingWorkbench$Task"), (gA G 3, .long), (gA G 4, .double)]
abbrev zkCl : List vw_C := [(RX1, TX1, 8), (RX2, TX2, 3), (RX3, TX3, 5), (RX4, TX4, 5), (RX5, TX5, 11), (RX6, TX6, 15), (RX7, TX7, 5), (RX8, TX8, 38)]
/-- the classes' names, by their numbers -/
def zkR (o : Nat) : String := match o with
  | 0 => RX1 | 1 => RX2 | 2 => RX3 | 3 => RX4 | 4 => RX5 | 5 => RX6 | 6 => RX7 | 7 => RX8 | 8 => RX0 | _ => RL
def zkT (o : Nat) : u_T := match o with
  | 0 => TX1 | 1 => TX2 | 2 => TX3 | 3 => TX4 | 4 => TX5 | 5 => TX6 | 6 => TX7 | _ => TX8
def zkty (o : Nat) : Nat → FieldType := match o with
  | 0 => tyX1 | 1 => tyX2 | 2 => tyX3 | 3 => tyX4 | 4 => tyX5 | 5 => tyX6 | 6 => tyX7 | _ => tyX8
theorem zkCl_at {t : Nat} (h : t < 8) : zkCl[t]? = some (zkR t, zkT t, nfl t) := by
  rcases (show t = 0 ∨ t = 1 ∨ t = 2 ∨ t = 3 ∨ t = 4 ∨ t = 5 ∨ t = 6 ∨ t = 7 by omega) with rfl | rfl | rfl | rfl | rfl | rfl | rfl | rfl <;> rfl
theorem zkTy_ok {t : Nat} (h : t < 8) : ∀ k, k < nfl t → parseFieldDescriptor (zkT t k).2.2.1 = some (zkty t k) := by
  rcases (show t = 0 ∨ t = 1 ∨ t = 2 ∨ t = 3 ∨ t = 4 ∨ t = 5 ∨ t = 6 ∨ t = 7 by omega) with rfl | rfl | rfl | rfl | rfl | rfl | rfl | rfl
  · exact tyX1_ok
  · exact tyX2_ok
  · exact tyX3_ok
  · exact tyX4_ok
  · exact tyX5_ok
  · exact tyX6_ok
  · exact tyX7_ok
  · exact tyX8_ok
theorem zkNm {t : Nat} (h : t < 8) : ∀ a, a < nfl t → ∀ b, b < nfl t → a ≠ b → (zkT t a).2.1 ≠ (zkT t b).2.1 := by
  rcases (show t = 0 ∨ t = 1 ∨ t = 2 ∨ t = 3 ∨ t = 4 ∨ t = 5 ∨ t = 6 ∨ t = 7 by omega) with rfl | rfl | rfl | rfl | rfl | rfl | rfl | rfl
  · exact nmX1
  · exact nmX2
  · exact nmX3
  · exact nmX4
  · exact nmX5
  · exact nmX6
  · exact nmX7
  · exact nmX8
theorem nfl_pos {t k : Nat} (h : k < nfl t) : t < 8 := by
  unfold nfl at h
  split at h <;> omega
/-- the words that a callee may take over, and those on nest mates -/
def zkGw : List Cond := lw_tbl.filter goodWord
def zkNest (w : Cond) : Bool := match w with
  | .fieldLinkNest .. => true
  | .methodLinkNest .. => true
  | .declares .. => true
  | _ => false
def zkNw : List Cond := lw_tbl.filter zkNest
theorem zkGw_in {w : Cond} (i : Nat) (h : lw_tbl[i]? = some w) (hg : goodWord w = true) : w ∈ zkGw := List.mem_filter.mpr ⟨List.mem_of_getElem? h, hg⟩
theorem zkNw_in {w : Cond} (i : Nat) (h : lw_tbl[i]? = some w) (hg : zkNest w = true) : w ∈ zkNw := List.mem_filter.mpr ⟨List.mem_of_getElem? h, hg⟩
theorem zkGw_good : GoodIn zkGw zkGw := fun w h => ⟨h, good_of_word (List.mem_filter.mp h).2⟩
end
section
/-- the texts of the exceptions; the patterns (with their numbers), their lengths and signs -/
def zkSc : List (String × Nat × String) := [(RX7, 249, "there is no such task"), (RX7, 251, "a number is out of range"), (RX7, 253, "this cannot be added now"), (RX7, 257, "the priority is taken"), (RX7, 62, "the code is not from 32 to 126"), (RX7, 73, "the buffer is full"), (RX7, 86, "the text is malformed"), (RX7, 91, "the command is refused"), (RX7, 95, "no text was malformed"), (RX7, 105, "there is no such property"), (RX7, 262, "there is no such resource"), (RX7, 275, "the task has no segments"), (RX7, 260, "there is no such time"), (RX7, 148, "the number of units is out of range"), (RX7, 153, "the clock would become too great"), (RX7, 163, "the unit has not been made"), (RX7, 181, "there is no unfinished job"), (RX7, 190, "there is no such result"), (RX7, 197, "no job is finished"), (RX7, 284, "there is no server"), (RX7, 224, "there is no such request"), (RX7, 229, "the request is not finished"), (RX7, 231, "no unit has been made"), (RX7, 244, "there is no snapshot")]
def zkPt : List (String × Nat × String × Nat) := [(RX3, 45, "task # # # #", 0), (RX3, 47, "server # # #", 1), (RX3, 49, "request # #", 2), (RX3, 51, "segment # # #", 3), (RX3, 53, "segment # none #", 4), (RX3, 55, "policy continue", 5), (RX3, 57, "policy abort", 6), (RX3, 59, "policy skip", 7), (RX3, 61, "", 8)]
def zkLn : List Nat := [12, 12, 11, 13, 16, 15, 12, 11, 0]
def zkBy : List (List Int32) := [[116, 97, 115, 107, 32, 35, 32, 35, 32, 35, 32, 35], [115, 101, 114, 118, 101, 114, 32, 35, 32, 35, 32, 35], [114, 101, 113, 117, 101, 115, 116, 32, 35, 32, 35], [115, 101, 103, 109, 101, 110, 116, 32, 35, 32, 35, 32, 35], [115, 101, 103, 109, 101, 110, 116, 32, 35, 32, 110, 111, 110, 101, 32, 35], [112, 111, 108, 105, 99, 121, 32, 99, 111, 110, 116, 105, 110, 117, 101], [112, 111, 108, 105, 99, 121, 32, 97, 98, 111, 114, 116], [112, 111, 108, 105, 99, 121, 32, 115, 107, 105, 112], []]
def zkEx : List String := ["java/lang/IndexOutOfBoundsException", "java/lang/IllegalArgumentException", "java/lang/IllegalStateException", "java/lang/UnsupportedOperationException", "java/util/NoSuchElementException", "java/lang/ArithmeticException"]
/-- no two of the six exceptions are of one another's kind -/
def zkNc (s : State) : Prop := ∀ a ∈ zkEx, ∀ b ∈ zkEx, a ≠ b → va_Nc a b s
def zkCs (s : State) : Prop := ∀ a ∈ zkEx, ∃ c t : ClassId, s.vm.findClass a = some c ∧ s.vm.findClass a = some t ∧ s.vm.assignable c t = true
theorem zkCs_use {s : State} (h : zkCs s) {a : String} (ha : a ∈ zkEx) (args : Array Value) : (Cond.castable a a).before args s = true := by
  obtain ⟨c, t, h1, h2, h3⟩ := h a ha
  cases Option.some.inj (h1.symm.trans h2)
  simp [Cond.before, Cond.holds, Cond.value, h1, h3]
theorem zkCs_go {s U : State} (hvm : s.vm.Alike U.vm) (h : zkCs s) : zkCs U := by
  intro a ha
  obtain ⟨c, t, h1, h2, h3⟩ := h a ha
  exact ⟨c, t, by rw [hvm.findClass]; exact h1, by rw [hvm.findClass]; exact h2, by rw [hvm.assignable]; exact h3⟩
/-! the judgement: a method stands at pc, with these locals, this stack, this memory, and comes to its end -/
/-- a method: name, code, locals, return type, own class, its instructions (pc, instruction, next pc), its handlers -/
abbrev zkI : Type := MethodName × ByteArray × Nat × Option FieldType × Nat × List (Nat × Instr × Nat) × List (Nat × Nat × Nat × Nat)
abbrev iY (i : zkI) : MethodName := i.1
abbrev iC (i : zkI) : ByteArray := i.2.1
abbrev iL (i : zkI) : Nat := i.2.2.1
abbrev iR (i : zkI) : Option FieldType := i.2.2.2.1
abbrev iO (i : zkI) : Nat := i.2.2.2.2.1
abbrev iT (i : zkI) : List (Nat × Instr × Nat) := i.2.2.2.2.2.1
abbrev iH (i : zkI) : List (Nat × Nat × Nat × Nat) := i.2.2.2.2.2.2
/-- its table is its code's -/
def zkOk (i : zkI) : Prop := ∀ q ∈ iT i, decode (iC i) q.1 = .ok (q.2.1, q.2.2 - q.1)
def zkAt? (i : zkI) (pc : Nat) : Option (Instr × Nat) := (iT i).lookup pc
theorem zk_lk {α : Type} {pc : Nat} {y : α} : ∀ {l : List (Nat × α)}, l.lookup pc = some y → (pc, y) ∈ l
  | [], h => by cases h
  | (a, b) :: l, h => by
    unfold List.lookup at h
    split at h
    · next e => cases h; rw [eq_of_beq e]; exact List.mem_cons_self
    · exact List.mem_cons_of_mem _ (zk_lk h)
theorem zk_dec {i : zkI} {pc nx : Nat} {ins : Instr} {n : Nat} (hO : zkOk i) (h : (iT i).lookup pc = some (ins, nx)) (hn : nx = pc + n) : decode (iC i) pc = .ok (ins, n) := by
  have h1 : decode (iC i) pc = .ok (ins, nx - pc) := hO (pc, ins, nx) (zk_lk h)
  rw [h1, hn, Nat.add_sub_cancel_left]
/-- the locals: what the list names is held -/
def zkLv (G : zkG) (a : Array Slot) (n : Nat) (ls : List (Option zkV)) : Prop := a.size = n ∧ lv_wf a ∧ ∀ (i : Nat) (v : zkV), ls[i]? = some (some v) → a[i]? = some (.val (tau G v))
/-- what holds of the start of a method besides its memory: words on nest mates, classes, the four statics of throws, strings -/
def zkStr (G : zkG) (s : State) (sz : Nat) : Prop := (∀ q ∈ zkSc, ∃ sa : Nat, vk_R q.1 q.2.1 q.2.2 sa s) ∧ (∀ q ∈ zkPt, vk_R q.1 q.2.1 q.2.2.1 (ga G (60, q.2.2.2)) s) ∧ vk_S 9 zkLn zkBy (fun k => ga G (60, k)) (fun k => ga G (61, k)) (zkA G sz) s s.heap ∧ va_Z "java/lang/String" "COMPACT_STRINGS" "Z" (.int 1) (zkA G sz) s s.heap ∧ zkNc s ∧ zkCs s
def zkSF (G : zkG) (s : State) (sz : Nat) : Prop :=
  zkJ G ∧ (∀ w ∈ zkNw, va_Nw w s) ∧ va_K (gD G) zkCl (zkTy G) s ∧ vx_Zq Bundle.tN "UNASSIGNED_STACK" Bundle.steD (zkA G sz) s s.heap ∧ vx_Zq Bundle.tN "SUPPRESSED_SENTINEL" Bundle.listD (zkA G sz) s s.heap ∧ zkStr G s sz
/-- the way of a walk: its room, its end, what else is known at its start -/
abbrev zkK : Type := Room × (List Frame → Array Value → State → State → Prop) × (Array Value → State → Prop)
def zkC (l : Launch) (G : zkG) (i : zkI) (K : zkK) (p : Program) (s : State) (m : MethodId) (args : Array Value) (meth : Method) (c : Code) : Prop :=
  p.tables.exec = Jvm.exec ∧ c.code = iC i ∧ meth.sig.returnType = iR i ∧ c.maxLocals = iL i ∧ s.vm.findClass (zkR (iO i)) = some m.cls ∧ (∀ w ∈ zkGw, w.before args s = true) ∧ zkSF G s s.heap.size ∧ meth.locks = false ∧ c.exceptionTable.toList = tableOf (iH i) ∧ l.stackTraces = false ∧ zkOk i ∧ K.2.2 args s
def zkW (l : Launch) (G : zkG) (i : zkI) (K : zkK) (cu su pc : Nat) (ls : List (Option zkV)) (st : List zkV) (mem : zkM) : Prop :=
  ∀ (p : Program) (e : Env) (s : State) (m : MethodId) (args : Array Value) (below : List Frame) (meth : Method) (c : Code), zkC l G i K p s m args meth c → ∀ (H : Heap) (locs : List Loc) (a : Array Slot), va_P (gD G) zkCl (wl G mem) H → va_S (zkA G s.heap.size) s.heap H locs → zkLv G a (iL i) ls →
    W p l e K.1 s m args below meth c H locs cu su (K.2.1 below args s) (F0 m pc a (st.map (tau G)))
theorem zkC_dec {l : Launch} {G : zkG} {i : zkI} {K : zkK} {p : Program} {s : State} {m : MethodId} {args : Array Value} {meth : Method} {c : Code} (C : zkC l G i K p s m args meth c) {pc nx n : Nat} {ins : Instr} (h : (iT i).lookup pc = some (ins, nx)) (hn : nx = pc + n) : decode (iC i) pc = .ok (ins, n) := zk_dec C.2.2.2.2.2.2.2.2.2.2.1 h hn
/-- a value in range -/
abbrev inR (x : Int) : Prop := -2147483648 ≤ x ∧ x < 2147483648
theorem i32_toInt {x : Int} (h : inR x) : (Int32.ofInt x).toInt = x := Int32.toInt_ofInt_of_le h.1 h.2
theorem i32_lt {x y : Int} (hx : inR x) (hy : inR y) : Int32.ofInt x < Int32.ofInt y ↔ x < y := by
  rw [Int32.lt_iff_toInt_lt, i32_toInt hx, i32_toInt hy]
theorem i32_le {x y : Int} (hx : inR x) (hy : inR y) : Int32.ofInt x ≤ Int32.ofInt y ↔ x ≤ y := by
  rw [Int32.le_iff_toInt_le, i32_toInt hx, i32_toInt hy]
theorem i32_eq {x y : Int} (hx : inR x) (hy : inR y) : Int32.ofInt x = Int32.ofInt y ↔ x = y := by
  rw [← Int32.toInt_inj, i32_toInt hx, i32_toInt hy]
theorem i32_0 : (0 : Int32) = Int32.ofInt 0 := by decide
theorem inR_0 : inR 0 := ⟨by decide, by decide⟩
end
section
/-! rows of one instruction over the judgement -/
section ZROWS
variable {l : Launch} {G : zkG} {i : zkI} {K : zkK} {cu su pc nx : Nat} {ls : List (Option zkV)} {st : List zkV} {mem : zkM}
theorem m_iconst {n : Int} (hd : (iT i).lookup pc = some (.iconst n, nx)) (hn : nx = pc + 1) (k : zkW l G i K cu su nx ls (vi n :: st) mem) : zkW l G i K cu su pc ls (st) mem := by
  intro p e s m args below meth c C H locs a hP hS hl
  subst hn
  exact lv_iconst C.1 C.2.1 (zkC_dec C hd rfl) rfl (k p e s m args below meth c C H locs a hP hS hl)
theorem m_bipush {n : Int} (hd : (iT i).lookup pc = some (.bipush n, nx)) (hn : nx = pc + 2) (hv : (Int8.ofInt n).toInt32 = Int32.ofInt n) (k : zkW l G i K cu su nx ls (vi n :: st) mem) : zkW l G i K cu su pc ls (st) mem := by
  intro p e s m args below meth c C H locs a hP hS hl
  subst hn
  exact lv_bipush C.1 C.2.1 (zkC_dec C hd rfl) hv (k p e s m args below meth c C H locs a hP hS hl)
theorem m_sipush {n : Int} (hd : (iT i).lookup pc = some (.sipush n, nx)) (hn : nx = pc + 3) (hv : (Int16.ofInt n).toInt32 = Int32.ofInt n) (k : zkW l G i K cu su nx ls (vi n :: st) mem) : zkW l G i K cu su pc ls (st) mem := by
  intro p e s m args below meth c C H locs a hP hS hl
  subst hn
  exact lv_sipush C.1 C.2.1 (zkC_dec C hd rfl) hv (k p e s m args below meth c C H locs a hP hS hl)
theorem m_lconst {n : Fin 2} {x : Int} (hd : (iT i).lookup pc = some (.lconst n, nx)) (hn : nx = pc + 1) (hv : Int64.ofNat (n : Nat) = Int64.ofInt x) (k : zkW l G i K cu su nx ls (vl x :: st) mem) : zkW l G i K cu su pc ls (st) mem := by
  intro p e s m args below meth c C H locs a hP hS hl
  subst hn
  exact lv_lconst C.1 C.2.1 (zkC_dec C hd rfl) hv (k p e s m args below meth c C H locs a hP hS hl)
theorem m_dconst0 (hd : (iT i).lookup pc = some (.dconst 0, nx)) (hn : nx = pc + 1) (k : zkW l G i K cu su nx ls (vd FP.dconst0 :: st) mem) : zkW l G i K cu su pc ls (st) mem := by
  intro p e s m args below meth c C H locs a hP hS hl
  subst hn
  exact lv_dconst0 C.1 C.2.1 (zkC_dec C hd rfl) (k p e s m args below meth c C H locs a hP hS hl)
theorem m_dconst1 (hd : (iT i).lookup pc = some (.dconst 1, nx)) (hn : nx = pc + 1) (k : zkW l G i K cu su nx ls (vd FP.dconst1 :: st) mem) : zkW l G i K cu su pc ls (st) mem := by
  intro p e s m args below meth c C H locs a hP hS hl
  subst hn
  exact lv_dconst1 C.1 C.2.1 (zkC_dec C hd rfl) (k p e s m args below meth c C H locs a hP hS hl)
theorem m_fconst0 (hd : (iT i).lookup pc = some (.fconst 0, nx)) (hn : nx = pc + 1) (k : zkW l G i K cu su nx ls (vf FP.fconst0 :: st) mem) : zkW l G i K cu su pc ls (st) mem := by
  intro p e s m args below meth c C H locs a hP hS hl
  subst hn
  exact lv_fconst0 C.1 C.2.1 (zkC_dec C hd rfl) (k p e s m args below meth c C H locs a hP hS hl)
theorem m_iload {n : Nat} {x : Int} (hd : (iT i).lookup pc = some (.iload n, nx)) (hn : nx = pc + 2) (hv : ls[n]? = some (some (vi x))) (k : zkW l G i K cu su nx ls (vi x :: st) mem) : zkW l G i K cu su pc ls (st) mem := by
  intro p e s m args below meth c C H locs a hP hS hl
  subst hn
  exact lv_iload C.1 C.2.1 (zkC_dec C hd rfl) (hl.2.2 n _ hv) (k p e s m args below meth c C H locs a hP hS hl)
theorem m_iload_n {n : Fin 4} {x : Int} (hd : (iT i).lookup pc = some (.iload_n n, nx)) (hn : nx = pc + 1) (hv : ls[(n : Nat)]? = some (some (vi x))) (k : zkW l G i K cu su nx ls (vi x :: st) mem) : zkW l G i K cu su pc ls (st) mem := by
  intro p e s m args below meth c C H locs a hP hS hl
  subst hn
  exact lv_iload_n C.1 C.2.1 (zkC_dec C hd rfl) rfl (hl.2.2 n _ hv) (k p e s m args below meth c C H locs a hP hS hl)
theorem m_aload {n : Nat} {t j : Nat} (hd : (iT i).lookup pc = some (.aload n, nx)) (hn : nx = pc + 2) (hv : ls[n]? = some (some (vr t j))) (k : zkW l G i K cu su nx ls (vr t j :: st) mem) : zkW l G i K cu su pc ls (st) mem := by
  intro p e s m args below meth c C H locs a hP hS hl
  subst hn
  exact lv_aload C.1 C.2.1 (zkC_dec C hd rfl) (hl.2.2 n _ hv) (k p e s m args below meth c C H locs a hP hS hl)
theorem m_aload_n {n : Fin 4} {t j : Nat} (hd : (iT i).lookup pc = some (.aload_n n, nx)) (hn : nx = pc + 1) (hv : ls[(n : Nat)]? = some (some (vr t j))) (k : zkW l G i K cu su nx ls (vr t j :: st) mem) : zkW l G i K cu su pc ls (st) mem := by
  intro p e s m args below meth c C H locs a hP hS hl
  subst hn
  exact lv_aload_n C.1 C.2.1 (zkC_dec C hd rfl) rfl (hl.2.2 n _ hv) (k p e s m args below meth c C H locs a hP hS hl)
theorem m_dload {n : Nat} {x : UInt64} (hd : (iT i).lookup pc = some (.dload n, nx)) (hn : nx = pc + 2) (hv : ls[n]? = some (some (vd x))) (k : zkW l G i K cu su nx ls (vd x :: st) mem) : zkW l G i K cu su pc ls (st) mem := by
  intro p e s m args below meth c C H locs a hP hS hl
  subst hn
  exact lv_dload C.1 C.2.1 (zkC_dec C hd rfl) (hl.2.2 n _ hv) (k p e s m args below meth c C H locs a hP hS hl)
theorem m_dload_n {n : Fin 4} {x : UInt64} (hd : (iT i).lookup pc = some (.dload_n n, nx)) (hn : nx = pc + 1) (hv : ls[(n : Nat)]? = some (some (vd x))) (k : zkW l G i K cu su nx ls (vd x :: st) mem) : zkW l G i K cu su pc ls (st) mem := by
  intro p e s m args below meth c C H locs a hP hS hl
  subst hn
  exact lv_dload_n C.1 C.2.1 (zkC_dec C hd rfl) rfl (hl.2.2 n _ hv) (k p e s m args below meth c C H locs a hP hS hl)
theorem m_fload {n : Nat} {x : UInt32} (hd : (iT i).lookup pc = some (.fload n, nx)) (hn : nx = pc + 2) (hv : ls[n]? = some (some (vf x))) (k : zkW l G i K cu su nx ls (vf x :: st) mem) : zkW l G i K cu su pc ls (st) mem := by
  intro p e s m args below meth c C H locs a hP hS hl
  subst hn
  exact lv_fload C.1 C.2.1 (zkC_dec C hd rfl) (hl.2.2 n _ hv) (k p e s m args below meth c C H locs a hP hS hl)
theorem m_fload_n {n : Fin 4} {x : UInt32} (hd : (iT i).lookup pc = some (.fload_n n, nx)) (hn : nx = pc + 1) (hv : ls[(n : Nat)]? = some (some (vf x))) (k : zkW l G i K cu su nx ls (vf x :: st) mem) : zkW l G i K cu su pc ls (st) mem := by
  intro p e s m args below meth c C H locs a hP hS hl
  subst hn
  exact lv_fload_n C.1 C.2.1 (zkC_dec C hd rfl) rfl (hl.2.2 n _ hv) (k p e s m args below meth c C H locs a hP hS hl)
theorem m_aload_v {n : Nat} {q : Nat} (hd : (iT i).lookup pc = some (.aload n, nx)) (hn : nx = pc + 2) (hv : ls[n]? = some (some (vv (.ref q)))) (k : zkW l G i K cu su nx ls (vv (.ref q) :: st) mem) : zkW l G i K cu su pc ls (st) mem := by
  intro p e s m args below meth c C H locs a hP hS hl
  subst hn
  exact lv_aload C.1 C.2.1 (zkC_dec C hd rfl) (hl.2.2 n _ hv) (k p e s m args below meth c C H locs a hP hS hl)
theorem m_aload_nv {n : Fin 4} {q : Nat} (hd : (iT i).lookup pc = some (.aload_n n, nx)) (hn : nx = pc + 1) (hv : ls[(n : Nat)]? = some (some (vv (.ref q)))) (k : zkW l G i K cu su nx ls (vv (.ref q) :: st) mem) : zkW l G i K cu su pc ls (st) mem := by
  intro p e s m args below meth c C H locs a hP hS hl
  subst hn
  exact lv_aload_n C.1 C.2.1 (zkC_dec C hd rfl) rfl (hl.2.2 n _ hv) (k p e s m args below meth c C H locs a hP hS hl)
/-- no long or double stands ahead of the place -/
def zkSt (ls : List (Option zkV)) (n : Nat) : Bool := match n with
  | 0 => true
  | j + 1 => match ls[j]? with
    | some (some v) => catV v == 1
    | _ => true
def zkAs (G : zkG) (ls : List (Option zkV)) : List (Nat × Value) := (List.range ls.length).filterMap (fun j => (ls[j]?.join).map (fun v => (j, tau G v)))
theorem zkAs_mem {G : zkG} {ls : List (Option zkV)} {j : Nat} {v : zkV} (h : ls[j]? = some (some v)) : (j, tau G v) ∈ zkAs G ls := by
  unfold zkAs
  refine List.mem_filterMap.mpr ⟨j, List.mem_range.mpr (List.getElem?_eq_some_iff.mp h).1, ?_⟩
  rw [h]
  rfl
theorem zkAs_has {G : zkG} {a : Array Slot} {n : Nat} {ls : List (Option zkV)} (h : zkLv G a n ls) : lv_has a n (zkAs G ls) := by
  refine ⟨h.1, h.2.1, fun q hq => ?_⟩
  obtain ⟨j, -, hj⟩ := List.mem_filterMap.mp hq
  cases hv : ls[j]? with
  | none => rw [hv] at hj; cases hj
  | some o =>
    cases o with
    | none => rw [hv] at hj; cases hj
    | some v =>
      rw [hv] at hj
      cases hj
      exact h.2.2 j v hv
theorem zkLv_st1 {G : zkG} {a a' : Array Slot} {n j : Nat} {ls : List (Option zkV)} {v : zkV} (h : zkLv G a n ls) (hj : j < n) (ho : zkSt ls j = true) (h' : lv_has a' n ((j, tau G v) :: (zkAs G ls).filter (fun q => !(q.1 == j) && !(q.1 + 1 == j && q.2.category == 2)))) : zkLv G a' n (ls.set j (some v)) := by
  refine ⟨h'.1, h'.2.1, fun x w hx => ?_⟩
  rw [List.getElem?_set] at hx
  by_cases e : j = x
  · subst e
    rw [if_pos rfl] at hx
    split at hx
    · cases hx
      exact h'.2.2 (j, tau G v) List.mem_cons_self
    · cases hx
  · rw [if_neg e] at hx
    refine h'.2.2 (x, tau G w) (List.mem_cons_of_mem _ (List.mem_filter.mpr ⟨zkAs_mem hx, ?_⟩))
    have h1 : (x == j) = false := beq_eq_false_iff_ne.mpr (fun q => e q.symm)
    simp only [h1, Bool.not_false, Bool.true_and, Bool.not_eq_true', Bool.and_eq_false_iff, catV_eq]
    by_cases e2 : x + 1 = j
    · refine Or.inr ?_
      subst e2
      unfold zkSt at ho
      simp only [hx] at ho
      rw [eq_of_beq ho]
      rfl
    · exact Or.inl (beq_eq_false_iff_ne.mpr e2)
theorem zkLv_st2 {G : zkG} {a a' : Array Slot} {n j : Nat} {ls : List (Option zkV)} {v : zkV} (h : zkLv G a n ls) (hj : j + 1 < n) (ho : zkSt ls j = true) (h' : lv_has a' n ((j, tau G v) :: (zkAs G ls).filter (fun q => !(q.1 == j) && (!(q.1 == j + 1) && !(q.1 + 1 == j && q.2.category == 2))))) : zkLv G a' n ((ls.set j (some v)).set (j + 1) none) := by
  refine ⟨h'.1, h'.2.1, fun x w hx => ?_⟩
  rw [List.getElem?_set] at hx
  by_cases e0 : j + 1 = x
  · rw [if_pos e0] at hx
    split at hx <;> cases hx
  · rw [if_neg e0, List.getElem?_set] at hx
    by_cases e : j = x
    · subst e
      rw [if_pos rfl] at hx
      split at hx
      · cases hx
        exact h'.2.2 (j, tau G v) List.mem_cons_self
      · cases hx
    · rw [if_neg e] at hx
      refine h'.2.2 (x, tau G w) (List.mem_cons_of_mem _ (List.mem_filter.mpr ⟨zkAs_mem hx, ?_⟩))
      have h1 : (x == j) = false := beq_eq_false_iff_ne.mpr (fun q => e q.symm)
      have h2 : (x == j + 1) = false := beq_eq_false_iff_ne.mpr (fun q => e0 q.symm)
      simp only [h1, h2, Bool.not_false, Bool.true_and, Bool.not_eq_true', Bool.and_eq_false_iff, catV_eq]
      by_cases e2 : x + 1 = j
      · refine Or.inr ?_
        subst e2
        unfold zkSt at ho
        simp only [hx] at ho
        rw [eq_of_beq ho]
        rfl
      · exact Or.inl (beq_eq_false_iff_ne.mpr e2)
theorem m_istore {n : Nat} {x : Int} (hd : (iT i).lookup pc = some (.istore n, nx)) (hn : nx = pc + 2) (hi : n < iL i) (ho : zkSt ls n = true) (k : zkW l G i K cu su nx (ls.set n (some (vi x))) st mem) : zkW l G i K cu su pc ls (vi x :: st) mem := by
  intro p e s m args below meth c C H locs a hP hS hl
  subst hn
  exact lv_istore C.1 C.2.1 (zkC_dec C hd rfl) (zkAs_has hl) hi rfl (fun a' h' => k p e s m args below meth c C H locs a' hP hS (zkLv_st1 hl hi ho h'))
theorem m_istore_n {n : Fin 4} {x : Int} (hd : (iT i).lookup pc = some (.istore_n n, nx)) (hn : nx = pc + 1) (hi : (n : Nat) < iL i) (ho : zkSt ls (n : Nat) = true) (k : zkW l G i K cu su nx (ls.set (n : Nat) (some (vi x))) st mem) : zkW l G i K cu su pc ls (vi x :: st) mem := by
  intro p e s m args below meth c C H locs a hP hS hl
  subst hn
  exact lv_istore_n C.1 C.2.1 (zkC_dec C hd rfl) rfl (zkAs_has hl) hi rfl (fun a' h' => k p e s m args below meth c C H locs a' hP hS (zkLv_st1 hl hi ho h'))
theorem m_astore {n : Nat} {t j : Nat} (hd : (iT i).lookup pc = some (.astore n, nx)) (hn : nx = pc + 2) (hi : n < iL i) (ho : zkSt ls n = true) (k : zkW l G i K cu su nx (ls.set n (some (vr t j))) st mem) : zkW l G i K cu su pc ls (vr t j :: st) mem := by
  intro p e s m args below meth c C H locs a hP hS hl
  subst hn
  exact lv_astore C.1 C.2.1 (zkC_dec C hd rfl) (zkAs_has hl) hi rfl (fun a' h' => k p e s m args below meth c C H locs a' hP hS (zkLv_st1 hl hi ho h'))
theorem m_astore_n {n : Fin 4} {t j : Nat} (hd : (iT i).lookup pc = some (.astore_n n, nx)) (hn : nx = pc + 1) (hi : (n : Nat) < iL i) (ho : zkSt ls (n : Nat) = true) (k : zkW l G i K cu su nx (ls.set (n : Nat) (some (vr t j))) st mem) : zkW l G i K cu su pc ls (vr t j :: st) mem := by
  intro p e s m args below meth c C H locs a hP hS hl
  subst hn
  exact lv_astore_n C.1 C.2.1 (zkC_dec C hd rfl) rfl (zkAs_has hl) hi rfl (fun a' h' => k p e s m args below meth c C H locs a' hP hS (zkLv_st1 hl hi ho h'))
theorem m_dstore {n : Nat} {x : UInt64} (hd : (iT i).lookup pc = some (.dstore n, nx)) (hn : nx = pc + 2) (hi : n + 1 < iL i) (ho : zkSt ls n = true) (k : zkW l G i K cu su nx ((ls.set n (some (vd x))).set (n + 1) none) st mem) : zkW l G i K cu su pc ls (vd x :: st) mem := by
  intro p e s m args below meth c C H locs a hP hS hl
  subst hn
  exact lv_dstore C.1 C.2.1 (zkC_dec C hd rfl) (zkAs_has hl) hi rfl (fun a' h' => k p e s m args below meth c C H locs a' hP hS (zkLv_st2 hl hi ho h'))
theorem m_dstore_n {n : Fin 4} {x : UInt64} (hd : (iT i).lookup pc = some (.dstore_n n, nx)) (hn : nx = pc + 1) (hi : (n : Nat) + 1 < iL i) (ho : zkSt ls (n : Nat) = true) (k : zkW l G i K cu su nx ((ls.set (n : Nat) (some (vd x))).set ((n : Nat) + 1) none) st mem) : zkW l G i K cu su pc ls (vd x :: st) mem := by
  intro p e s m args below meth c C H locs a hP hS hl
  subst hn
  exact lv_dstore_n C.1 C.2.1 (zkC_dec C hd rfl) rfl (zkAs_has hl) hi rfl (fun a' h' => k p e s m args below meth c C H locs a' hP hS (zkLv_st2 hl hi ho h'))
theorem m_fstore {n : Nat} {x : UInt32} (hd : (iT i).lookup pc = some (.fstore n, nx)) (hn : nx = pc + 2) (hi : n < iL i) (ho : zkSt ls n = true) (k : zkW l G i K cu su nx (ls.set n (some (vf x))) st mem) : zkW l G i K cu su pc ls (vf x :: st) mem := by
  intro p e s m args below meth c C H locs a hP hS hl
  subst hn
  exact lv_fstore C.1 C.2.1 (zkC_dec C hd rfl) (zkAs_has hl) hi rfl (fun a' h' => k p e s m args below meth c C H locs a' hP hS (zkLv_st1 hl hi ho h'))
theorem m_fstore_n {n : Fin 4} {x : UInt32} (hd : (iT i).lookup pc = some (.fstore_n n, nx)) (hn : nx = pc + 1) (hi : (n : Nat) < iL i) (ho : zkSt ls (n : Nat) = true) (k : zkW l G i K cu su nx (ls.set (n : Nat) (some (vf x))) st mem) : zkW l G i K cu su pc ls (vf x :: st) mem := by
  intro p e s m args below meth c C H locs a hP hS hl
  subst hn
  exact lv_fstore_n C.1 C.2.1 (zkC_dec C hd rfl) rfl (zkAs_has hl) hi rfl (fun a' h' => k p e s m args below meth c C H locs a' hP hS (zkLv_st1 hl hi ho h'))
theorem m_astore_v {n : Nat} {q : Nat} (hd : (iT i).lookup pc = some (.astore n, nx)) (hn : nx = pc + 2) (hi : n < iL i) (ho : zkSt ls n = true) (k : zkW l G i K cu su nx (ls.set n (some (vv (.ref q)))) st mem) : zkW l G i K cu su pc ls (vv (.ref q) :: st) mem := by
  intro p e s m args below meth c C H locs a hP hS hl
  subst hn
  exact lv_astore C.1 C.2.1 (zkC_dec C hd rfl) (zkAs_has hl) hi rfl (fun a' h' => k p e s m args below meth c C H locs a' hP hS (zkLv_st1 hl hi ho h'))
theorem m_astore_nv {n : Fin 4} {q : Nat} (hd : (iT i).lookup pc = some (.astore_n n, nx)) (hn : nx = pc + 1) (hi : (n : Nat) < iL i) (ho : zkSt ls (n : Nat) = true) (k : zkW l G i K cu su nx (ls.set (n : Nat) (some (vv (.ref q)))) st mem) : zkW l G i K cu su pc ls (vv (.ref q) :: st) mem := by
  intro p e s m args below meth c C H locs a hP hS hl
  subst hn
  exact lv_astore_n C.1 C.2.1 (zkC_dec C hd rfl) rfl (zkAs_has hl) hi rfl (fun a' h' => k p e s m args below meth c C H locs a' hP hS (zkLv_st1 hl hi ho h'))
theorem m_iinc {n : Nat} {x y : Int} (hd : (iT i).lookup pc = some (.iinc n y, nx)) (hn : nx = pc + 3) (hv : ls[n]? = some (some (vi x))) (hi : n < iL i) (ho : zkSt ls n = true) (k : zkW l G i K cu su nx (ls.set n (some (vi (x + y)))) st mem) : zkW l G i K cu su pc ls st mem := by
  intro p e s m args below meth c C H locs a hP hS hl
  subst hn
  obtain ⟨j, hj⟩ := List.getElem?_of_mem (zkAs_mem (G := G) hv)
  exact lv_iinc C.1 C.2.1 (zkC_dec C hd rfl) (zkAs_has hl) hj (Int32.ofInt_add x y).symm hi rfl (fun a' h' => k p e s m args below meth c C H locs a' hP hS (zkLv_st1 (v := vi (x + y)) hl hi ho h'))
theorem m_iadd {x y : Int} (hd : (iT i).lookup pc = some (.iadd, nx)) (hn : nx = pc + 1) (k : zkW l G i K cu su nx ls (vi (x + y) :: st) mem) : zkW l G i K cu su pc ls (vi y :: vi x :: st) mem := by
  intro p e s m args below meth c C H locs a hP hS hl
  subst hn
  have hq := k p e s m args below meth c C H locs a hP hS hl
  have e1 : tau G (vi (x + y)) = .int (Int32.ofInt x + Int32.ofInt y) := congrArg Value.int (Int32.ofInt_add x y)
  rw [List.map_cons, e1] at hq
  exact lv_iadd C.1 C.2.1 (zkC_dec C hd rfl) hq
theorem m_isub {x y : Int} (hd : (iT i).lookup pc = some (.isub, nx)) (hn : nx = pc + 1) (k : zkW l G i K cu su nx ls (vi (x - y) :: st) mem) : zkW l G i K cu su pc ls (vi y :: vi x :: st) mem := by
  intro p e s m args below meth c C H locs a hP hS hl
  subst hn
  have hq := k p e s m args below meth c C H locs a hP hS hl
  have e1 : tau G (vi (x - y)) = .int (Int32.ofInt x - Int32.ofInt y) := congrArg Value.int (Int32.ofInt_sub x y)
  rw [List.map_cons, e1] at hq
  exact lv_isub C.1 C.2.1 (zkC_dec C hd rfl) hq
theorem m_imul {x y : Int} (hd : (iT i).lookup pc = some (.imul, nx)) (hn : nx = pc + 1) (k : zkW l G i K cu su nx ls (vi (x * y) :: st) mem) : zkW l G i K cu su pc ls (vi y :: vi x :: st) mem := by
  intro p e s m args below meth c C H locs a hP hS hl
  subst hn
  have hq := k p e s m args below meth c C H locs a hP hS hl
  have e1 : tau G (vi (x * y)) = .int (Int32.ofInt x * Int32.ofInt y) := congrArg Value.int (Int32.ofInt_mul x y)
  rw [List.map_cons, e1] at hq
  exact lv_imul C.1 C.2.1 (zkC_dec C hd rfl) hq
theorem i32_div {x y : Int} (hx : inR x) (hy : inR y) (h0 : 0 ≤ x) (h1 : 0 < y) : Int32.ofInt x / Int32.ofInt y = Int32.ofInt (x / y) := by
  apply Int32.toInt_inj.mp
  have hy0 : Int32.ofInt y ≠ -1 := fun h => by
    have := congrArg Int32.toInt h
    rw [i32_toInt hy, show (-1 : Int32).toInt = -1 from by decide] at this
    omega
  rw [Int32.toInt_div_of_ne_right _ _ hy0, i32_toInt hx, i32_toInt hy, Int.tdiv_eq_ediv_of_nonneg h0, i32_toInt]
  have h2 : 0 ≤ x / y := Int.ediv_nonneg h0 (by omega)
  have h3 : x / y ≤ x := Int.ediv_le_self y h0
  unfold inR at *
  omega
theorem i32_ne0 {y : Int} (hy : inR y) (h1 : y ≠ 0) : ¬ Int32.ofInt y = 0 := fun h => by
  have := congrArg Int32.toInt h
  rw [i32_toInt hy, Int32.toInt_zero] at this
  exact h1 this
theorem m_idiv {x y : Int} (hd : (iT i).lookup pc = some (.idiv, nx)) (hn : nx = pc + 1) (hx : inR x) (hy : inR y) (h0 : 0 ≤ x) (h1 : 0 < y) (k : zkW l G i K cu su nx ls (vi (x / y) :: st) mem) : zkW l G i K cu su pc ls (vi y :: vi x :: st) mem := by
  intro p e s m args below meth c C H locs a hP hS hl
  subst hn
  have hq := k p e s m args below meth c C H locs a hP hS hl
  have e1 : tau G (vi (x / y)) = .int (Int32.ofInt x / Int32.ofInt y) := congrArg Value.int (i32_div hx hy h0 h1).symm
  rw [List.map_cons, e1] at hq
  exact lv_idiv C.1 C.2.1 (zkC_dec C hd rfl) (i32_ne0 hy (by omega)) hq
theorem m_irem {x y : Int} (hd : (iT i).lookup pc = some (.irem, nx)) (hn : nx = pc + 1) (hx : inR x) (hy : inR y) (h0 : 0 ≤ x) (h1 : 0 < y) (k : zkW l G i K cu su nx ls (vi (x % y) :: st) mem) : zkW l G i K cu su pc ls (vi y :: vi x :: st) mem := by
  intro p e s m args below meth c C H locs a hP hS hl
  subst hn
  have hq := k p e s m args below meth c C H locs a hP hS hl
  have e1 : tau G (vi (x % y)) = .int (Int32.ofInt x - Int32.ofInt x / Int32.ofInt y * Int32.ofInt y) := congrArg Value.int (by
    rw [i32_div hx hy h0 h1, ← Int32.ofInt_mul, ← Int32.ofInt_sub, Int.emod_def, Int.mul_comm])
  rw [List.map_cons, e1] at hq
  exact lv_irem C.1 C.2.1 (zkC_dec C hd rfl) (i32_ne0 hy (by omega)) hq
theorem m_i2l {x : Int} (hd : (iT i).lookup pc = some (.i2l, nx)) (hn : nx = pc + 1) (hx : inR x) (k : zkW l G i K cu su nx ls (vl x :: st) mem) : zkW l G i K cu su pc ls (vi x :: st) mem := by
  intro p e s m args below meth c C H locs a hP hS hl
  subst hn
  refine lv_i2l (v := Int64.ofInt x) C.1 C.2.1 (zkC_dec C hd rfl) ?_ (k p e s m args below meth c C H locs a hP hS hl)
  apply Int64.toInt_inj.mp
  unfold inR at hx
  rw [Int32.toInt_toInt64, i32_toInt hx, Int64.toInt_ofInt_of_le (by omega) (by omega)]
theorem m_i2d {x : Int} (hd : (iT i).lookup pc = some (.i2d, nx)) (hn : nx = pc + 1) (k : zkW l G i K cu su nx ls (vd (FP.i2d (Int32.ofInt x)) :: st) mem) : zkW l G i K cu su pc ls (vi x :: st) mem := by
  intro p e s m args below meth c C H locs a hP hS hl
  subst hn
  exact lv_i2d C.1 C.2.1 (zkC_dec C hd rfl) (k p e s m args below meth c C H locs a hP hS hl)
theorem m_i2f {x : Int} (hd : (iT i).lookup pc = some (.i2f, nx)) (hn : nx = pc + 1) (k : zkW l G i K cu su nx ls (vf (FP.i2f (Int32.ofInt x)) :: st) mem) : zkW l G i K cu su pc ls (vi x :: st) mem := by
  intro p e s m args below meth c C H locs a hP hS hl
  subst hn
  exact lv_i2f C.1 C.2.1 (zkC_dec C hd rfl) (k p e s m args below meth c C H locs a hP hS hl)
theorem m_dadd {x y : UInt64} (hd : (iT i).lookup pc = some (.dadd, nx)) (hn : nx = pc + 1) (hx : vf_n64 (FP.dadd x y)) (k : zkW l G i K cu su nx ls (vd (FP.dadd x y) :: st) mem) : zkW l G i K cu su pc ls (vd y :: vd x :: st) mem := by
  intro p e s m args below meth c C H locs a hP hS hl
  subst hn
  exact lv_dadd C.1 C.2.1 (zkC_dec C hd rfl) hx (k p e s m args below meth c C H locs a hP hS hl)
theorem m_dmul {x y : UInt64} (hd : (iT i).lookup pc = some (.dmul, nx)) (hn : nx = pc + 1) (hx : vf_n64 (FP.dmul x y)) (k : zkW l G i K cu su nx ls (vd (FP.dmul x y) :: st) mem) : zkW l G i K cu su pc ls (vd y :: vd x :: st) mem := by
  intro p e s m args below meth c C H locs a hP hS hl
  subst hn
  exact lv_dmul C.1 C.2.1 (zkC_dec C hd rfl) hx (k p e s m args below meth c C H locs a hP hS hl)
theorem m_ddiv {x y : UInt64} (hd : (iT i).lookup pc = some (.ddiv, nx)) (hn : nx = pc + 1) (hx : vf_n64 (FP.ddiv x y)) (k : zkW l G i K cu su nx ls (vd (FP.ddiv x y) :: st) mem) : zkW l G i K cu su pc ls (vd y :: vd x :: st) mem := by
  intro p e s m args below meth c C H locs a hP hS hl
  subst hn
  exact lv_ddiv C.1 C.2.1 (zkC_dec C hd rfl) hx (k p e s m args below meth c C H locs a hP hS hl)
theorem m_fdiv {x y : UInt32} (hd : (iT i).lookup pc = some (.fdiv, nx)) (hn : nx = pc + 1) (hx : vf_n32 (FP.fdiv x y)) (k : zkW l G i K cu su nx ls (vf (FP.fdiv x y) :: st) mem) : zkW l G i K cu su pc ls (vf y :: vf x :: st) mem := by
  intro p e s m args below meth c C H locs a hP hS hl
  subst hn
  exact lv_fdiv C.1 C.2.1 (zkC_dec C hd rfl) hx (k p e s m args below meth c C H locs a hP hS hl)
theorem m_f2d {x : UInt32} (hd : (iT i).lookup pc = some (.f2d, nx)) (hn : nx = pc + 1) (hx : vf_n64 (FP.f2d x)) (k : zkW l G i K cu su nx ls (vd (FP.f2d x) :: st) mem) : zkW l G i K cu su pc ls (vf x :: st) mem := by
  intro p e s m args below meth c C H locs a hP hS hl
  subst hn
  exact lv_f2d C.1 C.2.1 (zkC_dec C hd rfl) hx (k p e s m args below meth c C H locs a hP hS hl)
theorem m_dup {v : zkV} (hd : (iT i).lookup pc = some (.dup, nx)) (hn : nx = pc + 1) (hc : catV v = 1) (k : zkW l G i K cu su nx ls (v :: v :: st) mem) : zkW l G i K cu su pc ls (v :: st) mem := by
  intro p e s m args below meth c C H locs a hP hS hl
  subst hn
  exact lv_dup C.1 C.2.1 (zkC_dec C hd rfl) ((catV_eq G v).trans hc) (k p e s m args below meth c C H locs a hP hS hl)
theorem m_dup2 {v w : zkV} (hd : (iT i).lookup pc = some (.dup2, nx)) (hn : nx = pc + 1) (hc : catV v = 1) (hc2 : catV w = 1) (k : zkW l G i K cu su nx ls (v :: w :: v :: w :: st) mem) : zkW l G i K cu su pc ls (v :: w :: st) mem := by
  intro p e s m args below meth c C H locs a hP hS hl
  subst hn
  exact lv_dup2_11 C.1 C.2.1 (zkC_dec C hd rfl) ((catV_eq G v).trans hc) ((catV_eq G w).trans hc2) (k p e s m args below meth c C H locs a hP hS hl)
theorem m_pop {v : zkV} (hd : (iT i).lookup pc = some (.pop, nx)) (hn : nx = pc + 1) (hc : catV v = 1) (k : zkW l G i K cu su nx ls (st) mem) : zkW l G i K cu su pc ls (v :: st) mem := by
  intro p e s m args below meth c C H locs a hP hS hl
  subst hn
  exact lv_pop C.1 C.2.1 (zkC_dec C hd rfl) ((catV_eq G v).trans hc) (k p e s m args below meth c C H locs a hP hS hl)
theorem m_goto {off : Int} {tgt : Nat} (hd : (iT i).lookup pc = some (.goto off, nx)) (hn : nx = pc + 3) (ht : (pc : Int) + off = (tgt : Int)) (k : zkW l G i K cu su tgt ls st mem) : zkW l G i K cu su pc ls st mem := by
  intro p e s m args below meth c C H locs a hP hS hl
  subst hn
  exact lv_goto C.1 C.2.1 (zkC_dec C hd rfl) ht (k p e s m args below meth c C H locs a hP hS hl)
theorem m_icmp_ne {x y : Int} {off : Int} {tgt : Nat} (hd : (iT i).lookup pc = some (.if_icmp .ne off, nx)) (hn : nx = pc + 3) (ht : (pc : Int) + off = (tgt : Int)) (hx : inR x) (hy : inR y) (kt : x ≠ y → zkW l G i K cu su tgt ls st mem) (kf : x = y → zkW l G i K cu su nx ls st mem) : zkW l G i K cu su pc ls (vi y :: vi x :: st) mem := by
  intro p e s m args below meth c C H locs a hP hS hl
  subst hn
  exact lv_icmp_ne C.1 C.2.1 (zkC_dec C hd rfl) ht (fun h => kt (fun q => h (by rw [q])) p e s m args below meth c C H locs a hP hS hl) (fun h => kf ((i32_eq hx hy).mp h) p e s m args below meth c C H locs a hP hS hl)
theorem m_if_ne {x : Int} {off : Int} {tgt : Nat} (hd : (iT i).lookup pc = some (.ifCond .ne off, nx)) (hn : nx = pc + 3) (ht : (pc : Int) + off = (tgt : Int)) (hx : inR x) (kt : x ≠ 0 → zkW l G i K cu su tgt ls st mem) (kf : x = 0 → zkW l G i K cu su nx ls st mem) : zkW l G i K cu su pc ls (vi x :: st) mem := by
  intro p e s m args below meth c C H locs a hP hS hl
  subst hn
  exact lv_if_ne C.1 C.2.1 (zkC_dec C hd rfl) ht (fun h => kt (fun q => h (by rw [q, i32_0])) p e s m args below meth c C H locs a hP hS hl) (fun h => kf ((i32_eq hx inR_0).mp (by rw [← i32_0]; exact h)) p e s m args below meth c C H locs a hP hS hl)
theorem m_icmp_lt {x y : Int} {off : Int} {tgt : Nat} (hd : (iT i).lookup pc = some (.if_icmp .lt off, nx)) (hn : nx = pc + 3) (ht : (pc : Int) + off = (tgt : Int)) (hx : inR x) (hy : inR y) (kt : x < y → zkW l G i K cu su tgt ls st mem) (kf : ¬ (x < y) → zkW l G i K cu su nx ls st mem) : zkW l G i K cu su pc ls (vi y :: vi x :: st) mem := by
  intro p e s m args below meth c C H locs a hP hS hl
  subst hn
  exact lv_icmp_lt C.1 C.2.1 (zkC_dec C hd rfl) ht (fun h => kt (by first | exact (i32_lt hx hy).mp h | exact (fun q => h (by rw [q]))) p e s m args below meth c C H locs a hP hS hl) (fun h => kf (fun q => h (by first | exact (i32_lt hx hy).mpr q | exact (fun z => q ((i32_eq hx hy).mp z)))) p e s m args below meth c C H locs a hP hS hl)
theorem m_if_lt {x : Int} {off : Int} {tgt : Nat} (hd : (iT i).lookup pc = some (.ifCond .lt off, nx)) (hn : nx = pc + 3) (ht : (pc : Int) + off = (tgt : Int)) (hx : inR x) (kt : x < 0 → zkW l G i K cu su tgt ls st mem) (kf : ¬ (x < 0) → zkW l G i K cu su nx ls st mem) : zkW l G i K cu su pc ls (vi x :: st) mem := by
  intro p e s m args below meth c C H locs a hP hS hl
  subst hn
  exact lv_if_lt C.1 C.2.1 (zkC_dec C hd rfl) ht (fun h => kt (by rw [i32_0] at h; first | exact (i32_lt hx inR_0).mp h | exact (fun q => h (by rw [q]))) p e s m args below meth c C H locs a hP hS hl) (fun h => kf (fun q => h (by rw [i32_0]; first | exact (i32_lt hx inR_0).mpr q | exact (fun z => q ((i32_eq hx inR_0).mp z)))) p e s m args below meth c C H locs a hP hS hl)
theorem m_icmp_le {x y : Int} {off : Int} {tgt : Nat} (hd : (iT i).lookup pc = some (.if_icmp .le off, nx)) (hn : nx = pc + 3) (ht : (pc : Int) + off = (tgt : Int)) (hx : inR x) (hy : inR y) (kt : x ≤ y → zkW l G i K cu su tgt ls st mem) (kf : ¬ (x ≤ y) → zkW l G i K cu su nx ls st mem) : zkW l G i K cu su pc ls (vi y :: vi x :: st) mem := by
  intro p e s m args below meth c C H locs a hP hS hl
  subst hn
  exact lv_icmp_le C.1 C.2.1 (zkC_dec C hd rfl) ht (fun h => kt (by first | exact (i32_le hx hy).mp h | exact (fun q => h (by rw [q]))) p e s m args below meth c C H locs a hP hS hl) (fun h => kf (fun q => h (by first | exact (i32_le hx hy).mpr q | exact (fun z => q ((i32_eq hx hy).mp z)))) p e s m args below meth c C H locs a hP hS hl)
theorem m_if_le {x : Int} {off : Int} {tgt : Nat} (hd : (iT i).lookup pc = some (.ifCond .le off, nx)) (hn : nx = pc + 3) (ht : (pc : Int) + off = (tgt : Int)) (hx : inR x) (kt : x ≤ 0 → zkW l G i K cu su tgt ls st mem) (kf : ¬ (x ≤ 0) → zkW l G i K cu su nx ls st mem) : zkW l G i K cu su pc ls (vi x :: st) mem := by
  intro p e s m args below meth c C H locs a hP hS hl
  subst hn
  exact lv_if_le C.1 C.2.1 (zkC_dec C hd rfl) ht (fun h => kt (by rw [i32_0] at h; first | exact (i32_le hx inR_0).mp h | exact (fun q => h (by rw [q]))) p e s m args below meth c C H locs a hP hS hl) (fun h => kf (fun q => h (by rw [i32_0]; first | exact (i32_le hx inR_0).mpr q | exact (fun z => q ((i32_eq hx inR_0).mp z)))) p e s m args below meth c C H locs a hP hS hl)
theorem m_icmp_gt {x y : Int} {off : Int} {tgt : Nat} (hd : (iT i).lookup pc = some (.if_icmp .gt off, nx)) (hn : nx = pc + 3) (ht : (pc : Int) + off = (tgt : Int)) (hx : inR x) (hy : inR y) (kt : y < x → zkW l G i K cu su tgt ls st mem) (kf : ¬ (y < x) → zkW l G i K cu su nx ls st mem) : zkW l G i K cu su pc ls (vi y :: vi x :: st) mem := by
  intro p e s m args below meth c C H locs a hP hS hl
  subst hn
  exact lv_icmp_gt C.1 C.2.1 (zkC_dec C hd rfl) ht (fun h => kt (by first | exact (i32_lt hy hx).mp h | exact (fun q => h (by rw [q]))) p e s m args below meth c C H locs a hP hS hl) (fun h => kf (fun q => h (by first | exact (i32_lt hy hx).mpr q | exact (fun z => q ((i32_eq hx hy).mp z)))) p e s m args below meth c C H locs a hP hS hl)
theorem m_if_gt {x : Int} {off : Int} {tgt : Nat} (hd : (iT i).lookup pc = some (.ifCond .gt off, nx)) (hn : nx = pc + 3) (ht : (pc : Int) + off = (tgt : Int)) (hx : inR x) (kt : 0 < x → zkW l G i K cu su tgt ls st mem) (kf : ¬ (0 < x) → zkW l G i K cu su nx ls st mem) : zkW l G i K cu su pc ls (vi x :: st) mem := by
  intro p e s m args below meth c C H locs a hP hS hl
  subst hn
  exact lv_if_gt C.1 C.2.1 (zkC_dec C hd rfl) ht (fun h => kt (by rw [i32_0] at h; first | exact (i32_lt inR_0 hx).mp h | exact (fun q => h (by rw [q]))) p e s m args below meth c C H locs a hP hS hl) (fun h => kf (fun q => h (by rw [i32_0]; first | exact (i32_lt inR_0 hx).mpr q | exact (fun z => q ((i32_eq hx inR_0).mp z)))) p e s m args below meth c C H locs a hP hS hl)
theorem m_icmp_ge {x y : Int} {off : Int} {tgt : Nat} (hd : (iT i).lookup pc = some (.if_icmp .ge off, nx)) (hn : nx = pc + 3) (ht : (pc : Int) + off = (tgt : Int)) (hx : inR x) (hy : inR y) (kt : y ≤ x → zkW l G i K cu su tgt ls st mem) (kf : ¬ (y ≤ x) → zkW l G i K cu su nx ls st mem) : zkW l G i K cu su pc ls (vi y :: vi x :: st) mem := by
  intro p e s m args below meth c C H locs a hP hS hl
  subst hn
  exact lv_icmp_ge C.1 C.2.1 (zkC_dec C hd rfl) ht (fun h => kt (by first | exact (i32_le hy hx).mp h | exact (fun q => h (by rw [q]))) p e s m args below meth c C H locs a hP hS hl) (fun h => kf (fun q => h (by first | exact (i32_le hy hx).mpr q | exact (fun z => q ((i32_eq hx hy).mp z)))) p e s m args below meth c C H locs a hP hS hl)
theorem m_if_ge {x : Int} {off : Int} {tgt : Nat} (hd : (iT i).lookup pc = some (.ifCond .ge off, nx)) (hn : nx = pc + 3) (ht : (pc : Int) + off = (tgt : Int)) (hx : inR x) (kt : 0 ≤ x → zkW l G i K cu su tgt ls st mem) (kf : ¬ (0 ≤ x) → zkW l G i K cu su nx ls st mem) : zkW l G i K cu su pc ls (vi x :: st) mem := by
  intro p e s m args below meth c C H locs a hP hS hl
  subst hn
  exact lv_if_ge C.1 C.2.1 (zkC_dec C hd rfl) ht (fun h => kt (by rw [i32_0] at h; first | exact (i32_le inR_0 hx).mp h | exact (fun q => h (by rw [q]))) p e s m args below meth c C H locs a hP hS hl) (fun h => kf (fun q => h (by rw [i32_0]; first | exact (i32_le inR_0 hx).mpr q | exact (fun z => q ((i32_eq hx inR_0).mp z)))) p e s m args below meth c C H locs a hP hS hl)
theorem m_icmp_eq {x y : Int} {off : Int} {tgt : Nat} (hd : (iT i).lookup pc = some (.if_icmp .eq off, nx)) (hn : nx = pc + 3) (ht : (pc : Int) + off = (tgt : Int)) (hx : inR x) (hy : inR y) (kt : x = y → zkW l G i K cu su tgt ls st mem) (kf : ¬ (x = y) → zkW l G i K cu su nx ls st mem) : zkW l G i K cu su pc ls (vi y :: vi x :: st) mem := by
  intro p e s m args below meth c C H locs a hP hS hl
  subst hn
  exact lv_icmp_eq C.1 C.2.1 (zkC_dec C hd rfl) ht (fun h => kt (by first | exact (i32_eq hx hy).mp h | exact (fun q => h (by rw [q]))) p e s m args below meth c C H locs a hP hS hl) (fun h => kf (fun q => h (by first | exact (i32_eq hx hy).mpr q | exact (fun z => q ((i32_eq hx hy).mp z)))) p e s m args below meth c C H locs a hP hS hl)
theorem m_if_eq {x : Int} {off : Int} {tgt : Nat} (hd : (iT i).lookup pc = some (.ifCond .eq off, nx)) (hn : nx = pc + 3) (ht : (pc : Int) + off = (tgt : Int)) (hx : inR x) (kt : x = 0 → zkW l G i K cu su tgt ls st mem) (kf : ¬ (x = 0) → zkW l G i K cu su nx ls st mem) : zkW l G i K cu su pc ls (vi x :: st) mem := by
  intro p e s m args below meth c C H locs a hP hS hl
  subst hn
  exact lv_if_eq C.1 C.2.1 (zkC_dec C hd rfl) ht (fun h => kt (by rw [i32_0] at h; first | exact (i32_eq hx inR_0).mp h | exact (fun q => h (by rw [q]))) p e s m args below meth c C H locs a hP hS hl) (fun h => kf (fun q => h (by rw [i32_0]; first | exact (i32_eq hx inR_0).mpr q | exact (fun z => q ((i32_eq hx inR_0).mp z)))) p e s m args below meth c C H locs a hP hS hl)
/-- a truth value on the stack -/
def b2i (b : Bool) : Int := if b then 1 else 0
theorem inR_b (b : Bool) : inR (b2i b) := by cases b <;> exact ⟨by decide, by decide⟩
theorem m_if_eq_b {b : Bool} {off : Int} {tgt : Nat} (hd : (iT i).lookup pc = some (.ifCond .eq off, nx)) (hn : nx = pc + 3) (ht : (pc : Int) + off = (tgt : Int)) (kt : b = false → zkW l G i K cu su tgt ls st mem) (kf : b = true → zkW l G i K cu su nx ls st mem) : zkW l G i K cu su pc ls (vi (b2i b) :: st) mem :=
  m_if_eq hd hn ht (inR_b b) (fun h => kt (by cases b with | false => rfl | true => exact absurd h (by decide))) (fun h => kf (by cases b with | true => rfl | false => exact absurd rfl h))
theorem m_if_ne_b {b : Bool} {off : Int} {tgt : Nat} (hd : (iT i).lookup pc = some (.ifCond .ne off, nx)) (hn : nx = pc + 3) (ht : (pc : Int) + off = (tgt : Int)) (kt : b = true → zkW l G i K cu su tgt ls st mem) (kf : b = false → zkW l G i K cu su nx ls st mem) : zkW l G i K cu su pc ls (vi (b2i b) :: st) mem :=
  m_if_ne hd hn ht (inR_b b) (fun h => kt (by cases b with | true => rfl | false => exact absurd rfl h)) (fun h => kf (by cases b with | false => rfl | true => exact absurd h (by decide)))
theorem m_swIn {x dflt lo hi off : Int} {offs : Array Int} {tgt len : Nat} (hd : (iT i).lookup pc = some (.tableswitch dflt lo hi offs, nx)) (hn : nx = pc + len) (hx : inR x) (h1 : lo ≤ x) (h2 : x ≤ hi) (ho : offs[(x - lo).toNat]? = some off) (ht : (pc : Int) + off = (tgt : Int)) (k : zkW l G i K cu su tgt ls st mem) : zkW l G i K cu su pc ls (vi x :: st) mem := by
  intro p e s m args below meth c C H locs a hP hS hl
  subst hn
  exact lv_tableIn C.1 C.2.1 (zkC_dec C hd rfl) (by rw [i32_toInt hx]; omega) (by rw [i32_toInt hx]; omega) (by rw [i32_toInt hx]; exact ho) ht (k p e s m args below meth c C H locs a hP hS hl)
theorem m_swOut {x dflt lo hi : Int} {offs : Array Int} {tgt len : Nat} (hd : (iT i).lookup pc = some (.tableswitch dflt lo hi offs, nx)) (hn : nx = pc + len) (hx : inR x) (h : x < lo ∨ hi < x) (ht : (pc : Int) + dflt = (tgt : Int)) (k : zkW l G i K cu su tgt ls st mem) : zkW l G i K cu su pc ls (vi x :: st) mem := by
  intro p e s m args below meth c C H locs a hP hS hl
  subst hn
  exact lv_tableOut C.1 C.2.1 (zkC_dec C hd rfl) (by rw [i32_toInt hx]; exact h) ht (k p e s m args below meth c C H locs a hP hS hl)
end ZROWS
end
section
/-! fields and arrays -/
/-- the links of fields: 1000 * own + index, the tag, the field, the word's place, whether by nest -/
def zkFT : List (Nat × Nat × Nat × Nat × Bool) := [(4009, 4, 0, 156, false), (4015, 4, 1, 157, false), (4041, 4, 2, 158, false), (4018, 4, 3, 159, false), (51, 4, 3, 160, true), (8079, 4, 3, 161, true), (6281, 4, 3, 162, true), (4022, 4, 4, 163, false), (8083, 4, 4, 164, true), (148, 4, 4, 165, true), (4026, 4, 5, 166, false), (8073, 4, 5, 167, true), (4029, 4, 6, 168, false), (8078, 4, 6, 169, true), (4035, 4, 7, 170, false), (6207, 4, 7, 171, true), (4038, 4, 8, 172, false), (4044, 4, 9, 173, false), (4047, 4, 10, 174, false), (3009, 3, 0, 205, false), (3015, 3, 1, 206, false), (3018, 3, 2, 207, false), (3021, 3, 3, 208, false), (6226, 3, 3, 209, true), (3024, 3, 4, 210, false), (6219, 3, 4, 211, true), (1009, 1, 0, 234, false), (1015, 1, 1, 235, false), (1019, 1, 2, 236, false), (5009, 5, 0, 244, false), (8039, 5, 0, 245, true), (5015, 5, 1, 246, false), (8046, 5, 1, 247, true), (5021, 5, 2, 248, false), (149, 5, 2, 249, true), (6169, 5, 2, 250, true), (5025, 5, 3, 251, false), (168, 5, 3, 252, true), (6192, 5, 3, 253, true), (5028, 5, 4, 254, false), (8019, 5, 4, 255, true), (79, 5, 4, 256, true), (5032, 5, 5, 257, false), (8059, 5, 5, 258, true), (5035, 5, 6, 259, false), (8094, 5, 6, 260, true), (5038, 5, 7, 261, false), (5041, 5, 8, 262, false), (8036, 5, 8, 263, true), (85, 5, 8, 264, true), (6272, 5, 8, 265, true), (5044, 5, 9, 266, false), (8053, 5, 9, 267, true), (5053, 5, 10, 268, false), (5056, 5, 11, 269, false), (5060, 5, 12, 270, false), (5063, 5, 13, 271, false), (5066, 5, 14, 272, false), (6200, 5, 14, 273, true), (11, 0, 0, 305, false), (8015, 0, 0, 306, true), (6268, 0, 0, 307, true), (20, 0, 1, 308, false), (8069, 0, 1, 309, true), (6277, 0, 1, 310, true), (27, 0, 2, 311, false), (6215, 0, 2, 312, true), (31, 0, 3, 313, false), (8043, 0, 3, 314, true), (6112, 0, 3, 315, true), (35, 0, 4, 316, false), (6166, 0, 4, 317, true), (39, 0, 5, 318, false), (8009, 0, 5, 319, true), (6098, 0, 5, 320, true), (58, 0, 6, 321, false), (61, 0, 7, 322, false), (6150, 0, 7, 323, true), (2009, 2, 0, 347, false), (2015, 2, 1, 348, false), (2019, 2, 2, 349, false), (2027, 2, 3, 350, false), (2034, 2, 4, 351, false), (6083, 2, 4, 352, true), (6010, 6, 0, 365, false), (6016, 6, 1, 366, false), (6022, 6, 2, 367, false), (6240, 6, 3, 368, false), (6026, 6, 4, 369, false), (7066, 7, 0, 1192, false), (7101, 7, 1, 1193, false), (7072, 7, 2, 1194, false), (7007, 7, 3, 1195, false), (7013, 7, 4, 1196, false), (7016, 7, 5, 1197, false), (7069, 7, 6, 1198, false), (7086, 7, 7, 1199, false), (7128, 7, 8, 1200, false), (7104, 7, 9, 1201, false), (7019, 7, 10, 1202, false), (7083, 7, 11, 1203, false), (7022, 7, 12, 1204, false), (7025, 7, 13, 1205, false), (7028, 7, 14, 1206, false), (7031, 7, 15, 1207, false), (7034, 7, 16, 1208, false), (7037, 7, 17, 1209, false), (7040, 7, 18, 1210, false), (7089, 7, 19, 1211, false), (7092, 7, 20, 1212, false), (7183, 7, 21, 1213, false), (7095, 7, 22, 1214, false), (7043, 7, 23, 1215, false), (7046, 7, 24, 1216, false), (7049, 7, 25, 1217, false), (7098, 7, 26, 1218, false), (7052, 7, 27, 1219, false), (7218, 7, 28, 1220, false), (7224, 7, 29, 1221, false), (7221, 7, 30, 1222, false), (7227, 7, 31, 1223, false), (7056, 7, 32, 1224, false), (7060, 7, 33, 1225, false), (7290, 7, 34, 1226, false), (7063, 7, 35, 1227, false), (7280, 7, 36, 1228, false), (7276, 7, 37, 1229, false)]
def zkFw (q : Nat × Nat × Nat × Nat × Bool) : Cond := if q.2.2.2.2 then .fieldLinkNest (zkR (q.1 / 1000)) (q.1 % 1000) (zkR q.2.1) (zkT q.2.1 q.2.2.1).2.1 (zkT q.2.1 q.2.2.1).2.2.1 RX7 else .fieldLink (zkR (q.1 / 1000)) (q.1 % 1000) (zkR q.2.1) (zkT q.2.1 q.2.2.1).2.1 (zkT q.2.1 q.2.2.1).2.2.1
theorem zkFT_ok : zkFT.all (fun q => decide (q.2.2.1 < nfl q.2.1) && decide ((zkT q.2.1 q.2.2.1).1 = zkR q.2.1) && decide (lw_tbl[q.2.2.2.1]? = some (zkFw q)) && (if q.2.2.2.2 then zkNest (zkFw q) else goodWord (zkFw q))) = true := by decide +kernel
def zkLy : List (List Nat) := [[324, 326, 328, 330, 332, 334, 336, 338], [237, 239, 241], [353, 355, 357, 359, 361], [212, 214, 216, 218, 220], [175, 177, 179, 181, 183, 185, 187, 189, 191, 193, 195], [274, 276, 278, 280, 282, 284, 286, 288, 290, 292, 294, 296, 298, 300, 302], [370, 372, 374, 376, 378], [1230, 1232, 1234, 1236, 1238, 1240, 1242, 1244, 1246, 1248, 1250, 1252, 1254, 1256, 1258, 1260, 1262, 1264, 1266, 1268, 1270, 1272, 1274, 1276, 1278, 1280, 1282, 1284, 1286, 1288, 1290, 1292, 1294, 1296, 1298, 1300, 1302, 1304]]
theorem zkLy_ok : (List.range 8).all (fun t => (List.range (nfl t)).all (fun k => decide (lw_tbl[(zkLy.getD t []).getD k 0]? = some (u_lay (zkR t) (zkT t) k)) && goodWord (u_lay (zkR t) (zkT t) k))) = true := by decide +kernel
theorem zkLays {t : Nat} (h : t < 8) : ∀ w ∈ u_ws (zkR t) (zkT t) (nfl t), w ∈ zkGw := by
  intro w hw
  obtain ⟨k, hk, rfl⟩ := List.mem_map.mp hw
  have h1 := List.all_eq_true.mp zkLy_ok t (List.mem_range.mpr h)
  have h2 := List.all_eq_true.mp h1 k hk
  simp only [Bool.and_eq_true, decide_eq_true_eq] at h2
  exact zkGw_in _ h2.1 h2.2
def zkFl (o idx : Nat) : Option (Nat × Nat) := (zkFT.lookup (1000 * o + idx)).map (fun q => (q.1, q.2.1))
theorem zkFl_spec {o idx t k : Nat} (hi : idx < 1000) (h : zkFl o idx = some (t, k)) : k < nfl t ∧ (zkT t k).1 = zkR t ∧ (Cond.fieldLink (zkR o) idx (zkR t) (zkT t k).2.1 (zkT t k).2.2.1 ∈ zkGw ∨ Cond.fieldLinkNest (zkR o) idx (zkR t) (zkT t k).2.1 (zkT t k).2.2.1 RX7 ∈ zkNw) := by
  unfold zkFl at h
  obtain ⟨q, hq, he⟩ := Option.map_eq_some_iff.mp h
  obtain ⟨t', k', pl, b⟩ := q
  cases he
  have h1 := List.all_eq_true.mp zkFT_ok _ (zk_lk hq)
  simp only [Bool.and_eq_true, decide_eq_true_eq] at h1
  obtain ⟨⟨⟨a1, a2⟩, a3⟩, a4⟩ := h1
  refine ⟨a1, a2, ?_⟩
  have e1 : (1000 * o + idx) / 1000 = o := by omega
  have e2 : (1000 * o + idx) % 1000 = idx := by omega
  cases b with
  | true =>
    right
    simp only [zkFw, e1, e2, if_true] at a3 a4
    exact zkNw_in _ a3 a4
  | false =>
    left
    simp only [zkFw, e1, e2, Bool.false_eq_true, if_false] at a3 a4
    exact zkGw_in _ a3 a4
theorem zkE_obj {G : zkG} {m : zkM} {t j : Nat} (h : t < 8) : zkE G m (t, j) = Sum.inr (t, (List.range (nfl t)).map (fun k => zkF G m t j k)) := by
  unfold zkE
  rw [if_pos h]
theorem zk_rset {α : Type} {n k : Nat} {f g : Nat → α} (h : ∀ j, j ≠ k → g j = f j) : ((List.range n).map f).set k (g k) = (List.range n).map g := by
  apply List.ext_getElem?
  intro j
  rw [List.getElem?_set]
  by_cases e : k = j
  · subst e
    rw [if_pos rfl]
    split
    · next h1 =>
      rw [List.length_map, List.length_range] at h1
      rw [List.getElem?_map, List.getElem?_range h1]
      rfl
    · next h1 =>
      rw [List.length_map, List.length_range] at h1
      rw [List.getElem?_eq_none]
      rw [List.length_map, List.length_range]; omega
  · rw [if_neg e, List.getElem?_map, List.getElem?_map]
    by_cases h1 : j < n
    · rw [List.getElem?_range h1]
      exact congrArg some (h j (fun q => e q.symm)).symm
    · rw [List.getElem?_eq_none (by rw [List.length_range]; omega)]
      rfl
theorem zkE_mset {G : zkG} {m : zkM} {t j k : Nat} {x : Int} (h : t < 8) (hr : rfo t j k = none) : zkE G (mset m t j k x) (t, j) = Sum.inr (t, ((List.range (nfl t)).map (fun k => zkF G m t j k)).set k (.int (Int32.ofInt x))) := by
  rw [zkE_obj h]
  have e1 : zkF G (mset m t j k x) t j k = .int (Int32.ofInt x) := by
    unfold zkF
    rw [hr]
    simp only [mset_s]
  rw [← e1, zk_rset (g := fun k' => zkF G (mset m t j k x) t j k')]
  intro j' hj
  unfold zkF
  cases rfo t j j' with
  | some q => rfl
  | none => simp [mset, hj]
theorem zk_same {s : State} {a b c : String} (h : a = b) : ∀ x, s.fieldFound? a c b = some x → s.fieldFound? a c b = some x := fun _ q => q
section ZMEM
variable {l : Launch} {G : zkG} {i : zkI} {K : zkK} {cu su pc nx : Nat} {ls : List (Option zkV)} {st : List zkV} {mem : zkM}
theorem m_gv {t j k idx : Nat} (hd : (iT i).lookup pc = some (.getfield idx, nx)) (hn : nx = pc + 3) (hi : idx < 1000) (hf : zkFl (iO i) idx = some (t, k)) (hj : j < cnt t) {v : zkV} (hv : zkF G mem t j k = tau G v) (kk : zkW l G i K cu su nx ls (v :: st) mem) : zkW l G i K cu su pc ls (vr t j :: st) mem := by
  intro p e s m args below meth c C H locs a hP hS hl
  subst hn
  have hq := kk p e s m args below meth c C H locs a hP hS hl
  obtain ⟨h1, h2, h3⟩ := zkFl_spec hi hf
  have ht := nfl_pos h1
  obtain ⟨q0, -, he⟩ := wl_at G mem hj
  rw [zkE_obj ht] at he
  have hfs : ((List.range (nfl t)).map (fun k => zkF G mem t j k))[k]? = some (tau G v) := by
    rw [List.getElem?_map, List.getElem?_range h1, ← hv]
    rfl
  have hsame : ∀ x, s.fieldFound? (zkT t k).1 (zkT t k).2.1 (zkT t k).2.2.1 = some x → s.fieldFound? (zkR t) (zkT t k).2.1 (zkT t k).2.2.1 = some x := fun x hx => by rw [← h2]; exact hx
  obtain ⟨hx, hb, hr, hml, hown, hts, hF, -⟩ := id C
  obtain ⟨-, hN, hK, -⟩ := hF
  rcases h3 with h3 | h3
  · exact va_get hx hb hts (zkLays ht) hown hK hP q0 he (zkCl_at ht) k h1 (hts _ h3) hsame hfs (zkC_dec C hd rfl) hq
  · exact va_getN hx hb hts (zkLays ht) hown hK hP q0 he (zkCl_at ht) k h1 (va_Nw.use rfl (hN _ h3)) hsame hfs (zkC_dec C hd rfl) hq
theorem m_gi {t j k idx : Nat} (hd : (iT i).lookup pc = some (.getfield idx, nx)) (hn : nx = pc + 3) (hi : idx < 1000) (hf : zkFl (iO i) idx = some (t, k)) (hr : rfo t j k = none) (hj : j < cnt t) (kk : zkW l G i K cu su nx ls (vi (mem t j k) :: st) mem) : zkW l G i K cu su pc ls (vr t j :: st) mem :=
  m_gv hd hn hi hf hj (by unfold zkF; rw [hr]; rfl) kk
theorem m_gr {t j k idx t2 j2 : Nat} (hd : (iT i).lookup pc = some (.getfield idx, nx)) (hn : nx = pc + 3) (hi : idx < 1000) (hf : zkFl (iO i) idx = some (t, k)) (hr : rfo t j k = some (t2, j2)) (hj : j < cnt t) (kk : zkW l G i K cu su nx ls (vr t2 j2 :: st) mem) : zkW l G i K cu su pc ls (vr t j :: st) mem :=
  m_gv hd hn hi hf hj (by unfold zkF; rw [hr]; rfl) kk
theorem m_pv {t j k idx : Nat} {x : Int} (hd : (iT i).lookup pc = some (.putfield idx, nx)) (hn : nx = pc + 3) (hi : idx < 1000) (hf : zkFl (iO i) idx = some (t, k)) (hr : rfo t j k = none) (hfin : (zkT t k).2.2.2 = false) (hj : j < cnt t) (hna : narrow (zkty t k) (.int (Int32.ofInt x)) = .int (Int32.ofInt x)) (hfi : fits (zkty t k) (.int (Int32.ofInt x)) = true) (kk : zkW l G i K cu su nx ls st (mset mem t j k x)) : zkW l G i K cu su pc ls (vi x :: vr t j :: st) mem := by
  intro p e s m args below meth c C H locs a hP hS hl
  subst hn
  obtain ⟨h1, h2, h3⟩ := zkFl_spec hi hf
  have ht := nfl_pos h1
  obtain ⟨q0, hq0, he⟩ := wl_at G mem hj
  rw [zkE_obj ht] at he
  have hsame : ∀ x, s.fieldFound? (zkT t k).1 (zkT t k).2.1 (zkT t k).2.2.1 = some x → s.fieldFound? (zkR t) (zkT t k).2.1 (zkT t k).2.2.1 = some x := fun x hx => by rw [← h2]; exact hx
  obtain ⟨hx, hb, -, hml, hown, hts, hF, -⟩ := id C
  obtain ⟨hJ, hN, hK, -⟩ := hF
  have hset : (wl G mem).set q0 (ga G (t, j), Sum.inr (t, ((List.range (nfl t)).map (fun k => zkF G mem t j k)).set k (.int (Int32.ofInt x)))) = wl G (mset mem t j k x) := by
    rw [← zkE_mset ht hr]
    exact wl_set hq0 (fun u hu hne => zkE_off (fun k' => mset_off hne k'))
  have hlen : k < ((List.range (nfl t)).map (fun k => zkF G mem t j k)).length := by rw [List.length_map, List.length_range]; exact h1
  rcases h3 with h3 | h3
  · exact va_put hx hb hts (zkLays ht) (zkty t) (zkTy_ok ht) (zkNm ht) hown hK hP (wl_D hJ mem _) hS q0 he (zkCl_at ht) k h1 (hts _ h3) hsame hfin (zkTy_ok ht k h1) hna hfi hlen (zkC_dec C hd rfl) (fun H1 locs1 hP1 _ hS1 => kk p e s m args below meth c C H1 locs1 a (hset ▸ hP1) hS1 hl)
  · exact va_putN hx hb hts (zkLays ht) (zkty t) (zkTy_ok ht) (zkNm ht) hown hK hP (wl_D hJ mem _) hS q0 he (zkCl_at ht) k h1 (va_Nw.use rfl (hN _ h3)) hsame hfin (zkTy_ok ht k h1) hna hfi hlen (zkC_dec C hd rfl) (fun H1 locs1 hP1 _ hS1 => kk p e s m args below meth c C H1 locs1 a (hset ▸ hP1) hS1 hl)
theorem m_pi {t j k idx : Nat} {x : Int} (hd : (iT i).lookup pc = some (.putfield idx, nx)) (hn : nx = pc + 3) (hi : idx < 1000) (hf : zkFl (iO i) idx = some (t, k)) (hr : rfo t j k = none) (hfin : (zkT t k).2.2.2 = false) (hty : zkty t k = .int) (hj : j < cnt t) (kk : zkW l G i K cu su nx ls st (mset mem t j k x)) : zkW l G i K cu su pc ls (vi x :: vr t j :: st) mem :=
  m_pv hd hn hi hf hr hfin hj (by rw [hty]; rfl) (by rw [hty]; rfl) kk
theorem zk_nb (b : Bool) : narrow .boolean (.int (Int32.ofInt (b2i b))) = .int (Int32.ofInt (b2i b)) ∧ fits .boolean (.int (Int32.ofInt (b2i b))) = true := by
  cases b <;> exact ⟨by decide +kernel, by decide +kernel⟩
theorem m_pz {t j k idx : Nat} {b : Bool} (hd : (iT i).lookup pc = some (.putfield idx, nx)) (hn : nx = pc + 3) (hi : idx < 1000) (hf : zkFl (iO i) idx = some (t, k)) (hr : rfo t j k = none) (hfin : (zkT t k).2.2.2 = false) (hty : zkty t k = .boolean) (hj : j < cnt t) (kk : zkW l G i K cu su nx ls st (mset mem t j k (b2i b))) : zkW l G i K cu su pc ls (vi (b2i b) :: vr t j :: st) mem :=
  m_pv hd hn hi hf hr hfin hj (by rw [hty]; exact (zk_nb b).1) (by rw [hty]; exact (zk_nb b).2) kk
/-! arrays -/
theorem zk_in {x : Int} {n : Nat} (h0 : 0 ≤ x) (h1 : x < n) (hn : n < 2147483648) : vp_in (Int32.ofInt x) n := by
  have hx : inR x := ⟨by omega, by omega⟩
  rw [vp_in_iff, i32_toInt hx]
  exact ⟨h0, h1⟩
theorem zk_cl {x : Int} (h0 : 0 ≤ x) (h1 : x < 2147483648) : (Int32.ofInt x).toNatClampNeg = x.toNat := by
  have hx : inR x := ⟨by omega, h1⟩
  show (Int32.ofInt x).toInt.toNat = x.toNat
  rw [i32_toInt hx]
theorem aln_lt (t : Nat) : aln t < 2147483648 := by
  unfold aln
  split <;> omega
theorem zkE_ari {G : zkG} {m : zkM} {t j : Nat} (h : 8 ≤ t) (hk : akd t = 0 ∨ akd t = 1) : zkE G m (t, j) = Sum.inl (gA G (akd t), (aln t, Sum.inl (fun x => Int32.ofInt (m t j x)))) := by
  unfold zkE
  rw [if_neg (by show ¬ t < 8; omega)]
  rcases hk with hk | hk <;> simp only [hk]
theorem zkTy_at (G : zkG) {k : Nat} (h : k < 5) : (zkTy G)[k]? = some (gA G k, [FieldType.int, .char, .object "CeilingWorkbench$Task", .long, .double].getD k .int) := by
  rcases (show k = 0 ∨ k = 1 ∨ k = 2 ∨ k = 3 ∨ k = 4 by omega) with rfl | rfl | rfl | rfl | rfl <;> rfl
theorem zk_upd {m : zkM} {t j k : Nat} {x : Int} : upd (fun y => Int32.ofInt (m t j y)) k (Int32.ofInt x) = fun y => Int32.ofInt (mset m t j k x t j y) := by
  funext y
  unfold upd mset
  by_cases e : y = k
  · simp [e]
  · simp [e]
theorem zk_seti {G : zkG} {m : zkM} {q0 t j k : Nat} {x : Int} (h : 8 ≤ t) (hk : akd t = 0 ∨ akd t = 1) (hq : zkL[q0]? = some (t, j)) : (wl G m).set q0 (ga G (t, j), Sum.inl (gA G (akd t), (aln t, Sum.inl (upd (fun y => Int32.ofInt (m t j y)) k (Int32.ofInt x))))) = wl G (mset m t j k x) := by
  rw [zk_upd, ← zkE_ari (G := G) (m := mset m t j k x) h hk]
  exact wl_set hq (fun u hu hne => zkE_off (fun k' => mset_off hne k'))
theorem m_iald {t j : Nat} {x : Int} (hd : (iT i).lookup pc = some (.iaload, nx)) (hn : nx = pc + 1) (h8 : 8 ≤ t) (hk : akd t = 0) (hj : j < cnt t) (h0 : 0 ≤ x) (h1 : x < aln t) (kk : zkW l G i K cu su nx ls (vi (mem t j x.toNat) :: st) mem) : zkW l G i K cu su pc ls (vi x :: vr t j :: st) mem := by
  intro p e s m args below meth c C H locs a hP hS hl
  subst hn
  have hq := kk p e s m args below meth c C H locs a hP hS hl
  obtain ⟨q0, hq0, he⟩ := wl_at G mem hj
  rw [zkE_ari h8 (Or.inl hk), hk] at he
  have hl2 := aln_lt t
  refine va_iald C.1 C.2.1 C.2.2.2.2.2.2.1.2.2.1 hP q0 0 he rfl (zk_in h0 h1 hl2) (zkC_dec C hd rfl) ?_
  rw [zk_cl h0 (by omega)]
  exact hq
theorem m_cald {t j : Nat} {x : Int} (hd : (iT i).lookup pc = some (.caload, nx)) (hn : nx = pc + 1) (h8 : 8 ≤ t) (hk : akd t = 1) (hj : j < cnt t) (h0 : 0 ≤ x) (h1 : x < aln t) (kk : zkW l G i K cu su nx ls (vi (mem t j x.toNat) :: st) mem) : zkW l G i K cu su pc ls (vi x :: vr t j :: st) mem := by
  intro p e s m args below meth c C H locs a hP hS hl
  subst hn
  have hq := kk p e s m args below meth c C H locs a hP hS hl
  obtain ⟨q0, hq0, he⟩ := wl_at G mem hj
  rw [zkE_ari h8 (Or.inr hk), hk] at he
  have hl2 := aln_lt t
  refine va_cald C.1 C.2.1 C.2.2.2.2.2.2.1.2.2.1 hP q0 1 he rfl (zk_in h0 h1 hl2) (zkC_dec C hd rfl) ?_
  rw [zk_cl h0 (by omega)]
  exact hq
theorem m_iast {t j : Nat} {x y : Int} (hd : (iT i).lookup pc = some (.iastore, nx)) (hn : nx = pc + 1) (h8 : 8 ≤ t) (hk : akd t = 0) (hj : j < cnt t) (h0 : 0 ≤ x) (h1 : x < aln t) (kk : zkW l G i K cu su nx ls st (mset mem t j x.toNat y)) : zkW l G i K cu su pc ls (vi y :: vi x :: vr t j :: st) mem := by
  intro p e s m args below meth c C H locs a hP hS hl
  subst hn
  obtain ⟨q0, hq0, he⟩ := wl_at G mem hj
  rw [zkE_ari h8 (Or.inl hk), hk] at he
  have hl2 := aln_lt t
  refine va_iast C.1 C.2.1 C.2.2.2.2.2.2.1.2.2.1 hP (wl_D C.2.2.2.2.2.2.1.1 mem _) hS q0 0 he rfl (zk_in h0 h1 hl2) (zkC_dec C hd rfl) (fun H1 locs1 hP1 _ hS1 => kk p e s m args below meth c C H1 locs1 a ?_ hS1 hl)
  rw [zk_cl h0 (by omega)] at hP1
  have e1 := zk_seti (G := G) (m := mem) (k := x.toNat) (x := y) h8 (Or.inl hk) hq0
  rw [hk] at e1
  exact e1 ▸ hP1
theorem m_cast {t j : Nat} {x y : Int} (hd : (iT i).lookup pc = some (.castore, nx)) (hn : nx = pc + 1) (h8 : 8 ≤ t) (hk : akd t = 1) (hj : j < cnt t) (h0 : 0 ≤ x) (h1 : x < aln t) (hy0 : 0 ≤ y) (hy1 : y < 65536) (kk : zkW l G i K cu su nx ls st (mset mem t j x.toNat y)) : zkW l G i K cu su pc ls (vi y :: vi x :: vr t j :: st) mem := by
  intro p e s m args below meth c C H locs a hP hS hl
  subst hn
  obtain ⟨q0, hq0, he⟩ := wl_at G mem hj
  rw [zkE_ari h8 (Or.inr hk), hk] at he
  have hl2 := aln_lt t
  refine va_cast C.1 C.2.1 C.2.2.2.2.2.2.1.2.2.1 hP (wl_D C.2.2.2.2.2.2.1.1 mem _) hS q0 1 he rfl (zk_in h0 h1 hl2) (zkC_dec C hd rfl) (fun H1 locs1 hP1 _ hS1 => kk p e s m args below meth c C H1 locs1 a ?_ hS1 hl)
  have e2 : vp_nar .char (Int32.ofInt y) = Int32.ofInt y := by
    obtain ⟨n, rfl⟩ : ∃ n : Nat, y = n := ⟨y.toNat, by omega⟩
    have h3 := (pk_charN (q := n) (by omega)).1
    unfold vp_nar
    rw [show Int32.ofInt (n : Int) = nI n from rfl, h3]
  rw [zk_cl h0 (by omega), e2] at hP1
  have e1 := zk_seti (G := G) (m := mem) (k := x.toNat) (x := y) h8 (Or.inr hk) hq0
  rw [hk] at e1
  exact e1 ▸ hP1
theorem m_aald {j : Nat} {x : Int} (hd : (iT i).lookup pc = some (.aaload, nx)) (hn : nx = pc + 1) (hj : j < 2) (h0 : 0 ≤ x) (h1 : x < 5) (kk : zkW l G i K cu su nx ls (vr 5 (5 * j + x.toNat) :: st) mem) : zkW l G i K cu su pc ls (vi x :: vr 10 j :: st) mem := by
  intro p e s m args below meth c C H locs a hP hS hl
  subst hn
  have hq := kk p e s m args below meth c C H locs a hP hS hl
  obtain ⟨q0, hq0, he⟩ := wl_at G mem (t := 10) hj
  refine va_aldq C.1 C.2.1 C.2.2.2.2.2.2.1.2.2.1 hP q0 2 he rfl (zk_in h0 h1 (aln_lt 10)) (zkC_dec C hd rfl) ?_
  rw [zk_cl h0 (by omega)]
  exact hq
theorem m_alen {t j : Nat} (hd : (iT i).lookup pc = some (.arraylength, nx)) (hn : nx = pc + 1) (h8 : 8 ≤ t) (hk : akd t = 0 ∨ akd t = 1) (hj : j < cnt t) (kk : zkW l G i K cu su nx ls (vi (aln t) :: st) mem) : zkW l G i K cu su pc ls (vr t j :: st) mem := by
  intro p e s m args below meth c C H locs a hP hS hl
  subst hn
  have hq := kk p e s m args below meth c C H locs a hP hS hl
  obtain ⟨q0, hq0, he⟩ := wl_at G mem hj
  rw [zkE_ari h8 hk] at he
  rcases hk with hk | hk
  · rw [hk] at he
    exact va_alen C.1 C.2.1 C.2.2.2.2.2.2.1.2.2.1 hP q0 0 he (ty := .int) rfl rfl (zkC_dec C hd rfl) hq
  · rw [hk] at he
    exact va_alen C.1 C.2.1 C.2.2.2.2.2.2.1.2.2.1 hP q0 1 he (ty := .char) rfl rfl (zkC_dec C hd rfl) hq
theorem m_lald (hd : (iT i).lookup pc = some (.laload, nx)) (hn : nx = pc + 1) (kk : zkW l G i K cu su nx ls (vl (mem 50 0 0) :: st) mem) : zkW l G i K cu su pc ls (vi 0 :: vr 50 0 :: st) mem := by
  intro p e s m args below meth c C H locs a hP hS hl
  subst hn
  have hq := kk p e s m args below meth c C H locs a hP hS hl
  obtain ⟨q0, hq0, he⟩ := wl_at G mem (t := 50) (i := 0) (by decide)
  refine va_lald C.1 C.2.1 C.2.2.2.2.2.2.1.2.2.1 hP q0 3 he rfl (zk_in (x := 0) (by decide) (by decide) (by decide)) (zkC_dec C hd rfl) ?_
  rw [zk_cl (by decide) (by decide)]
  exact hq
theorem m_dald (hd : (iT i).lookup pc = some (.daload, nx)) (hn : nx = pc + 1) (kk : zkW l G i K cu su nx ls (vd (UInt64.ofNat (mem 51 0 0).toNat) :: st) mem) : zkW l G i K cu su pc ls (vi 0 :: vr 51 0 :: st) mem := by
  intro p e s m args below meth c C H locs a hP hS hl
  subst hn
  have hq := kk p e s m args below meth c C H locs a hP hS hl
  obtain ⟨q0, hq0, he⟩ := wl_at G mem (t := 51) (i := 0) (by decide)
  refine va_dald C.1 C.2.1 C.2.2.2.2.2.2.1.2.2.1 hP q0 4 he rfl (zk_in (x := 0) (by decide) (by decide) (by decide)) (zkC_dec C hd rfl) ?_
  rw [zk_cl (by decide) (by decide)]
  exact hq
theorem m_last {y : Int} (hd : (iT i).lookup pc = some (.lastore, nx)) (hn : nx = pc + 1) (kk : zkW l G i K cu su nx ls st (mset mem 50 0 0 y)) : zkW l G i K cu su pc ls (vl y :: vi 0 :: vr 50 0 :: st) mem := by
  intro p e s m args below meth c C H locs a hP hS hl
  subst hn
  obtain ⟨q0, hq0, he⟩ := wl_at G mem (t := 50) (i := 0) (by decide)
  refine va_last C.1 C.2.1 C.2.2.2.2.2.2.1.2.2.1 hP (wl_D C.2.2.2.2.2.2.1.1 mem _) hS q0 3 he rfl (zk_in (x := 0) (by decide) (by decide) (by decide)) (zkC_dec C hd rfl) (fun H1 locs1 hP1 _ hS1 => kk p e s m args below meth c C H1 locs1 a ?_ hS1 hl)
  rw [zk_cl (by decide) (by decide)] at hP1
  have e0 : vp_updL (fun x => Int64.ofInt (mem 50 0 x)) 0 (Int64.ofInt y) = fun x => Int64.ofInt (mset mem 50 0 0 y 50 0 x) := by
    funext z
    unfold vp_updL mset
    by_cases e : z = 0 <;> simp [e]
  have e1 : (wl G mem).set q0 (ga G (50, 0), Sum.inl (gA G 3, (1, Sum.inr (Sum.inl (vp_updL (fun x => Int64.ofInt (mem 50 0 x)) 0 (Int64.ofInt y)))))) = wl G (mset mem 50 0 0 y) := by
    rw [e0]
    exact wl_set (m' := mset mem 50 0 0 y) hq0 (fun u hu hne => zkE_off (fun k' => mset_off hne k'))
  exact e1 ▸ hP1
theorem m_dast {y : UInt64} (hd : (iT i).lookup pc = some (.dastore, nx)) (hn : nx = pc + 1) (kk : zkW l G i K cu su nx ls st (mset mem 51 0 0 (y.toNat : Int))) : zkW l G i K cu su pc ls (vd y :: vi 0 :: vr 51 0 :: st) mem := by
  intro p e s m args below meth c C H locs a hP hS hl
  subst hn
  obtain ⟨q0, hq0, he⟩ := wl_at G mem (t := 51) (i := 0) (by decide)
  refine va_dast C.1 C.2.1 C.2.2.2.2.2.2.1.2.2.1 hP (wl_D C.2.2.2.2.2.2.1.1 mem _) hS q0 4 he rfl (zk_in (x := 0) (by decide) (by decide) (by decide)) (zkC_dec C hd rfl) (fun H1 locs1 hP1 _ hS1 => kk p e s m args below meth c C H1 locs1 a ?_ hS1 hl)
  rw [zk_cl (by decide) (by decide)] at hP1
  have e0 : vf_upd (fun x => UInt64.ofNat (mem 51 0 x).toNat) 0 y = fun x => UInt64.ofNat (mset mem 51 0 0 (y.toNat : Int) 51 0 x).toNat := by
    funext z
    unfold vf_upd mset
    by_cases e : z = 0 <;> simp [e]
  have e1 : (wl G mem).set q0 (ga G (51, 0), Sum.inl (gA G 4, (1, Sum.inr (Sum.inr (Sum.inr (Sum.inl (vf_upd (fun x => UInt64.ofNat (mem 51 0 x).toNat) 0 y))))))) = wl G (mset mem 51 0 0 (y.toNat : Int)) := by
    rw [e0]
    exact wl_set (m' := mset mem 51 0 0 (y.toNat : Int)) hq0 (fun u hu hne => zkE_off (fun k' => mset_off hne k'))
  exact e1 ▸ hP1
end ZMEM
end
section
/-! ends, contracts, calls, throws -/
def zkRm (d mc ms : Nat) : Room := { frames := d, cells := mc, slots := ms, locals := 40 * d + 100 }
/-- how a method ends: a value or none, or an exception's class -/
abbrev zkO : Type := Option zkV ⊕ String
def zkQc (G : zkG) (Q : zkO → zkM → Prop) : Array Value → State → Outcome → State → Prop := fun _ st o t => ∃ (v : Option zkV) (m' : zkM), o = .returned (v.map (tau G)) ∧ Q (Sum.inl v) m' ∧ va_P (gD G) zkCl (wl G m') t.heap ∧ va_F (zkA G st.heap.size) st t
def zkXc (G : zkG) (Q : zkO → zkM → Prop) : String → State → State → Prop := fun E st t => ∃ m' : zkM, Q (Sum.inr E) m' ∧ va_P (gD G) zkCl (wl G m') t.heap ∧ va_F (zkA G st.heap.size) st t
def zkKm (G : zkG) (d mc ms : Nat) (Q : zkO → zkM → Prop) : zkK := (zkRm d mc ms, fun below args s => vx_MQ below (zkQc G Q) (zkXc G Q) args s mc ms (zkA G s.heap.size), fun _ _ => True)
def zkPc (G : zkG) (as : List zkV) (mem : zkM) (sz : Nat) : Array Value → State → Prop := fun a U => a = (as.map (tau G)).toArray ∧ U.heap.size = sz ∧ zkSF G U sz ∧ va_P (gD G) zkCl (wl G mem) U.heap
/-- the word of a method's code -/
def zkHd (i : zkI) : Cond := match iH i with
  | [] => .code (iY i) (iC i) (iL i) (iR i)
  | hh => .codeWith (iY i) (iC i) (iL i) (iR i) hh
/-- a contract -/
def zkCt (l : Launch) (G : zkG) (i : zkI) (d mc ms : Nat) (as : List zkV) (mem : zkM) (Q : zkO → zkM → Prop) : Prop :=
  ∀ sz : Nat, vx_Met l (iY i) (zkHd i :: zkGw) (zkRm d mc ms) (zkPc G as mem sz) (zkQc G Q) (zkXc G Q) mc ms (zkA G sz)
def zkR1 (v : zkV) (f : zkM) : zkO → zkM → Prop := fun o m => o = Sum.inl (some v) ∧ m = f
def zkR0 (f : zkM) : zkO → zkM → Prop := fun o m => o = Sum.inl none ∧ m = f
/-- what is known of the start goes along -/
theorem zkSF_go {G : zkG} {s U : State} {sz : Nat} (hW : s.WarmedH U.vm) (h : zkSF G s sz) (hk : ∀ q : Nat, q < s.heap.size → ¬ zkA G sz q → U.heap[q]? = s.heap[q]?) {sz' : Nat} (hs : sz ≤ sz') : zkSF G U sz' := by
  obtain ⟨h1, h2, h3, h4, h5, h6, h7, h8, h9, h10, h11⟩ := h
  have hA : ∀ q, zkA G sz' q → zkA G sz q := zkA_mono hs
  refine ⟨h1, fun w hw => ?_, va_K.moved hW.alike h3, ((vx_Zq.moved hW.alike h4).kept hk).narrow hA, ((vx_Zq.moved hW.alike h5).kept hk).narrow hA, fun q hq => ?_, fun q hq => vk_R.warm hW (h7 q hq), ((vk_S.moved hW.alike h8).kept hk).narrow hA, ((va_Z.moved hW.alike h9).kept hk).narrow hA, fun a ha b hb hab => va_Nc.moved hW.alike (h10 a ha b hb hab), zkCs_go hW.alike h11⟩
  · have hn := (List.mem_filter.mp hw).2
    have hz := h2 w hw
    cases w <;> first
      | exact va_Nw.warmF hW hz
      | exact va_Nw.warmM hW hz
      | exact va_Nw.warmD hW hz
      | exact absurd hn (by simp [zkNest])
  · obtain ⟨sa, hsa⟩ := h6 q hq
    exact ⟨sa, vk_R.warm hW hsa⟩
theorem zkPc_blind (G : zkG) (as : List zkV) (mem : zkM) (sz : Nat) : FrameBlind (zkPc G as mem sz) := by
  intro a U g mk h
  obtain ⟨h1, h2, h3, h4⟩ := h
  exact ⟨h1, h2, zkSF_go (s := U) (U := U.calling g mk a) (State.WarmedH.refl U) h3 (fun q _ _ => rfl) (Nat.le_refl _), h4⟩
theorem zk_args {vs : List Value} (hc : ∀ v ∈ vs, v.category = 1) : ∀ (n k : Nat) (v : Value), vs[k]? = some v → (n + k, v) ∈ lv_args n vs := by
  induction vs with
  | nil => intro n k v h; simp at h
  | cons w vs ih =>
    intro n k v h
    have hw := hc w List.mem_cons_self
    unfold lv_args
    rw [if_neg (by omega)]
    cases k with
    | zero =>
      rw [List.getElem?_cons_zero] at h
      cases h
      exact List.mem_cons_self
    | succ k =>
      rw [List.getElem?_cons_succ] at h
      refine List.mem_cons_of_mem _ ?_
      have := ih (fun v hv => hc v (List.mem_cons_of_mem _ hv)) (n + 1) k v h
      rw [show n + (k + 1) = n + 1 + k by omega]
      exact this
theorem zk_sl {vs : List Value} (hc : ∀ v ∈ vs, v.category = 1) : (lg_sl vs).length = vs.length := by
  induction vs with
  | nil => rfl
  | cons w vs ih =>
    have hw := hc w List.mem_cons_self
    unfold lg_sl at *
    rw [List.flatMap_cons, List.length_append, if_neg (by omega), ih (fun v hv => hc v (List.mem_cons_of_mem _ hv))]
    simp
    omega
theorem zk_entry {G : zkG} {as : List zkV} {n : Nat} (hc : ∀ v ∈ as, catV v = 1) (hn : as.length ≤ n) : zkLv G ((lg_sl (as.map (tau G)) ++ List.replicate (n - (lg_sl (as.map (tau G))).length) Slot.unset).toArray) n (as.map some ++ List.replicate (n - as.length) none) := by
  have hc' : ∀ v ∈ as.map (tau G), v.category = 1 := by
    intro v hv
    obtain ⟨w, hw, rfl⟩ := List.mem_map.mp hv
    rw [catV_eq]
    exact hc w hw
  have h := lv_entry (as.map (tau G)) (n := n) (by rw [zk_sl hc', List.length_map]; exact hn)
  refine ⟨h.1, h.2.1, fun k v hv => ?_⟩
  by_cases hk : k < as.length
  · rw [List.getElem?_append_left (by rw [List.length_map]; exact hk), List.getElem?_map] at hv
    cases hq : as[k]? with
    | none => rw [hq] at hv; cases hv
    | some w =>
      rw [hq] at hv
      cases hv
      have h3 := zk_args hc' 0 k (tau G v) (by rw [List.getElem?_map, hq]; rfl)
      rw [Nat.zero_add] at h3
      exact h.2.2 _ h3
  · rw [List.getElem?_append_right (by rw [List.length_map]; omega)] at hv
    rw [List.getElem?_replicate] at hv
    split at hv <;> cases hv
/-- a contract out of the walk of its body -/
theorem zkCt_of {l : Launch} {G : zkG} {i : zkI} {d mc ms : Nat} {as : List zkV} {mem : zkM} {Q : zkO → zkM → Prop} (hl : l.stackTraces = false) (hO : zkOk i) (hy : plainName (iY i).cls = true) (hw : (iY i).cls = zkR (iO i)) (hH : iH i = []) (hc : ∀ v ∈ as, catV v = 1) (hn : as.length ≤ iL i)
    (body : zkW l G i (zkKm G d mc ms Q) 0 0 0 (as.map some ++ List.replicate (iL i - as.length) none) [] mem) : zkCt l G i d mc ms as mem Q := by
  intro sz
  have hhd : zkHd i = .code (iY i) (iC i) (iL i) (iR i) := by unfold zkHd; rw [hH]
  rw [hhd]
  refine vx_ofW (cc := iC i) (maxL := iL i) (ret := iR i) hy rfl ?_
  intro p e s m args below meth c s₁ B hml hex hv
  obtain ⟨rfl, rfl, hF, hP⟩ := hv
  have hts := atoms_spec (ws := Cond.code (iY i) (iC i) (iL i) (iR i) :: zkGw) B.pre
  rw [lg_entry_eq]
  refine body p e s m _ below meth c ⟨B.exec, B.bytes, B.returns, hml, ?_, fun w h => hts w (List.mem_cons_of_mem _ h), hF, B.notSynchronized, ?_, hl, hO, trivial⟩ s.heap [] _ hP va_S.rf (zk_entry hc hn)
  · rw [← hw]; exact findClass_of_methodNamed B.named
  · rw [hH]
    cases ht : c.exceptionTable.toList with
    | nil => rfl
    | cons x xs => exact absurd (hex x (by rw [ht]; exact List.mem_cons_self)) id
/-- of a method with handlers -/
theorem zkCt_ofH {l : Launch} {G : zkG} {i : zkI} {d mc ms : Nat} {as : List zkV} {mem : zkM} {Q : zkO → zkM → Prop} (hl : l.stackTraces = false) (hO : zkOk i) (hy : plainName (iY i).cls = true) (hw : (iY i).cls = zkR (iO i)) (hH : iH i ≠ []) (hc : ∀ v ∈ as, catV v = 1) (hn : as.length ≤ iL i)
    (body : zkW l G i (zkKm G d mc ms Q) 0 0 0 (as.map some ++ List.replicate (iL i - as.length) none) [] mem) : zkCt l G i d mc ms as mem Q := by
  intro sz
  have hhd : zkHd i = .codeWith (iY i) (iC i) (iL i) (iR i) (iH i) := by
    unfold zkHd
    split
    · next h => exact absurd h hH
    · rfl
  rw [hhd]
  refine vx_ofWH (cc := iC i) (maxL := iL i) (ret := iR i) (hh := iH i) hy rfl ?_
  intro p e s m args below meth c s₁ B hml hv
  obtain ⟨rfl, rfl, hF, hP⟩ := hv
  have hts := atoms_spec (ws := Cond.codeWith (iY i) (iC i) (iL i) (iR i) (iH i) :: zkGw) B.pre
  rw [lg_entry_eq]
  refine body p e s m _ below meth c ⟨B.exec, B.bytes, B.returns, hml, ?_, fun w h => hts w (List.mem_cons_of_mem _ h), hF, B.notSynchronized, ?_, hl, hO, trivial⟩ s.heap [] _ hP va_S.rf (zk_entry hc hn)
  · rw [← hw]; exact findClass_of_methodNamed B.named
  · exact vx_table (x := iY i) B (hts _ List.mem_cons_self)
section ZENDS
variable {l : Launch} {G : zkG} {i : zkI} {d mc ms cu su pc nx : Nat} {ls : List (Option zkV)} {mem : zkM} {Q : zkO → zkM → Prop}
theorem zk_qc {s t : State} {H : Heap} {locs : List Loc} {v : Option zkV} {a : Array Value} (hq : Q (Sum.inl v) mem) (hP : va_P (gD G) zkCl (wl G mem) H) (hS : va_S (zkA G s.heap.size) s.heap H locs) (ht : t.heap = H) : zkQc G Q a s (.returned (v.map (tau G))) t :=
  ⟨v, mem, rfl, hq, by rw [ht]; exact hP, hS.F ht⟩
theorem m_iret {x : Int} (hd : (iT i).lookup pc = some (.ireturn, nx)) (hn : nx = pc + 1) (hr : iR i = some .int) (hc : cu ≤ mc) (hs : su ≤ ms) (hq : Q (Sum.inl (some (vi x))) mem) : zkW l G i (zkKm G d mc ms Q) cu su pc ls [vi x] mem := by
  intro p e s m args below meth c C H locs a hP hS hl
  subst hn
  refine W.widen (k := mc) (n := ms) hc hs ?_
  exact vx_ret (W.iret (v := Int32.ofInt x) C.1 C.2.1 (C.2.2.1.trans hr) (fun t ht _ => zk_qc hq hP hS ht) hS.2.2 (zkC_dec C hd rfl) C.2.2.2.2.2.2.2.1)
theorem m_zret {b : Bool} (hd : (iT i).lookup pc = some (.ireturn, nx)) (hn : nx = pc + 1) (hr : iR i = some .boolean) (hc : cu ≤ mc) (hs : su ≤ ms) (hq : Q (Sum.inl (some (vi (b2i b)))) mem) : zkW l G i (zkKm G d mc ms Q) cu su pc ls [vi (b2i b)] mem := by
  intro p e s m args below meth c C H locs a hP hS hl
  subst hn
  refine W.widen (k := mc) (n := ms) hc hs ?_
  exact vx_ret (W.zret (v := Int32.ofInt (b2i b)) C.1 C.2.1 (C.2.2.1.trans hr) (zk_nb b).1 (fun t ht _ => zk_qc hq hP hS ht) hS.2.2 (zkC_dec C hd rfl) C.2.2.2.2.2.2.2.1)
theorem m_z1 (hd : (iT i).lookup pc = some (.ireturn, nx)) (hn : nx = pc + 1) (hr : iR i = some .boolean) (hc : cu ≤ mc) (hs : su ≤ ms) (hq : Q (Sum.inl (some (vi (b2i true)))) mem) : zkW l G i (zkKm G d mc ms Q) cu su pc ls [vi 1] mem := m_zret (b := true) hd hn hr hc hs hq
theorem m_z0 (hd : (iT i).lookup pc = some (.ireturn, nx)) (hn : nx = pc + 1) (hr : iR i = some .boolean) (hc : cu ≤ mc) (hs : su ≤ ms) (hq : Q (Sum.inl (some (vi (b2i false)))) mem) : zkW l G i (zkKm G d mc ms Q) cu su pc ls [vi 0] mem := m_zret (b := false) hd hn hr hc hs hq
theorem m_dret {x : UInt64} (hd : (iT i).lookup pc = some (.dreturn, nx)) (hn : nx = pc + 1) (hr : iR i = some .double) (hc : cu ≤ mc) (hs : su ≤ ms) (hq : Q (Sum.inl (some (vd x))) mem) : zkW l G i (zkKm G d mc ms Q) cu su pc ls [vd x] mem := by
  intro p e s m args below meth c C H locs a hP hS hl
  subst hn
  refine W.widen (k := mc) (n := ms) hc hs ?_
  exact vx_ret (W.dret (v := x) C.1 C.2.1 (C.2.2.1.trans hr) (fun t ht _ => zk_qc hq hP hS ht) hS.2.2 (zkC_dec C hd rfl) C.2.2.2.2.2.2.2.1)
theorem m_fret {x : UInt32} (hd : (iT i).lookup pc = some (.freturn, nx)) (hn : nx = pc + 1) (hr : iR i = some .float) (hc : cu ≤ mc) (hs : su ≤ ms) (hq : Q (Sum.inl (some (vf x))) mem) : zkW l G i (zkKm G d mc ms Q) cu su pc ls [vf x] mem := by
  intro p e s m args below meth c C H locs a hP hS hl
  subst hn
  refine W.widen (k := mc) (n := ms) hc hs ?_
  exact vx_ret (W.fret (v := x) C.1 C.2.1 (C.2.2.1.trans hr) (fun t ht _ => zk_qc hq hP hS ht) hS.2.2 (zkC_dec C hd rfl) C.2.2.2.2.2.2.2.1)
theorem m_aret {t j : Nat} {R0 : String} (hd : (iT i).lookup pc = some (.areturn, nx)) (hn : nx = pc + 1) (hr : iR i = some (.object R0)) (hc : cu ≤ mc) (hs : su ≤ ms) (hq : Q (Sum.inl (some (vr t j))) mem) : zkW l G i (zkKm G d mc ms Q) cu su pc ls [vr t j] mem := by
  intro p e s m args below meth c C H locs a hP hS hl
  subst hn
  refine W.widen (k := mc) (n := ms) hc hs ?_
  exact vx_ret (W.aret (v := .ref (ga G (t, j))) C.1 C.2.1 (C.2.2.1.trans hr) (Or.inl ⟨_, rfl⟩) (Or.inr ⟨_, rfl⟩) (fun t ht _ => zk_qc (v := some (vr _ _)) hq hP hS ht) hS.2.2 (zkC_dec C hd rfl) C.2.2.2.2.2.2.2.1)
theorem m_vret (hd : (iT i).lookup pc = some (.return_, nx)) (hn : nx = pc + 1) (hr : iR i = none) (hc : cu ≤ mc) (hs : su ≤ ms) (hq : Q (Sum.inl none) mem) : zkW l G i (zkKm G d mc ms Q) cu su pc ls [] mem := by
  intro p e s m args below meth c C H locs a hP hS hl
  subst hn
  refine W.widen (k := mc) (n := ms) hc hs ?_
  exact vx_ret (W.vret C.1 C.2.1 (C.2.2.1.trans hr) (fun t ht _ => zk_qc (v := none) hq hP hS ht) hS.2.2 (zkC_dec C hd rfl) C.2.2.2.2.2.2.2.1)
end ZENDS
end
section
/-! calls -/
/-- an exception stands over the method -/
def zkX (l : Launch) (G : zkG) (i : zkI) (K : zkK) (cu su pc : Nat) (ls : List (Option zkV)) (E : String) (mem : zkM) : Prop :=
  ∀ (p : Program) (e : Env) (s : State) (m : MethodId) (args : Array Value) (below : List Frame) (meth : Method) (c : Code), zkC l G i K p s m args meth c → ∀ (H : Heap) (locs : List Loc) (a : Array Slot) (q : Addr) (ce : Cell) (rest : List Value), va_P (gD G) zkCl (wl G mem) H → va_S (zkA G s.heap.size) s.heap H locs → zkLv G a (iL i) ls → H[q]? = some ce → ce.vm = .none → s.vm.findClass E = some ce.cls →
    vx_W p l e K.1 s m args below meth c H locs cu su (K.2.1 below args s) (F0 m pc a rest) q
/-- how a call is linked -/
def zkLk (o idx : Nat) (ci : zkI) (st ne : Bool) (n : Nat) : Prop :=
  (if ne then Cond.methodLinkNest (zkR o) idx (iY ci) RX7 ∈ zkNw else Cond.methodLink (zkR o) idx (iY ci) ∈ zkGw) ∧ zkHd ci ∈ zkGw ∧ Cond.initialized (iY ci).cls ∈ zkGw ∧
  (if st then Cond.static (iY ci) ∈ zkGw else Cond.instanceMethod (iY ci) ∈ zkGw ∧ Cond.selects (iY ci).cls (iY ci) (iY ci) ∈ zkGw) ∧
  ((iY ci).cls ≠ "java/lang/invoke/MethodHandle" ∧ (iY ci).cls ≠ "java/lang/invoke/VarHandle") ∧ (parseMethodDescriptor (iY ci).desc).map (fun d => d.parameters.length) = some n ∧ (iY ci).cls = zkR (iO ci)
section ZCALL
variable {l : Launch} {G : zkG} {i ci : zkI} {K : zkK} {cu su pc nx : Nat} {ls : List (Option zkV)} {st : List zkV} {mem : zkM}
theorem zk_named {args : Array Value} {s : State} (h : (zkHd ci).before args s = true) : ∃ (mk : MethodId) (methM : Method), s.methodNamed? (iY ci) = some mk ∧ s.vm.method? mk = some methM ∧ parseMethodDescriptor (iY ci).desc = some methM.sig := by
  unfold zkHd at h
  split at h
  · obtain ⟨mk, hnamed⟩ := Cond.code_named h
    obtain ⟨methM, cM, hmethM, -, -, -, -, -, -, hsigM⟩ := Cond.code_spec hnamed h
    exact ⟨mk, methM, hnamed, hmethM, hsigM⟩
  · obtain ⟨mk, methM, cM, hnamed, hmethM, -, -, -, -, -, -, hsigM⟩ := Cond.codeWith_spec h
    exact ⟨mk, methM, hnamed, hmethM, hsigM⟩
theorem zk_back {R : Room} {p : Program} {e : Env} {below : List Frame} {s : State} {args : Array Value} {d mc ms sz : Nat} {as : List zkV} {Q : zkO → zkM → Prop} (hM : vx_Met l (iY ci) (zkHd ci :: zkGw) (zkRm d mc ms) (zkPc G as mem sz) (zkQc G Q) (zkXc G Q) mc ms (zkA G sz)) (hf : d + 1 ≤ R.frames) (hlo : 40 * d + 119 + iL ci ≤ R.locals) (hts : ∀ w ∈ zkGw, w.before args s = true) (hh : zkHd ci ∈ zkGw) (hini : Cond.initialized (iY ci).cls ∈ zkGw) :
    vx_Back l R p e below s args (iY ci) 3 8 (PreOf R mc ms (zkPc G as mem sz)) (PostOf (zkQc G Q) mc ms (zkA G sz)) (vx_Post (zkXc G Q) mc ms (zkA G sz)) := by
  have hws : ∀ w ∈ zkHd ci :: zkGw, ∀ (a' : Array Value) (U : State), s.WarmedH U.vm → w.before a' U = true := fun w hw => pay_in hts zkGw_good w (by rcases List.mem_cons.mp hw with rfl | h; exact hh; exact h)
  have hin2 : ∀ (a' : Array Value) (U : State), s.WarmedH U.vm → (Cond.initialized (iY ci).cls).before a' U = true := fun a' U hW => pay_in hts zkGw_good _ hini a' U hW
  have hloc : 8 + (iL ci + 11) + (zkRm d mc ms).locals ≤ R.locals := by show 8 + (iL ci + 11) + (40 * d + 100) ≤ R.locals; omega
  by_cases h : iH ci = []
  · have hhd : zkHd ci = .code (iY ci) (iC ci) (iL ci) (iR ci) := by unfold zkHd; rw [h]
    exact vx_back (bytes := iC ci) (maxL := iL ci) (ret := iR ci) hM (zkPc_blind G as mem sz) rfl rfl hf hloc hws (by rw [hhd]; exact List.mem_cons_self) hin2
  · have hhd : zkHd ci = .codeWith (iY ci) (iC ci) (iL ci) (iR ci) (iH ci) := by
      unfold zkHd
      split
      · next h2 => exact absurd h2 h
      · rfl
    exact vx_backW (bytes := iC ci) (maxL := iL ci) (ret := iR ci) (hh := iH ci) hM (zkPc_blind G as mem sz) rfl rfl hf hloc hws (by rw [hhd]; exact List.mem_cons_self) hin2
theorem zk_tau_rev (as : List zkV) (st : List zkV) : (as.reverse ++ st).map (tau G) = (as.map (tau G)).reverse ++ st.map (tau G) := by rw [List.map_append, List.map_reverse]
/-- behind a call: the rest of the walk -/
theorem zk_behind {p : Program} {e : Env} {s : State} {m : MethodId} {args : Array Value} {below : List Frame} {meth : Method} {c : Code} {H : Heap} {locs : List Loc} {a : Array Slot} {mc ms : Nat} {as : List zkV} {Q : zkO → zkM → Prop} {T : State} {vs : Array Value} {g : JFrame} {vm₁ : Vm}
    (C : zkC l G i K p s m args meth c) (hS : va_S (zkA G s.heap.size) s.heap H locs) (hl : zkLv G a (iL i) ls) (hT : T.heap = H) (hg : g = F0 m pc a ((as.reverse ++ st).map (tau G)))
    (kr : ∀ (v : Option zkV) (m' : zkM), Q (Sum.inl v) m' → zkW l G i K (cu + mc) (su + ms) (pc + 3) ls (v.toList ++ st) m')
    (kx : ∀ (E : String) (m' : zkM), Q (Sum.inr E) m' → zkX l G i K (cu + mc) (su + ms) pc ls E m')
    (hr : (∃ (v : Option Value) (B : Pt), Stand p l e K.1 s m args below meth c B.U B.locs B.cells B.slots ∧ PostOf (zkQc G Q) mc ms (zkA G H.size) ⟨T.setVm vm₁, locs, cu, su⟩ vs v B ∧ ∀ target, Steps p.tables e below (B.U.setTop { g with pc := g.pc + 3, stack := v.toList ++ st.map (tau G) }) target → Steps p.tables e below (T.setTop g) target) ∨
      (∃ (q : Addr) (B : Pt), s.WarmedH vm₁ ∧ Stand p l e K.1 s m args below meth c B.U B.locs B.cells B.slots ∧ vx_Post (zkXc G Q) mc ms (zkA G H.size) ⟨T.setVm vm₁, locs, cu, su⟩ vs q B ∧ Steps p.tables e below (T.setTop g) ((B.U.setTop { g with stack := st.map (tau G) }).pushFrame (.throwing q)))) :
    ∃ t, Steps p.tables e below (T.setTop g) t ∧ K.2.1 below args s t := by
  subst hg
  rcases hr with ⟨v, ⟨U', l2, c2, s2⟩, X', ⟨g', mk, t, L, e1, e2, ⟨v', m', hv, hq, hP', hF⟩, h1, hL, h2, h3⟩, st1⟩ | ⟨q, ⟨U', l2, c2, s2⟩, hW1, X', ⟨g', mk, t, L, E, ce, e1, e2, ⟨m', hq, hP', hF⟩, hce, hcv, hcl, h1, hL, h2, h3⟩, st1⟩
  · dsimp only [Pt.U, Pt.locs, Pt.cells, Pt.slots] at X' e1 e2 h1 h2 h3 st1
    subst h1; subst h2; subst h3
    cases hv
    obtain ⟨k1, k2, k3⟩ := vx_keep (A0 := zkA G s.heap.size) (A1 := zkA G H.size) (free := zkA G H.size) (st₀ := (T.setVm vm₁).calling g' mk vs) (t := t) (T' := U') hT e1 hS (fun q _ h => zkA_mono hS.1 q h) (fun q h => zkA_mono hS.1 q h) hL (by
      have h9 : ((T.setVm vm₁).calling g' mk vs).heap.size = H.size := by rw [← hT]; rfl
      rw [h9] at hF
      exact hF)
    obtain ⟨t2, a1, b1⟩ := kr v' m' hq p e s m args below meth c C U'.heap (locs ++ L) a (by rw [e1]; exact hP') k3 hl U' rfl X'
    refine ⟨t2, st1 t2 ?_, b1⟩
    have e9 : (v'.map (tau G)).toList ++ st.map (tau G) = (v'.toList ++ st).map (tau G) := by cases v' <;> rfl
    rw [e9]
    exact a1
  · dsimp only [Pt.U, Pt.locs, Pt.cells, Pt.slots] at X' e1 e2 h1 h2 h3 st1 hcl
    subst h1; subst h2; subst h3
    obtain ⟨k1, k2, k3⟩ := vx_keep (A0 := zkA G s.heap.size) (A1 := zkA G H.size) (free := zkA G H.size) (st₀ := (T.setVm vm₁).calling g' mk vs) (t := t) (T' := U') hT e1 hS (fun q _ h => zkA_mono hS.1 q h) (fun q h => zkA_mono hS.1 q h) hL (by
      have h9 : ((T.setVm vm₁).calling g' mk vs).heap.size = H.size := by rw [← hT]; rfl
      rw [h9] at hF
      exact hF)
    obtain ⟨t2, a1, b1⟩ := kx E m' hq p e s m args below meth c C U'.heap (locs ++ L) a q ce (st.map (tau G)) (by rw [e1]; exact hP') k3 hl (by rw [e1]; exact hce) hcv (vx_cls hW1 hcl) U' rfl X'
    exact ⟨t2, st1.trans a1, b1⟩
theorem zk_wsum (st : List zkV) : ((st.map (tau G)).map fun v => v.category).sum = (st.map catV).sum := by
  rw [List.map_map]
  congr 1
  exact List.map_congr_left (fun v _ => catV_eq G v)
theorem zk_pre {s U : State} {H : Heap} {locs : List Loc} {as : List zkV} (hF : zkSF G s s.heap.size) (hP : va_P (gD G) zkCl (wl G mem) H) (hS : va_S (zkA G s.heap.size) s.heap H locs) (hU : U.heap = H) (hW : s.WarmedH U.vm) : zkPc G as mem H.size (as.map (tau G)).toArray U := by
  refine ⟨rfl, by rw [hU], zkSF_go hW hF (fun q h1 h2 => by rw [hU]; exact hS.2.1 q h1 h2) hS.1, by rw [hU]; exact hP⟩
/-- a static call -/
theorem m_callS {idx d mc ms n : Nat} {ne : Bool} {as stk : List zkV} {Q : zkO → zkM → Prop} (hd : (iT i).lookup pc = some (.invokestatic idx, nx)) (hn : nx = pc + 3) (hk : zkLk (iO i) idx ci true ne n) (hc : zkCt l G ci d mc ms as mem Q) (hst : stk = as.reverse ++ st) (ha : as.length = n) (hw : (st.map catV).sum ≤ 8) (hf : d + 1 ≤ K.1.frames) (hlo : 40 * d + 119 + iL ci ≤ K.1.locals) (h1 : cu + mc ≤ K.1.cells) (h2 : su + ms ≤ K.1.slots)
    (kr : ∀ (v : Option zkV) (m' : zkM), Q (Sum.inl v) m' → zkW l G i K (cu + mc) (su + ms) nx ls (v.toList ++ st) m') (kx : ∀ (E : String) (m' : zkM), Q (Sum.inr E) m' → zkX l G i K (cu + mc) (su + ms) pc ls E m') : zkW l G i K cu su pc ls stk mem := by
  intro p e s m args below meth c C H locs a hP hS hl T hT X
  subst hn
  subst hst
  obtain ⟨k1, k2, k3, k4, k5, k6, k7⟩ := hk
  rw [if_pos rfl] at k4
  obtain ⟨hx, hb, hr0, hml, hown, hts, hF, -⟩ := id C
  obtain ⟨mk, methM, hnamed, hmethM, hsigM⟩ := zk_named (hts _ k2)
  have hstatic : methM.isStatic = true := Cond.static_spec hnamed hmethM (hts _ k4)
  obtain ⟨kP, hkP, -⟩ := className_of_methodNamed hnamed
  have hinitP : kP.init = .initialized := Cond.initialized_spec (findClass_of_methodNamed hnamed) hkP (hts _ k3)
  have hlen : (as.map (tau G)).length = methM.sig.parameters.length := by
    rw [hsigM] at k6
    rw [List.length_map, ha]
    exact (Option.some.inj k6).symm
  have hdec : decode c.code pc = .ok (.invokestatic idx, 3) := by rw [hb]; exact zkC_dec C hd rfl
  have hstep : ∃ vm₁, Stand p l e K.1 s m args below meth c (T.setVm vm₁) locs cu su ∧ ∀ target, (∀ acts, Steps p.tables e below (doInvoke e ((T.setVm vm₁).setTop { (F0 m pc a ((as.reverse ++ st).map (tau G))) with stack := st.map (tau G) }) acts mk (as.map (tau G)).toArray).1 target) → Steps p.tables e below (T.setTop (F0 m pc a ((as.reverse ++ st).map (tau G)))) target := by
    cases ne with
    | true => exact X.invokestaticNest hx hown (va_Nw.use rfl (hF.2.1 _ k1)) hnamed hmethM hstatic hkP hinitP k5 (g := F0 m pc a ((as.reverse ++ st).map (tau G))) rfl hlen (zk_tau_rev as st) hdec
    | false => exact X.invokestatic hx hown (hts _ k1) hnamed hmethM hstatic hkP hinitP k5 (g := F0 m pc a ((as.reverse ++ st).map (tau G))) rfl hlen (zk_tau_rev as st) hdec
  obtain ⟨vm₁, X₁, hstep₁⟩ := hstep
  have hK := zk_back (p := p) (e := e) (below := below) (hc H.size) hf hlo hts k2 k3
  have hwt : 2 * (F0 m pc a (st.map (tau G))).monitorRoom + ((st.map (tau G)).map fun v => v.category).sum ≤ 8 := lv_room (by rw [zk_wsum]; exact hw)
  have hB := hK m meth c ⟨T.setVm vm₁, locs, cu, su⟩ (F0 m pc a (st.map (tau G))) (.invokestatic idx) mk (as.map (tau G)).toArray X₁ rfl (hl.1.trans hml.symm) hdec hwt (X₁.named hnamed) ⟨h1, h2, zk_pre hF hP hS hT X₁.warmed⟩
  refine zk_behind C hS hl hT rfl kr kx (vm₁ := vm₁) (vs := (as.map (tau G)).toArray) ?_
  rcases hB with ⟨v, B, X', hpost, hsteps⟩ | ⟨q, B, X', hpost, hsteps⟩
  · exact Or.inl ⟨v, B, X', hpost, fun target h => hstep₁ _ fun acts => by rw [doInvoke_state]; exact hsteps.trans h⟩
  · exact Or.inr ⟨q, B, X₁.warmed, X', hpost, hstep₁ _ fun acts => by rw [doInvoke_state]; exact hsteps⟩
/-- a call of an object's method -/
theorem m_callV {idx d mc ms n t j : Nat} {ne : Bool} {as stk : List zkV} {Q : zkO → zkM → Prop} (hd : (iT i).lookup pc = some (.invokevirtual idx, nx)) (hn : nx = pc + 3) (hk : zkLk (iO i) idx ci false ne n) (hc : zkCt l G ci d mc ms (vr t j :: as) mem Q) (hst : stk = as.reverse ++ vr t j :: st) (hj : j < cnt t) (ht : t < 8) (ho : iO ci = t) (ha : as.length = n) (hw : (st.map catV).sum ≤ 8) (hf : d + 1 ≤ K.1.frames) (hlo : 40 * d + 119 + iL ci ≤ K.1.locals) (h1 : cu + mc ≤ K.1.cells) (h2 : su + ms ≤ K.1.slots)
    (kr : ∀ (v : Option zkV) (m' : zkM), Q (Sum.inl v) m' → zkW l G i K (cu + mc) (su + ms) nx ls (v.toList ++ st) m') (kx : ∀ (E : String) (m' : zkM), Q (Sum.inr E) m' → zkX l G i K (cu + mc) (su + ms) pc ls E m') : zkW l G i K cu su pc ls stk mem := by
  intro p e s m args below meth c C H locs a hP hS hl T hT X
  subst hn
  have hst2 : stk = (vr t j :: as).reverse ++ st := by rw [hst, List.reverse_cons, List.append_assoc]; rfl
  clear hst
  subst hst2
  obtain ⟨k1, k2, k3, k4, k5, k6, k7⟩ := hk
  rw [if_neg (by decide)] at k4
  obtain ⟨hx, hb, hr0, hml, hown, hts, hF, -⟩ := id C
  obtain ⟨mk, methM, hnamed, hmethM, hsigM⟩ := zk_named (hts _ k2)
  obtain ⟨mk', methM', hnamed', hmethM', hstM, habM⟩ := Cond.instanceMethod_spec (hts _ k4.1)
  cases hnamed.symm.trans hnamed'
  cases hmethM.symm.trans hmethM'
  -- the receiver
  obtain ⟨q0, -, he⟩ := wl_at G mem hj
  rw [zkE_obj ht] at he
  obtain ⟨r9, hr1, cell, q1, q2, q3, -⟩ := hP q0 _ he
  have hr9 : r9 = (zkR t, zkT t, nfl t) := Option.some.inj (hr1.symm.trans (zkCl_at ht))
  subst hr9
  have hclsB : s.vm.findClass (iY ci).cls = some cell.cls := by
    rw [k7, ho, q2]
    exact (hF.2.2.1.1 t _ (zkCl_at ht)).2.1
  obtain ⟨c2, r2, m2, p1, p2, p3, p4, kP, hkP, hkPi⟩ := Cond.selects_spec (hts _ k4.2)
  cases hclsB.symm.trans p1
  cases (State.methodFound?_of_named hnamed k5).symm.trans p2
  cases hnamed.symm.trans p3
  have hselP : selectMethod e.platform s.vm cell.cls mk = .method mk := by rw [Launch.admits_selectMethod X.admits]; exact p4
  have hlen : (as.map (tau G)).length = methM.sig.parameters.length := by
    rw [hsigM] at k6
    rw [List.length_map, ha]
    exact (Option.some.inj k6).symm
  have hdec : decode c.code pc = .ok (.invokevirtual idx, 3) := by rw [hb]; exact zkC_dec C hd rfl
  have hstk : ((vr t j :: as).reverse ++ st).map (tau G) = (as.map (tau G)).reverse ++ .ref (ga G (t, j)) :: st.map (tau G) := by
    rw [List.reverse_cons, List.append_assoc, zk_tau_rev]
    rfl
  have hobj : ∀ z, cell.vm ≠ .statics z := fun z h => by rw [q3] at h; cases h
  have hstep : ∃ vm₁, Stand p l e K.1 s m args below meth c (T.setVm vm₁) locs cu su ∧ ∀ target, (∀ acts, Steps p.tables e below (doInvoke e ((T.setVm vm₁).setTop { (F0 m pc a (((vr t j :: as).reverse ++ st).map (tau G))) with stack := st.map (tau G) }) acts mk ((vr t j :: as).map (tau G)).toArray).1 target) → Steps p.tables e below (T.setTop (F0 m pc a (((vr t j :: as).reverse ++ st).map (tau G)))) target := by
    cases ne with
    | true => exact X.invokevirtualNest hx hown (va_Nw.use rfl (hF.2.1 _ k1)) hnamed hmethM hstM hkP hkPi k5 (a := ga G (t, j)) (cell := cell) (by rw [hT]; exact q1) hobj hselP hmethM habM hkP hkPi (g := F0 m pc a (((vr t j :: as).reverse ++ st).map (tau G))) rfl hlen hstk hdec
    | false => exact X.invokevirtual hx hown (hts _ k1) hnamed hmethM hstM hkP hkPi k5 (a := ga G (t, j)) (cell := cell) (by rw [hT]; exact q1) hobj hselP hmethM habM hkP hkPi (g := F0 m pc a (((vr t j :: as).reverse ++ st).map (tau G))) rfl hlen hstk hdec
  obtain ⟨vm₁, X₁, hstep₁⟩ := hstep
  have hK := zk_back (p := p) (e := e) (below := below) (hc H.size) hf hlo hts k2 k3
  have hwt : 2 * (F0 m pc a (st.map (tau G))).monitorRoom + ((st.map (tau G)).map fun v => v.category).sum ≤ 8 := lv_room (by rw [zk_wsum]; exact hw)
  have hB := hK m meth c ⟨T.setVm vm₁, locs, cu, su⟩ (F0 m pc a (st.map (tau G))) (.invokevirtual idx) mk ((vr t j :: as).map (tau G)).toArray X₁ rfl (hl.1.trans hml.symm) hdec hwt (X₁.named hnamed) ⟨h1, h2, zk_pre hF hP hS hT X₁.warmed⟩
  refine zk_behind C hS hl hT rfl kr kx (vm₁ := vm₁) (vs := ((vr t j :: as).map (tau G)).toArray) ?_
  rcases hB with ⟨v, B, X', hpost, hsteps⟩ | ⟨q, B, X', hpost, hsteps⟩
  · exact Or.inl ⟨v, B, X', hpost, fun target h => hstep₁ _ fun acts => by rw [doInvoke_state]; exact hsteps.trans h⟩
  · exact Or.inr ⟨q, B, X₁.warmed, X', hpost, hstep₁ _ fun acts => by rw [doInvoke_state]; exact hsteps⟩
end ZCALL
end
section
/-! throws and catches; Math.max, Math.min; System.arraycopy -/
/-- the exceptions that the class throws: name, the link of the class, the link of its constructor -/
def zkEt : List (String × Nat × Nat) := [("java/lang/IndexOutOfBoundsException", 161, 165), ("java/lang/IllegalArgumentException", 60, 64), ("java/lang/IllegalStateException", 71, 75), ("java/lang/UnsupportedOperationException", 255, 259), ("java/lang/ArithmeticException", 195, 199)]
abbrev zkSup : List String := ["java/lang/RuntimeException", "java/lang/Exception"]
def zkIn (w : Cond) : Bool := decide (w ∈ lw_tbl) && goodWord w
theorem zkIn_use {w : Cond} (h : zkIn w = true) : w ∈ zkGw := by
  simp only [zkIn, Bool.and_eq_true, decide_eq_true_eq] at h
  exact List.mem_filter.mpr h
def zkDc : List Cond := [.declares ⟨"java/lang/RuntimeException", "<init>", "(Ljava/lang/String;)V"⟩, .declares ⟨"java/lang/Exception", "<init>", "(Ljava/lang/String;)V"⟩, .declares ⟨"java/lang/Throwable", "<init>", "(Ljava/lang/String;)V"⟩]
theorem zkDc_in : ∀ w ∈ zkDc, w ∈ lw_tbl := by decide +kernel
theorem zkDc_nw {w : Cond} (h : w ∈ zkDc) : w ∈ zkNw := List.mem_filter.mpr ⟨zkDc_in w h, by rcases List.mem_cons.mp h with rfl | h; rfl; rcases List.mem_cons.mp h with rfl | h; rfl; rcases List.mem_cons.mp h with rfl | h; rfl; cases h⟩
def zkEq (E : String) (ik ic : Nat) : Prop := zkIn (.classLink RX7 ik E) = true ∧ zkIn (.initialized E) = true ∧ Bundle.fit E = true ∧ E ∈ zkEx ∧ vx_ot (.classLink RX7 ik E) = true ∧ vx_ot (.initialized E) = true ∧ (vx_atS RX7 ic E zkSup).all vx_ot = true ∧ (∀ w ∈ (vx_atS RX7 ic E zkSup).filter goodWord, w ∈ lw_tbl) ∧ (∀ w ∈ (vx_atS RX7 ic E zkSup).filter (fun w => !goodWord w), w ∈ Cond.castable E E :: zkDc)
theorem zkEq_0 : zkEq "java/lang/IndexOutOfBoundsException" 161 165 := ⟨by decide +kernel, by decide +kernel, by decide +kernel, by decide +kernel, by decide +kernel, by decide +kernel, by decide +kernel, by decide +kernel, by decide +kernel⟩
theorem zkEq_1 : zkEq "java/lang/IllegalArgumentException" 60 64 := ⟨by decide +kernel, by decide +kernel, by decide +kernel, by decide +kernel, by decide +kernel, by decide +kernel, by decide +kernel, by decide +kernel, by decide +kernel⟩
theorem zkEq_2 : zkEq "java/lang/IllegalStateException" 71 75 := ⟨by decide +kernel, by decide +kernel, by decide +kernel, by decide +kernel, by decide +kernel, by decide +kernel, by decide +kernel, by decide +kernel, by decide +kernel⟩
theorem zkEq_3 : zkEq "java/lang/UnsupportedOperationException" 255 259 := ⟨by decide +kernel, by decide +kernel, by decide +kernel, by decide +kernel, by decide +kernel, by decide +kernel, by decide +kernel, by decide +kernel, by decide +kernel⟩
theorem zkEq_5 : zkEq "java/lang/ArithmeticException" 195 199 := ⟨by decide +kernel, by decide +kernel, by decide +kernel, by decide +kernel, by decide +kernel, by decide +kernel, by decide +kernel, by decide +kernel, by decide +kernel⟩
theorem zkEt_ok : ∀ q ∈ zkEt, zkEq q.1 q.2.1 q.2.2 := List.forall_mem_cons.mpr ⟨zkEq_0, List.forall_mem_cons.mpr ⟨zkEq_1, List.forall_mem_cons.mpr ⟨zkEq_2, List.forall_mem_cons.mpr ⟨zkEq_3, List.forall_mem_cons.mpr ⟨zkEq_5, fun _ h => nomatch h⟩⟩⟩⟩⟩
theorem zkSup_ok : ∀ n ∈ zkSup, Bundle.fit n = true := by decide +kernel
section ZTHROW
variable {l : Launch} {G : zkG} {i : zkI} {d mc ms cu su pc : Nat} {ls : List (Option zkV)} {st : List zkV} {mem : zkM} {Q : zkO → zkM → Prop}
theorem zk_xc {s t : State} {H : Heap} {locs : List Loc} {E : String} (hq : Q (Sum.inr E) mem) (hP : va_P (gD G) zkCl (wl G mem) H) (hS : va_S (zkA G s.heap.size) s.heap H locs) (h1 : H.size ≤ t.heap.size) (h2 : ∀ q : Nat, q < H.size → t.heap[q]? = H[q]?) : zkXc G Q E s t := by
  refine ⟨mem, hq, hP.kept (fun k q hk => h2 q.1 (hP k q hk).lt), Nat.le_trans hS.1 h1, fun q hq1 hq2 => ?_⟩
  rw [h2 q (Nat.lt_of_lt_of_le hq1 hS.1)]
  exact hS.2.1 q hq1 hq2
theorem zk_thr {E : String} {ik ic : Nat} (hE : (E, ik, ic) ∈ zkEt) {args : Array Value} {s : State} (hts : ∀ w ∈ zkGw, w.before args s = true) (hN : ∀ w ∈ zkNw, va_Nw w s) (hc : zkCs s) : Bundle.fit E = true ∧ (Cond.classLink RX7 ik E).before args s = true ∧ (Cond.initialized E).before args s = true ∧ (∀ w ∈ vx_atS RX7 ic E zkSup, w.before args s = true) ∧ ∀ w ∈ Cond.classLink RX7 ik E :: Cond.initialized E :: vx_atS RX7 ic E zkSup, vx_ot w = true := by
  obtain ⟨a1, a2, a3, a4, a5, a6, a7, a8, a9⟩ := zkEt_ok _ hE
  refine ⟨a3, hts _ (zkIn_use a1), hts _ (zkIn_use a2), fun w hw => ?_, fun w hw => ?_⟩
  · by_cases hg : goodWord w = true
    · exact hts _ (List.mem_filter.mpr ⟨a8 w (List.mem_filter.mpr ⟨hw, hg⟩), hg⟩)
    · have h9 := a9 w (List.mem_filter.mpr ⟨hw, by simp only [hg, Bool.not_eq_true', Bool.not_false]⟩)
      rcases List.mem_cons.mp h9 with rfl | h9
      · exact zkCs_use hc a4 args
      · have h10 := zkDc_nw h9
        have h11 := hN w h10
        rcases List.mem_cons.mp h9 with rfl | h9
        · exact va_Nw.use rfl h11
        · rcases List.mem_cons.mp h9 with rfl | h9
          · exact va_Nw.use rfl h11
          · rcases List.mem_cons.mp h9 with rfl | h9
            · exact va_Nw.use rfl h11
            · cases h9
  · rcases List.mem_cons.mp hw with rfl | hw
    · exact a5
    · rcases List.mem_cons.mp hw with rfl | hw
      · exact a6
      · exact List.all_eq_true.mp a7 w hw
theorem m_throw {E text : String} {ik is ic n0 n3 n4 n6 n9 : Nat} (h0 : (iT i).lookup pc = some (.new ik, n0)) (e0 : n0 = pc + 3) (h3 : (iT i).lookup n0 = some (.dup, n3)) (e3 : n3 = n0 + 1) (h4 : (iT i).lookup n3 = some (.ldc is, n4)) (e4 : n4 = n3 + 2) (h6 : (iT i).lookup n4 = some (.invokespecial ic, n6)) (e6 : n6 = n4 + 3) (h9 : (iT i).lookup n6 = some (.athrow, n9)) (e9 : n9 = n6 + 1)
    (hO : iO i = 6) (hH : iH i = []) (hE : (E, ik, ic) ∈ zkEt) (hs : (RX7, is, text) ∈ zkSc) (hd : 6 ≤ d) (hw : (st.map catV).sum ≤ 8) (hc1 : cu + 1 ≤ mc) (hs1 : su + 6 ≤ ms) (hq : Q (Sum.inr E) mem) : zkW l G i (zkKm G d mc ms Q) cu su pc ls st mem := by
  intro p e s m args below meth c C H locs a hP hS hl
  subst e0 e3 e4 e6 e9
  obtain ⟨hx, hb, hr, hml, hown, hts, hF, hlk, htab, hlt, hok, -⟩ := id C
  obtain ⟨-, hNw, -, hU, hN, hS1, -, -, -, -, hCs⟩ := hF
  obtain ⟨sa, hsa⟩ := hS1 _ hs
  obtain ⟨b1, b2, b3, b4, b5⟩ := zk_thr hE hts hNw hCs
  rw [hO] at hown
  have hout : ∀ x ∈ c.exceptionTable.toList, covers x (pc + 9) = false := by rw [htab, hH]; intro x h; cases h
  refine vx_throwS hx hb hlt hown b1 zkSup_ok b2 b3 hsa b4 b5 hU hN hS (hl.1.trans hml.symm) (zk_dec hok h0 rfl) (zk_dec hok h3 rfl) (zk_dec hok h4 rfl) (zk_dec hok h6 rfl) (zk_dec hok h9 rfl) hout ?_ ?_ ?_ ?_ hlk (fun t _ h1 h2 => zk_xc hq hP hS h1 h2) hS.2.2 hc1 hs1
  · show 2 + 3 < d
    omega
  · rw [zk_wsum]
    show (st.map catV).sum + 82 ≤ 40 * d + 100
    omega
  · exact hc1
  · exact hs1
theorem m_throwW {E text : String} {ik is ic n0 n3 n4 n6 n9 : Nat} (h0 : (iT i).lookup pc = some (.new ik, n0)) (e0 : n0 = pc + 3) (h3 : (iT i).lookup n0 = some (.dup, n3)) (e3 : n3 = n0 + 1) (h4 : (iT i).lookup n3 = some (.ldc_w is, n4)) (e4 : n4 = n3 + 3) (h6 : (iT i).lookup n4 = some (.invokespecial ic, n6)) (e6 : n6 = n4 + 3) (h9 : (iT i).lookup n6 = some (.athrow, n9)) (e9 : n9 = n6 + 1)
    (hO : iO i = 6) (hH : iH i = []) (hE : (E, ik, ic) ∈ zkEt) (hs : (RX7, is, text) ∈ zkSc) (hd : 6 ≤ d) (hw : (st.map catV).sum ≤ 8) (hc1 : cu + 1 ≤ mc) (hs1 : su + 6 ≤ ms) (hq : Q (Sum.inr E) mem) : zkW l G i (zkKm G d mc ms Q) cu su pc ls st mem := by
  intro p e s m args below meth c C H locs a hP hS hl
  subst e0 e3 e4 e6 e9
  obtain ⟨hx, hb, hr, hml, hown, hts, hF, hlk, htab, hlt, hok, -⟩ := id C
  obtain ⟨-, hNw, -, hU, hN, hS1, -, -, -, -, hCs⟩ := hF
  obtain ⟨sa, hsa⟩ := hS1 _ hs
  obtain ⟨b1, b2, b3, b4, b5⟩ := zk_thr hE hts hNw hCs
  rw [hO] at hown
  have hout : ∀ x ∈ c.exceptionTable.toList, covers x (pc + 10) = false := by rw [htab, hH]; intro x h; cases h
  refine vx_throwSW hx hb hlt hown b1 zkSup_ok b2 b3 hsa b4 b5 hU hN hS (hl.1.trans hml.symm) (zk_dec hok h0 rfl) (zk_dec hok h3 rfl) (zk_dec hok h4 rfl) (zk_dec hok h6 rfl) (zk_dec hok h9 rfl) hout ?_ ?_ ?_ ?_ hlk (fun t _ h1 h2 => zk_xc hq hP hS h1 h2) hS.2.2 hc1 hs1
  · show 2 + 3 < d
    omega
  · rw [zk_wsum]
    show (st.map catV).sum + 82 ≤ 40 * d + 100
    omega
  · exact hc1
  · exact hs1
/-- an exception of a callee goes on to the caller -/
theorem x_out {E : String} (hH : iH i = []) (hc1 : cu ≤ mc) (hs1 : su ≤ ms) (hq : Q (Sum.inr E) mem) : zkX l G i (zkKm G d mc ms Q) cu su pc ls E mem := by
  intro p e s m args below meth c C H locs a q ce rest hP hS hl hce hcv hcl
  obtain ⟨hx, hb, hr, hml, hown, hts, hF, hlk, htab, hlt, hok, -⟩ := id C
  refine vx_out (by rw [htab, hH]; intro x h; cases h) hlk hce hcv hcl (fun t ht _ => zk_xc hq hP hS (by rw [ht]; exact Nat.le_refl _) (fun q _ => by rw [ht])) hS.2.2 hc1 hs1
end ZTHROW
/-- it is caught by a row of the method's own table -/
theorem x_catch {l : Launch} {G : zkG} {i : zkI} {K : zkK} {cu su pc : Nat} {ls : List (Option zkV)} {mem : zkM} {E : String} {A B : List (Nat × Nat × Nat × Nat)} {s0 e0 hp ct : Nat} (hsp : iH i = A ++ (s0, e0, hp, ct) :: B) (hcv : covers ⟨s0, e0, hp, ct⟩ pc = true) (h0 : ct ≠ 0) (hE : E ∈ zkEx) (hl0 : Cond.classLink (zkR (iO i)) ct E ∈ zkGw)
    (hA : ∀ z ∈ A, z.2.2.2 ≠ 0 ∧ ∃ nm ∈ zkEx, E ≠ nm ∧ Cond.classLink (zkR (iO i)) z.2.2.2 nm ∈ zkGw) (k : ∀ q : Nat, zkW l G i K cu su hp ls [vv (.ref q)] mem) : zkX l G i K cu su pc ls E mem := by
  intro p e s m args below meth c C H locs a q ce rest hP hS hl hce hcv2 hcl
  obtain ⟨hx, hb, hr, hml, hown, hts, hF, hlk, htab, hlt, hok, -⟩ := id C
  obtain ⟨-, -, -, -, -, -, -, -, -, hNc, hCs⟩ := hF
  refine vx_catch (name := E) hown (tableOf A) ⟨s0, e0, hp, ct⟩ (tableOf B) ?_ ?_ hcv h0 (hts _ hl0) (zkCs_use hCs hE args) hce hcv2 hcl (k q p e s m args below meth c C H locs a hP hS hl)
  · rw [htab, hsp]
    unfold tableOf
    rw [List.map_append, List.map_cons]
  · intro z hz
    obtain ⟨y, hy, rfl⟩ := List.mem_map.mp hz
    obtain ⟨h1, nm, h2, h3, h4⟩ := hA y hy
    exact Or.inr ⟨h1, nm, hts _ h4, hNc E hE nm h2 h3⟩
/-! Math, arraycopy -/
theorem zkMath : zkIn (.static Lib.Math.max.name) && zkIn (.initialized "java/lang/Math") && zkIn (.code Lib.Math.max.name Lib.Math.max.code 2 (some .int)) && zkIn (.static Lib.Math.min.name) && zkIn (.code Lib.Math.min.name Lib.Math.min.code 2 (some .int)) && zkIn (.native arraycopyName) && zkIn (.static arraycopyName) && zkIn (.initialized "java/lang/System") = true := by decide +kernel
section ZJDK
variable {l : Launch} {G : zkG} {i : zkI} {K : zkK} {cu su pc nx : Nat} {ls : List (Option zkV)} {st : List zkV} {mem : zkM}
theorem m_max {idx : Nat} {x y : Int} (hd : (iT i).lookup pc = some (.invokestatic idx, nx)) (hn : nx = pc + 3) (hk : zkIn (.methodLink (zkR (iO i)) idx Lib.Math.max.name) = true) (hx0 : inR x) (hy0 : inR y) (hf : 1 ≤ K.1.frames) (hw : (st.map catV).sum + 13 ≤ K.1.locals) (h1 : cu ≤ K.1.cells) (h2 : su ≤ K.1.slots) (k : zkW l G i K cu su nx ls (vi (max x y) :: st) mem) : zkW l G i K cu su pc ls (vi y :: vi x :: st) mem := by
  intro p e s m args below meth c C H locs a hP hS hl
  subst hn
  obtain ⟨hx, hb, hr, hml, hown, hts, -⟩ := id C
  have hm := zkMath
  simp only [Bool.and_eq_true] at hm
  obtain ⟨⟨⟨⟨⟨⟨⟨m1, m2⟩, m3⟩, m4⟩, m5⟩, m6⟩, m7⟩, m8⟩ := hm
  have hq := k p e s m args below meth c C H locs a hP hS hl
  have e1 : tau G (vi (max x y)) = .int (if Int32.ofInt x < Int32.ofInt y then Int32.ofInt y else Int32.ofInt x) := by
    show Value.int (Int32.ofInt (max x y)) = _
    by_cases h : x < y
    · rw [if_pos ((i32_lt hx0 hy0).mpr h), Int.max_eq_right (Int.le_of_lt h)]
    · rw [if_neg (fun q => h ((i32_lt hx0 hy0).mp q)), Int.max_eq_left (by omega)]
  rw [List.map_cons, e1] at hq
  exact va_mmax hx hb (hml.trans hl.1.symm) hown (hts _ (zkIn_use hk)) (hts _ (zkIn_use m1)) (hts _ (zkIn_use m2)) (hts _ (zkIn_use m3)) hf (by rw [zk_wsum]; exact hw) h1 h2 (zkC_dec C hd rfl) hq
theorem m_min {idx : Nat} {x y : Int} (hd : (iT i).lookup pc = some (.invokestatic idx, nx)) (hn : nx = pc + 3) (hk : zkIn (.methodLink (zkR (iO i)) idx Lib.Math.min.name) = true) (hx0 : inR x) (hy0 : inR y) (hf : 1 ≤ K.1.frames) (hw : (st.map catV).sum + 13 ≤ K.1.locals) (h1 : cu ≤ K.1.cells) (h2 : su ≤ K.1.slots) (k : zkW l G i K cu su nx ls (vi (min x y) :: st) mem) : zkW l G i K cu su pc ls (vi y :: vi x :: st) mem := by
  intro p e s m args below meth c C H locs a hP hS hl
  subst hn
  obtain ⟨hx, hb, hr, hml, hown, hts, -⟩ := id C
  have hm := zkMath
  simp only [Bool.and_eq_true] at hm
  obtain ⟨⟨⟨⟨⟨⟨⟨m1, m2⟩, m3⟩, m4⟩, m5⟩, m6⟩, m7⟩, m8⟩ := hm
  have hq := k p e s m args below meth c C H locs a hP hS hl
  have e1 : tau G (vi (min x y)) = .int (if Int32.ofInt y < Int32.ofInt x then Int32.ofInt y else Int32.ofInt x) := by
    show Value.int (Int32.ofInt (min x y)) = _
    by_cases h : y < x
    · rw [if_pos ((i32_lt hy0 hx0).mpr h), Int.min_eq_right (Int.le_of_lt h)]
    · rw [if_neg (fun q => h ((i32_lt hy0 hx0).mp q)), Int.min_eq_left (by omega)]
  rw [List.map_cons, e1] at hq
  exact va_mmin hx hb (hml.trans hl.1.symm) hown (hts _ (zkIn_use hk)) (hts _ (zkIn_use m4)) (hts _ (zkIn_use m2)) (hts _ (zkIn_use m5)) hf (by rw [zk_wsum]; exact hw) h1 h2 (zkC_dec C hd rfl) hq
/-- a whole row is copied onto another of its kind -/
theorem m_acopy {idx t j j2 : Nat} (hd : (iT i).lookup pc = some (.invokestatic idx, nx)) (hn : nx = pc + 3) (hk : zkIn (.methodLink (zkR (iO i)) idx arraycopyName) = true) (h8 : 8 ≤ t) (hka : akd t = 0) (hj : j < cnt t) (hj2 : j2 < cnt t) (hf : 1 ≤ K.1.frames) (hw : (st.map catV).sum + (nativeFrameWords "java/lang/System" "arraycopy" 5 + 11) ≤ K.1.locals)
    (k : zkW l G i K cu su nx ls st (mrow mem t j2 (fun x => if x < aln t then mem t j x else mem t j2 x))) : zkW l G i K cu su pc ls (vi (aln t) :: vi 0 :: vr t j2 :: vi 0 :: vr t j :: st) mem := by
  intro p e s m args below meth c C H locs a hP hS hl
  subst hn
  obtain ⟨hx, hb, hr, hml, hown, hts, hF, -⟩ := id C
  have hm := zkMath
  simp only [Bool.and_eq_true] at hm
  obtain ⟨⟨⟨⟨⟨⟨⟨m1, m2⟩, m3⟩, m4⟩, m5⟩, m6⟩, m7⟩, m8⟩ := hm
  obtain ⟨q0, hq0, he0⟩ := wl_at G mem hj
  obtain ⟨q1, hq1, he1⟩ := wl_at G mem hj2
  rw [zkE_ari h8 (Or.inl hka), hka] at he0 he1
  have hl2 := aln_lt t
  have c0 : (Int32.ofInt 0).toNatClampNeg = 0 := zk_cl (by decide) (by decide)
  have cn : (Int32.ofInt (aln t : Int)).toNatClampNeg = aln t := by rw [zk_cl (by omega) (by omega)]; omega
  have n0 : ¬ Int32.ofInt 0 < 0 := by decide
  have nn : ¬ Int32.ofInt (aln t : Int) < 0 := by
    rw [i32_0, i32_lt ⟨by omega, by omega⟩ inR_0]
    omega
  refine va_copyi hx hb (hml.trans hl.1.symm) hown (hts _ (zkIn_use hk)) (hts _ (zkIn_use m6)) (hts _ (zkIn_use m7)) (hts _ (zkIn_use m8)) hF.2.2.1 hP (wl_D hF.1 mem _) hS q0 q1 0 0 he0 he1 rfl rfl rfl n0 n0 nn (by rw [c0, cn]; omega) (by rw [c0, cn]; omega) (fun _ _ => rfl) hf (by rw [zk_wsum]; exact hw) (zkC_dec C hd rfl) (fun H1 locs1 hP1 _ hS1 => k p e s m args below meth c C H1 locs1 a ?_ hS1 hl)
  rw [c0, cn] at hP1
  have e0 : va_cpy (fun y => Int32.ofInt (mem t j y)) (fun y => Int32.ofInt (mem t j2 y)) 0 0 (aln t) = fun y => Int32.ofInt (mrow mem t j2 (fun x => if x < aln t then mem t j x else mem t j2 x) t j2 y) := by
    funext y
    unfold va_cpy mrow
    by_cases e : y < aln t <;> simp [e]
  rw [e0] at hP1
  have e1 := wl_set (G := G) (m := mem) (m' := mrow mem t j2 (fun x => if x < aln t then mem t j x else mem t j2 x)) hq1 (fun u hu hne => zkE_off (fun k' => mrow_off hne k'))
  rw [zkE_ari h8 (Or.inl hka), hka] at e1
  exact e1 ▸ hP1
end ZJDK
end
section
/-! throw new E("..") whose constructor links its superclass's by another index (turned from the kit's rows of EXCEPTIONS.to-paste) -/
def zkAtX (own : String) (ic : Nat) (X Y : String) (ix : Nat) (bx : ByteArray) (names : List String) : List Cond :=
  Bundle.throwableAtoms ++ Bundle.throwableSAtoms ++ (Bundle.passSAtoms X Y ix bx ++ Bundle.chainSAtoms Y names) ++
  [.methodLink own ic (Bundle.initS X), .instantiable X 6, .castable X X, .selects X Bundle.tFill0 Bundle.tFill0, .selects X Bundle.tFill Bundle.tFill,
   .lays X Bundle.tN "cause" "Ljava/lang/Throwable;", .lays X Bundle.tN "stackTrace" Bundle.steD, .lays X Bundle.tN "suppressedExceptions" Bundle.listD, .lays X Bundle.tN "detailMessage" "Ljava/lang/String;",
   .isRef (.static Bundle.tN "UNASSIGNED_STACK" Bundle.steD), .isRef (.static Bundle.tN "SUPPRESSED_SENTINEL" Bundle.listD),
   .fieldLink Bundle.tN 198 Bundle.tN "backtrace" "Ljava/lang/Object;", .lays Bundle.tN Bundle.tN "backtrace" "Ljava/lang/Object;", .lays X Bundle.tN "backtrace" "Ljava/lang/Object;"]
def zkAtF (own : String) (ic : Nat) (X Y : String) (ix : Nat) (bx : ByteArray) (names : List String) : List Cond := (zkAtX own ic X Y ix bx names).filter vx_no
theorem zk_chain {args : Array Value} {s : State} {pl : Platform} (hpl : pl.magicAccessors = ({} : Platform).magicAccessors) {top : MethodId} (htop : s.methodNamed? (Bundle.initS Bundle.tN) = some top) {ix : Nat} {bx : ByteArray} (b0 : decode bx 0 = .ok (.aload_n 0, 1)) (b1 : decode bx 1 = .ok (.aload_n 1, 1)) (b2 : decode bx 2 = .ok (.invokespecial ix, 3)) (b5 : decode bx 5 = .ok (.return_, 1))
    (names : List String) (X Y : String) (hX : Bundle.fit X = true) (hY : Bundle.fit Y = true) (hn : ∀ n ∈ names, Bundle.fit n = true) (h : ∀ c ∈ Bundle.passSAtoms X Y ix bx ++ Bundle.chainSAtoms Y names, c.before args s = true) :
      ∃ (P1 : PassC) (Ps : List PassC), Ps.length = names.length + 1 ∧ P1.LinksS pl s ∧ (∀ P, P ∈ Ps → P.LinksS pl s) ∧ s.methodNamed? (Bundle.initS X) = some P1.m ∧
        P1.sup = firstOf top (Ps.map (·.toPassT)) ∧ PassesOn top (Ps.map (·.toPassT)) := by
  obtain ⟨P, L, hm, hs⟩ := PassC.ofS_atoms (args := args) (s := s) hpl (X := X) (Y := Y) (Bundle.fit_spec hX).1 (Bundle.fit_spec hY).2 b0 b1 b2 b5 (fun c hc => h c (List.mem_append_left _ hc))
  obtain ⟨P', Ps, hlen, L', hL, hm', hsup, hpass⟩ := Bundle.chainS (args := args) hpl htop names Y hY hn (fun c hc => h c (List.mem_append_right _ hc))
  refine ⟨P, P' :: Ps, by simp [hlen], L, ?_, hm, Option.some.inj (hs.symm.trans hm'), hsup, hpass⟩
  intro Q hQ
  rcases List.mem_cons.mp hQ with rfl | hQ
  · exact L'
  · exact hL Q hQ
section ZCT
variable {p : Program} {l : Launch} {e : Env} {R : Room} {s : State} {m₀ : MethodId} {args : Array Value} {below : List Frame} {meth : Method} {c : Code} {W : State} {locs : List Loc} {cells slots : Nat}
set_option maxHeartbeats 4000000 in
theorem zk_ctorMade (X : Stand p l e R s m₀ args below meth c W locs cells slots) (hexec : p.tables.exec = Jvm.exec) (htr : e.platform.stackTraces = false) {own cls sup : String} {names : List String} {ic ix : Nat} {bx : ByteArray} (b0 : decode bx 0 = .ok (.aload_n 0, 1)) (b1 : decode bx 1 = .ok (.aload_n 1, 1)) (b2 : decode bx 2 = .ok (.invokespecial ix, 3)) (b5 : decode bx 5 = .ok (.return_, 1)) (hsup : Bundle.fit sup = true)
    (hown : s.vm.findClass own = some m₀.cls) (hcls : Bundle.fit cls = true) (hnames : ∀ n ∈ names, Bundle.fit n = true)
    (h : ∀ a ∈ zkAtX own ic cls sup ix bx names, a.before args s = true)
    (hlocs : ∀ x ∈ locs, ∀ cell, s.heap[x.base]? = some cell → cell.vm.isStatics = false)
    {a : Addr} {cX : ClassId} {kX : Class} (hfoundX : s.vm.findClass cls = some cX) (hkX : s.vm.classes[cX]? = some kX) (hcell : W.heap[a]? = some (freshCell cX kX)) (hnew : s.heap.size ≤ a)
    {msg : Value} (hmsg : msg.isRef = true)
    {g : JFrame} (hg : g.method = m₀) (hsize : g.locals.size = c.maxLocals) {rest : List Value} (hstack : g.stack = msg :: .ref a :: .ref a :: rest)
    (hd6 : decode c.code g.pc = .ok (.invokespecial ic, 3))
    (hRframes : names.length + 4 < R.frames) (hRlocals : 2 * g.monitorRoom + ((Value.ref a :: rest).map fun v => v.category).sum + (13 * (names.length + 2) + 42) ≤ R.locals) :
    ∃ (V : State) (ce : Cell) (L : List Loc), Stand p l e R s m₀ args below meth c (V.setCell a ce) (locs ++ L) cells slots ∧ (∀ y ∈ L, y.base = a) ∧ a < V.heap.size ∧ ce.cls = cX ∧ ce.vm = .none ∧
      ∀ target, Steps p.tables e below ((V.setCell a ce).setTop { g with stack := .ref a :: rest, pc := g.pc + 3 }) target → Steps p.tables e below (W.setTop g) target := by
  have howns : e.platform.frameOwnsMonitors = true := by rw [X.admits.platform]
  have hfin : e.platform.finalization = false := by rw [X.admits.platform]
  have hpl : e.platform.magicAccessors = ({} : Platform).magicAccessors := by rw [X.admits.platform]
  have a' : ∀ x, x ∈ zkAtX own ic cls sup ix bx names → x.holds args s none s [] = true := fun x hx => h x hx
  obtain ⟨T, Z0, L, -, Y⟩ := ThrowableC.of_atoms (args := args) howns hfin hpl (fun x hx => h x (by simp [zkAtX, hx]))
  obtain ⟨Z, M, LZ, LM, hnZ⟩ := Init0T.ofS_atoms (args := args) hpl L Y (fun x hx => h x (by simp [zkAtX, hx]))
  obtain ⟨P1, Ps, hlen, L1, hL, hP1m, hlink1, hlink⟩ := zk_chain (args := args) hpl hnZ b0 b1 b2 b5 names cls sup hcls hsup hnames (fun x hx => h x (List.mem_append_left _ (List.mem_append_right _ hx)))
  have hfound : s.vm.findClass cls = some P1.m.cls := findClass_of_methodNamed hP1m
  cases Option.some.inj (hfoundX.symm.trans hfound)
  obtain ⟨c1, kX', hc1, hk, hord, -, -, hn6⟩ := Cond.instantiable_spec (a' (.instantiable cls 6) (by simp [zkAtX]))
  cases Option.some.inj (hc1.symm.trans hfound)
  cases Option.some.inj (hkX.symm.trans hk)
  have hsel0 : selectMethod e.platform s.vm P1.m.cls T.fill0 = .method T.fill0 := by
    obtain ⟨c2, r2, m2, q1, q2, q3, q4, -⟩ := Cond.selects_spec (a' (.selects cls Bundle.tFill0 Bundle.tFill0) (by simp [zkAtX]))
    cases Option.some.inj (q1.symm.trans hfound)
    cases Option.some.inj (q2.symm.trans (State.methodFound?_of_named Y.fill0 (by decide)))
    cases Option.some.inj (q3.symm.trans Y.fill0)
    rw [Launch.admits_selectMethod X.admits]; exact q4
  have hselF : selectMethod e.platform s.vm P1.m.cls T.fill = .method T.fill := by
    obtain ⟨c2, r2, m2, q1, q2, q3, q4, -⟩ := Cond.selects_spec (a' (.selects cls Bundle.tFill Bundle.tFill) (by simp [zkAtX]))
    cases Option.some.inj (q1.symm.trans hfound)
    cases Option.some.inj (q2.symm.trans (State.methodFound?_of_named Y.fill (by decide)))
    cases Option.some.inj (q3.symm.trans Y.fill)
    rw [Launch.admits_selectMethod X.admits]; exact q4
  obtain ⟨cellS0, hcS0, hiss⟩ := Y.statics
  obtain ⟨u0, hu0⟩ := Cond.staticRefV Y.unassigned L.unassignedStatic L.statics hcS0 hiss (a' (.isRef (.static Bundle.tN "UNASSIGNED_STACK" Bundle.steD)) (by simp [zkAtX]))
  obtain ⟨sen, hsen⟩ := Cond.staticRefV Y.sentinel L.sentinelStatic L.statics hcS0 hiss (a' (.isRef (.static Bundle.tN "SUPPRESSED_SENTINEL" Bundle.listD)) (by simp [zkAtX]))
  obtain ⟨ci198, i198, fB, hk198, hg198, ha198, hsB, -, hnB, htB, hffB⟩ := Cond.ownField (t := .object "java/lang/Object") Y.found L.cls (by decide +kernel) (a' (.fieldLink Bundle.tN 198 Bundle.tN "backtrace" "Ljava/lang/Object;") (by simp [zkAtX])) (a' (.lays Bundle.tN Bundle.tN "backtrace" "Ljava/lang/Object;") (by simp [zkAtX])) e.platform hpl
  obtain ⟨cellS, hcS', heS, -, hkeep⟩ := X.same.2.2.2.2.2 T.aS cellS0 hcS0
  have hcellS : W.heap[T.aS]? = some cellS := hcS'
  have hout' : ∀ i, (⟨T.aS, i⟩ : Loc) ∉ locs := fun i hmem => by
    have := hlocs _ hmem cellS0 hcS0
    rw [hiss] at this; cases this
  have hknownS : cellS.vm ≠ .unknown := by
    rw [heS]; intro hu
    rw [show cellS0.vm = .unknown from hu] at hiss
    cases hiss
  have hneS : T.aS ≠ a := Nat.ne_of_lt (Nat.lt_of_lt_of_le (Array.getElem?_eq_some_iff.mp hcS0).1 hnew)
  obtain ⟨iM, hffM⟩ := Y.msg
  obtain ⟨tyC, dC, hdC, hdnC⟩ := Cond.laysAt hfound hk Y.cause (a' (.lays cls Bundle.tN "cause" "Ljava/lang/Throwable;") (by simp [zkAtX]))
  obtain ⟨tyS, dS, hdS, hdnS⟩ := Cond.laysAt hfound hk Y.stack (a' (.lays cls Bundle.tN "stackTrace" Bundle.steD) (by simp [zkAtX]))
  obtain ⟨tyP, dP, hdP, hdnP⟩ := Cond.laysAt hfound hk Y.supp (a' (.lays cls Bundle.tN "suppressedExceptions" Bundle.listD) (by simp [zkAtX]))
  obtain ⟨tyM, dM, hdM, hdnM⟩ := Cond.laysAt hfound hk hffM (a' (.lays cls Bundle.tN "detailMessage" "Ljava/lang/String;") (by simp [zkAtX]))
  obtain ⟨tyB, dB, hdB, hdnB⟩ := Cond.laysAt hfound hk hffB (a' (.lays cls Bundle.tN "backtrace" "Ljava/lang/Object;") (by simp [zkAtX]))
  have bC := Cond.laysApart hdB hdC hdnB hdnC (by rw [hnB, Y.causeName]; decide)
  have bS := Cond.laysApart hdB hdS hdnB hdnS (by rw [hnB, Y.stackName]; decide)
  have bP := Cond.laysApart hdB hdP hdnB hdnP (by rw [hnB, Y.suppName]; decide)
  have hskip : SkipFacts T e.platform s (fun u => u) u0 ((preparedCellV T.toThrowableT (freshCell P1.m.cls kX) a u0 sen).withEntry W.cur) :=
    ⟨{ ci198 := ci198, i198 := i198, fBack := fB }, ⟨hk198, hg198, ha198, hsB⟩, by
      have := fresh_default (c := P1.m.cls) tyB
      rw [htB] at this
      simpa [preparedCellV, Cell.setSlot, Cell.withEntry, Array.getElem?_setIfInBounds, bC, bS, bP, bC.symm, bS.symm, bP.symm, defaultValue] using this, fun _ _ => rfl⟩
  obtain ⟨tm, methC, cdC, kC, vm₁, hnC, -, -, -, -, -, -, -, hW₁, st1⟩ := Steps.initColdS (tb := p.tables) (e := e) (below := below) (s := s) (U := W) X.here hexec X.warmed hpl hown (t := Bundle.initS cls) rfl rfl (Bundle.fit_spec hcls).2
    (a' (.methodLink own ic (Bundle.initS cls)) (by simp [zkAtX])) (h (.instanceMethod (Bundle.initS cls)) (by simp [zkAtX, Bundle.passSAtoms])) (bytes := bx) (maxL := 2) (h (.code (Bundle.initS cls) bx 2 none) (by simp [zkAtX, Bundle.passSAtoms]))
    (f := g) hg (a := a) (msg := msg) (rest := .ref a :: rest) hstack hd6
  cases Option.some.inj (hnC.symm.trans hP1m)
  have X₁ := X.noted hW₁
  obtain ⟨vm₂, X₂, st2⟩ := X₁.ctorMessageOffV hexec (g := { g with stack := .ref a :: rest }) hg hsize T L Z LZ M LM (P1 :: Ps)
    (fun P hP => by rcases List.mem_cons.mp hP with rfl | hP; exact L1; exact hL P hP) ⟨hlink1, hlink⟩ (u0 := u0) (sen := sen) (self := a) hmsg (cell := freshCell P1.m.cls kX) (cellS := cellS)
    hcell (fun _ => by simp) (by simp) rfl rfl hsel0 hselF hcellS hneS hknownS (by rw [hkeep _ (hout' _)]; exact hu0) (by rw [hkeep _ (hout' _)]; exact hsen)
    (Takes.of_laid hk hord tyC (by rw [Y.causeType]; rfl)) (Takes.of_laid hk hord tyS (by rw [Y.stackType]; exact fits_refV_array _ u0)) (Takes.of_laid hk hord tyP (by rw [Y.suppType]; exact fits_refV_object _ sen))
    (Takes.of_laid hk hord tyM (by rw [Y.msgType]; exact fits_refV_object _ ⟨msg, hmsg⟩)) Y.objLocals hskip htr [] hd6
    (by simp only [List.length_cons, hlen]; omega) (by simp only [List.length_cons, hlen]; exact hRlocals)
  have hlt : a < ((W.setVm vm₁).setVm vm₂).heap.size := (Array.getElem?_eq_some_iff.mp hcell).1
  refine ⟨(W.setVm vm₁).setVm vm₂, _, _, X₂, fun y hy => ?_, hlt, rfl, rfl, fun target hwalk => st1 _ (fun acts => ?_)⟩
  · simp only [List.mem_cons, List.not_mem_nil, or_false] at hy
    rcases hy with rfl | rfl | rfl | rfl | rfl <;> rfl
  · rw [doInvoke_state]
    exact st2 _ hwalk
end ZCT
section ZMK
variable {p : Program} {l : Launch} {e : Env} {R : Room} {s : State} {m : MethodId} {args : Array Value} {below : List Frame} {meth : Method} {c : Code} {H : Heap} {locs : List Loc} {cells slots : Nat} {Q : State → Prop} {ls : Array Slot} {rest : List Value}
theorem zk_back9 {T S : State} {R' : Room} {k n : Nat} (X : Stand p l e R s m args below meth c T locs cells slots) (Y : Stand p l e R' ((T.setVm s.vm).setFrames (.invoking m args :: below)) m args below meth c T [] 0 0) (Z : Stand p l e R' ((T.setVm s.vm).setFrames (.invoking m args :: below)) m args below meth c S [] k n) :
    Stand p l e R s m args below meth c S locs (cells + k) (slots + n) := by
  have hW0 : s.WarmedH ((T.setVm s.vm).setFrames (.invoking m args :: below)).vm := State.WarmedH.refl s
  refine { admits := X.admits, cas := X.cas, clock := X.clock, frames := X.frames, room := X.room, hears := X.hears, method := X.method, code := X.code, here := Z.here, tail := Z.tail, warmed := State.WarmedH.trans hW0 Z.warmed, limits := Z.limits.trans (Y.limits.symm.trans X.limits), bytes := Z.bytes.trans (Y.bytes.symm.trans X.bytes), same := ?_ }
  obtain ⟨e1, e2⟩ := Z.same
  rw [State.setFrames_setFrames] at e1
  have h2 : (T.setVm s.vm).sameButNew (S.setVm s.vm) [] k n := ⟨e1, e2⟩
  have h3 := X.same.trans h2
  rw [List.append_nil] at h3
  exact h3
set_option maxHeartbeats 4000000 in
theorem zk_make {cc : ByteArray} {pc : Nat} (hexec : p.tables.exec = Jvm.exec) (hb : c.code = cc) (hl : l.stackTraces = false) {own cls sup text : String} {names : List String} {ik is ic sa ix : Nat} {bx : ByteArray} {A : Nat → Prop} (b0 : decode bx 0 = .ok (.aload_n 0, 1)) (b1 : decode bx 1 = .ok (.aload_n 1, 1)) (b2 : decode bx 2 = .ok (.invokespecial ix, 3)) (b5 : decode bx 5 = .ok (.return_, 1)) (hsup : Bundle.fit sup = true)
    (hown : s.vm.findClass own = some m.cls) (hcls : Bundle.fit cls = true) (hnames : ∀ n ∈ names, Bundle.fit n = true)
    (hk : (Cond.classLink own ik cls).before args s = true) (hini : (Cond.initialized cls).before args s = true) (hstr : vk_R own is text sa s) (hat : ∀ w ∈ zkAtF own ic cls sup ix bx names, w.before args s = true)
    (hgood : ∀ w ∈ Cond.classLink own ik cls :: Cond.initialized cls :: zkAtF own ic cls sup ix bx names, vx_ot w = true)
    (hU : vx_Zq Bundle.tN "UNASSIGNED_STACK" Bundle.steD A s s.heap) (hN : vx_Zq Bundle.tN "SUPPRESSED_SENTINEL" Bundle.listD A s s.heap) (hS : va_S A s.heap H locs) (hsize : ls.size = c.maxLocals)
    (d0 : decode cc pc = .ok (.new ik, 3)) (d3 : decode cc (pc + 3) = .ok (.dup, 1)) (d4 : decode cc (pc + 4) = .ok (.ldc is, 2)) (d6 : decode cc (pc + 6) = .ok (.invokespecial ic, 3))
    (hRframes : names.length + 4 < R.frames) (hRlocals : (rest.map fun v => v.category).sum + (13 * (names.length + 2) + 43) ≤ R.locals) (hRcells : cells + 1 ≤ R.cells) (hRslots : slots + 6 ≤ R.slots)
    (kk : ∀ (q : Nat) (ce : Cell) (H1 : Heap), H.size ≤ H1.size → (∀ j : Nat, j < H.size → H1[j]? = H[j]?) → H1[q]? = some ce → ce.vm = .none → s.vm.findClass cls = some ce.cls → va_S A s.heap H1 locs → W p l e R s m args below meth c H1 locs (cells + 1) (slots + 6) Q (F0 m (pc + 9) ls (.ref q :: rest))) :
    W p l e R s m args below meth c H locs cells slots Q (F0 m pc ls rest) := by
  intro T hT X
  subst hT
  have htr : e.platform.stackTraces = false := (show e.platform.stackTraces = l.stackTraces by rw [X.admits.platform]).trans hl
  have Y := vx_rebase X (R' := { frames := R.frames, locals := R.locals, cells := 1, slots := 6 }) (Nat.le_refl _) (Nat.le_refl _) hRcells hRslots
  obtain ⟨s', hA'⟩ : ∃ z, z = (T.setVm s.vm).setFrames (.invoking m args :: below) := ⟨_, rfl⟩
  rw [← hA'] at Y
  have hvm : s'.vm = s.vm := by rw [hA']; rfl
  have hhp : s'.heap = T.heap := by rw [hA']; rfl
  have hW0 : s.WarmedH s'.vm := by rw [hvm]; exact State.WarmedH.refl s
  have hat' : ∀ w ∈ zkAtF own ic cls sup ix bx names, w.before args s' = true := fun w hw => vx_ot_at hW0 hvm.symm (hgood w (List.mem_cons_of_mem _ (List.mem_cons_of_mem _ hw))) (hat w hw)
  have hk' : (Cond.classLink own ik cls).before args s' = true := vx_ot_at hW0 hvm.symm (hgood _ List.mem_cons_self) hk
  have hini' : (Cond.initialized cls).before args s' = true := vx_ot_at hW0 hvm.symm (hgood _ (List.mem_cons_of_mem _ List.mem_cons_self)) hini
  have hU' : vx_Zq Bundle.tN "UNASSIGNED_STACK" Bundle.steD A s' s'.heap := by rw [hhp]; exact vx_Zq.moved hW0.alike (hU.kept hS.2.1)
  have hN' : vx_Zq Bundle.tN "SUPPRESSED_SENTINEL" Bundle.listD A s' s'.heap := by rw [hhp]; exact vx_Zq.moved hW0.alike (hN.kept hS.2.1)
  have h : ∀ w ∈ zkAtX own ic cls sup ix bx names, w.before args s' = true := vx_own hat' (vx_isRefq hU'.1) (vx_isRefq hN'.1) hU'.2.word hN'.2.word
  have hown' : s'.vm.findClass own = some m.cls := by rw [hvm]; exact hown
  have hins : (Cond.instantiable cls 6).before args s' = true := h _ (by simp [zkAtX])
  obtain ⟨vm₁, cX, kX, hfX, hkX, -, -, X₁, st1⟩ := Y.newCold hexec (own := own) (C := cls) (index := ik) (n := 6) hown' hk' hins hini'
    (g := F0 m pc ls rest) rfl (by rw [hb]; exact d0) (Nat.le_refl _) (Nat.le_refl _)
  generalize hT1 : (T.setVm vm₁).pushCell { cls := cX, slots := kX.instanceTypes.map defaultValue, vm := .none } = T1 at X₁ st1
  have hcat : (Value.ref T.heap.size).category = 1 := rfl
  have hcellA : T1.heap[T.heap.size]? = some (freshCell cX kX) := by rw [← hT1]; exact State.heap_pushCell_size _ _
  have d3' : decode c.code (pc + 3) = .ok (.dup, 1) := by rw [hb]; exact d3
  have d4' : decode c.code (pc + 4) = .ok (.ldc is, 2) := by rw [hb]; exact d4
  have hstr' : vk_R own is text sa s' := vk_R.warm hW0 hstr
  obtain ⟨V, ce, L, Z, hL, hlt, hcl9, hvm9, st⟩ := zk_ctorMade X₁ hexec htr (own := own) (cls := cls) (sup := sup) (names := names) (ic := ic) b0 b1 b2 b5 hsup hown' hcls hnames h (fun x hx => nomatch hx) hfX hkX hcellA (by rw [hhp]; exact Nat.le_refl _) (msg := .ref sa) rfl
    (g := { method := m, pc := pc + 6, locals := ls, stack := .ref sa :: .ref T.heap.size :: .ref T.heap.size :: rest, locked := none }) rfl hsize (rest := rest) rfl
    (by rw [hb]; exact d6) hRframes (by simp only [List.map_cons, List.sum_cons, hcat]; omega)
  have Z0 := Stand.forget (locs := []) Z (fun y hy => by rw [hL y hy, hhp]; exact Nat.le_refl _)
  obtain ⟨f1, f2⟩ := vx_frame Z0.same
  rw [hhp] at f1 f2
  have hcid : s.vm.findClass cls = some ce.cls := by
    rw [hcl9]
    rw [hvm] at hfX
    exact hfX
  have hh : (V.setCell T.heap.size ce).heap[T.heap.size]? = some ce := heapAt_setCell_self (s := V) ce hlt
  subst hA'
  have X5 := zk_back9 X Y Z0
  have X6 : Stand p l e R s m args below meth c (V.setCell T.heap.size ce) locs (cells + 1) (slots + 6) := { X5 with same := X5.same.mono (by omega) (by omega) }
  obtain ⟨t, a1, b1⟩ := kk T.heap.size ce (V.setCell T.heap.size ce).heap f1 (fun q hq => f2 q hq (fun z hz => nomatch hz)) hh hvm9 hcid ⟨Nat.le_trans hS.1 f1, fun q h1 h2 => (f2 q (Nat.lt_of_lt_of_le h1 hS.1) (fun z hz => nomatch hz)).trans (hS.2.1 q h1 h2), hS.2.2⟩ _ rfl X6
  refine ⟨t, st1 _ ?_, b1⟩
  show Steps p.tables e below (T1.setTop { method := m, pc := pc + 3, locals := ls, stack := .ref T.heap.size :: rest, locked := none }) _
  jvm_step X₁.here [X₁.here.top, hexec, d3', Value.category]
  exact X₁.ldcString hexec (own := own) (text := text) (index := is) (a := sa) hown' hstr'.1 hstr'.2
    (g := { method := m, pc := pc + 4, locals := ls, stack := .ref T.heap.size :: .ref T.heap.size :: rest, locked := none }) rfl d4' _ (st _ a1)
theorem zk_athrow {cc : ByteArray} {pc : Nat} (hexec : p.tables.exec = Jvm.exec) (hb : c.code = cc) {q : Addr} (hdg : decode cc pc = .ok (.athrow, 1)) (k : vx_W p l e R s m args below meth c H locs cells slots Q (F0 m pc ls rest) q) : W p l e R s m args below meth c H locs cells slots Q (F0 m pc ls (.ref q :: rest)) := by
  intro T hT X
  obtain ⟨t, st, hq⟩ := k T hT X
  refine ⟨t, ?_, hq⟩
  have hdg' : decode c.code pc = .ok (.athrow, 1) := by rw [hb]; exact hdg
  jvm_step X.here [X.here.top, hexec, hdg', athrow.wp_sem]
  exact st
end ZMK
/-- NoSuchElementException: its constructor's bytes, and the words of its throw -/
def zkNb : ByteArray := ⟨#[0x2a, 0x2b, 0xb7, 0x00, 0x0d, 0xb1]⟩
abbrev zkNE : String := "java/util/NoSuchElementException"
abbrev zkNL : List Cond := zkAtF RX7 97 zkNE "java/lang/RuntimeException" 13 zkNb ["java/lang/Exception"]
theorem zkN_1 : zkIn (.classLink RX7 93 zkNE) = true ∧ zkIn (.initialized zkNE) = true ∧ Bundle.fit zkNE = true ∧ Bundle.fit "java/lang/RuntimeException" = true ∧ (∀ n ∈ ["java/lang/Exception"], Bundle.fit n = true) ∧ zkNE ∈ zkEx ∧ vx_ot (.classLink RX7 93 zkNE) = true ∧ vx_ot (.initialized zkNE) = true := ⟨by decide +kernel, by decide +kernel, by decide +kernel, by decide +kernel, by decide +kernel, by decide +kernel, by decide +kernel, by decide +kernel⟩
theorem zkN_2 : zkNL.all vx_ot = true := by decide +kernel
theorem zkN_3 : ∀ w ∈ zkNL.filter goodWord, w ∈ lw_tbl := by decide +kernel
theorem zkN_4 : ∀ w ∈ zkNL.filter (fun w => !goodWord w), w ∈ Cond.castable zkNE zkNE :: zkDc := by decide +kernel
section ZNSE
variable {l : Launch} {G : zkG} {i : zkI} {d mc ms cu su pc : Nat} {ls : List (Option zkV)} {st : List zkV} {mem : zkM} {Q : zkO → zkM → Prop}
theorem zk_thrN {args : Array Value} {s : State} (hts : ∀ w ∈ zkGw, w.before args s = true) (hN : ∀ w ∈ zkNw, va_Nw w s) (hc : zkCs s) : (∀ w ∈ zkNL, w.before args s = true) ∧ ∀ w ∈ Cond.classLink RX7 93 zkNE :: Cond.initialized zkNE :: zkNL, vx_ot w = true := by
  refine ⟨fun w hw => ?_, fun w hw => ?_⟩
  · by_cases hg : goodWord w = true
    · exact hts _ (List.mem_filter.mpr ⟨zkN_3 w (List.mem_filter.mpr ⟨hw, hg⟩), hg⟩)
    · have h9 := zkN_4 w (List.mem_filter.mpr ⟨hw, by simp only [hg, Bool.not_eq_true', Bool.not_false]⟩)
      rcases List.mem_cons.mp h9 with rfl | h9
      · exact zkCs_use hc zkN_1.2.2.2.2.2.1 args
      · have h10 := zkDc_nw h9
        have h11 := hN w h10
        rcases List.mem_cons.mp h9 with rfl | h9
        · exact va_Nw.use rfl h11
        · rcases List.mem_cons.mp h9 with rfl | h9
          · exact va_Nw.use rfl h11
          · rcases List.mem_cons.mp h9 with rfl | h9
            · exact va_Nw.use rfl h11
            · cases h9
  · rcases List.mem_cons.mp hw with rfl | hw
    · exact zkN_1.2.2.2.2.2.2.1
    · rcases List.mem_cons.mp hw with rfl | hw
      · exact zkN_1.2.2.2.2.2.2.2
      · exact List.all_eq_true.mp zkN_2 w hw
theorem m_throwN {text : String} {is n0 n3 n4 n6 n9 : Nat} (h0 : (iT i).lookup pc = some (.new 93, n0)) (e0 : n0 = pc + 3) (h3 : (iT i).lookup n0 = some (.dup, n3)) (e3 : n3 = n0 + 1) (h4 : (iT i).lookup n3 = some (.ldc is, n4)) (e4 : n4 = n3 + 2) (h6 : (iT i).lookup n4 = some (.invokespecial 97, n6)) (e6 : n6 = n4 + 3) (h9 : (iT i).lookup n6 = some (.athrow, n9)) (e9 : n9 = n6 + 1)
    (hO : iO i = 6) (hH : iH i = []) (hs : (RX7, is, text) ∈ zkSc) (hd : 6 ≤ d) (hw : (st.map catV).sum ≤ 8) (hc1 : cu + 1 ≤ mc) (hs1 : su + 6 ≤ ms) (hq : Q (Sum.inr zkNE) mem) : zkW l G i (zkKm G d mc ms Q) cu su pc ls st mem := by
  intro p e s m args below meth c C H locs a hP hS hl
  subst e0 e3 e4 e6 e9
  obtain ⟨hx, hb, hr, hml, hown, hts, hF, hlk, htab, hlt, hok, -⟩ := id C
  obtain ⟨-, hNw, -, hU, hN, hS1, -, -, -, -, hCs⟩ := hF
  obtain ⟨sa, hsa⟩ := hS1 _ hs
  obtain ⟨b4, b5⟩ := zk_thrN hts hNw hCs
  rw [hO] at hown
  refine zk_make (ix := 13) (bx := zkNb) hx hb hlt (by decide +kernel) (by decide +kernel) (by decide +kernel) (by decide +kernel) zkN_1.2.2.2.1 hown zkN_1.2.2.1 zkN_1.2.2.2.2.1 (hts _ (zkIn_use zkN_1.1)) (hts _ (zkIn_use zkN_1.2.1)) hsa b4 b5 hU hN hS (hl.1.trans hml.symm) (zk_dec hok h0 rfl) (zk_dec hok h3 rfl) (zk_dec hok h4 rfl) (zk_dec hok h6 rfl) ?_ ?_ hc1 hs1 (fun q ce H1 g1 g2 g3 g4 g5 g6 => ?_)
  · show 1 + 4 < d
    omega
  · rw [zk_wsum]
    show (st.map catV).sum + 82 ≤ 40 * d + 100
    omega
  · refine zk_athrow hx hb (zk_dec hok h9 rfl) ?_
    refine vx_out (by rw [htab, hH]; intro x h; cases h) hlk g3 g4 g5 (fun t ht _ => zk_xc hq hP hS (by rw [ht]; exact g1) (fun q hq => by rw [ht]; exact g2 q hq)) g6.2.2 hc1 hs1
end ZNSE
end
section
def tb_An_blockingOf : List (Nat × Instr × Nat) := [(0, .iconst 0, 1), (1, .istore_n 2, 2), (2, .iconst 0, 3), (3, .istore_n 3, 4), (4, .iload_n 3, 5), (5, .aload_n 0, 6), (6, .getfield 9, 9), (9, .if_icmp .ge 44, 12), (12, .aload_n 0, 13), (13, .getfield 15, 16), (16, .iload_n 3, 17), (17, .aaload, 18), (18, .getfield 19, 21), (21, .aload_n 1, 22), (22, .getfield 19, 25), (25, .if_icmp .ge 22, 28), (28, .iload_n 2, 29), (29, .aload_n 0, 30), (30, .aload_n 0, 31), (31, .getfield 15, 34), (34, .iload_n 3, 35), (35, .aaload, 36), (36, .aload_n 1, 37), (37, .getfield 19, 40), (40, .invokestatic 24, 43), (43, .invokestatic 30, 46), (46, .istore_n 2, 47), (47, .iinc 3 1, 50), (50, .goto (-46), 53), (53, .iload_n 2, 54), (54, .ireturn, 55)]
def i_An_blockingOf : zkI := (yX0_blockingOf, cX0_blockingOf, 4, (some .int), 8, tb_An_blockingOf, [])
theorem ok_An_blockingOf : zkOk i_An_blockingOf := by unfold zkOk; decide +kernel
def tb_An_blockingBy : List (Nat × Instr × Nat) := [(0, .iconst 0, 1), (1, .istore_n 3, 2), (2, .iconst 0, 3), (3, .istore 4, 5), (5, .iload 4, 7), (7, .aload_n 1, 8), (8, .getfield 36, 11), (11, .if_icmp .ge 49, 14), (14, .aload_n 1, 15), (15, .getfield 39, 18), (18, .iload 4, 20), (20, .iaload, 21), (21, .istore 5, 23), (23, .iload 5, 25), (25, .iconst (-1), 26), (26, .if_icmp .eq 28, 29), (29, .aload_n 0, 30), (30, .getfield 43, 33), (33, .iload 5, 35), (35, .iaload, 36), (36, .iload_n 2, 37), (37, .if_icmp .lt 17, 40), (40, .iload_n 3, 41), (41, .aload_n 1, 42), (42, .getfield 46, 45), (45, .iload 4, 47), (47, .iaload, 48), (48, .iconst 1, 49), (49, .isub, 50), (50, .invokestatic 30, 53), (53, .istore_n 3, 54), (54, .iinc 4 1, 57), (57, .goto (-52), 60), (60, .iload_n 3, 61), (61, .ireturn, 62)]
def i_An_blockingBy : zkI := (yX0_blockingBy, cX0_blockingBy, 6, (some .int), 8, tb_An_blockingBy, [])
theorem ok_An_blockingBy : zkOk i_An_blockingBy := by unfold zkOk; decide +kernel
def tb_An_boundOf : List (Nat × Instr × Nat) := [(0, .aload_n 0, 1), (1, .aload_n 1, 2), (2, .invokestatic 49, 5), (5, .aload_n 1, 6), (6, .getfield 53, 9), (9, .iadd, 10), (10, .istore_n 2, 11), (11, .iload_n 2, 12), (12, .istore_n 3, 13), (13, .iconst 0, 14), (14, .istore 4, 16), (16, .iload 4, 18), (18, .sipush 1000, 21), (21, .if_icmp .ge 37, 24), (24, .iload_n 3, 25), (25, .sipush 1000, 28), (28, .if_icmp .gt 30, 31), (31, .iload_n 2, 32), (32, .aload_n 0, 33), (33, .aload_n 1, 34), (34, .iload_n 3, 35), (35, .invokestatic 56, 38), (38, .iadd, 39), (39, .istore 5, 41), (41, .iload 5, 43), (43, .iload_n 3, 44), (44, .if_icmp .ne 5, 47), (47, .iload_n 3, 48), (48, .ireturn, 49), (49, .iload 5, 51), (51, .istore_n 3, 52), (52, .iinc 4 1, 55), (55, .goto (-39), 58), (58, .iconst (-1), 59), (59, .ireturn, 60)]
def i_An_boundOf : zkI := (yX0_boundOf, cX0_boundOf, 6, (some .int), 8, tb_An_boundOf, [])
theorem ok_An_boundOf : zkOk i_An_boundOf := by unfold zkOk; decide +kernel
def tb_An_urgentWorkWithin : List (Nat × Instr × Nat) := [(0, .iconst 0, 1), (1, .istore_n 3, 2), (2, .iconst 0, 3), (3, .istore 4, 5), (5, .iload 4, 7), (7, .aload_n 0, 8), (8, .getfield 9, 11), (11, .if_icmp .ge 48, 14), (14, .aload_n 0, 15), (15, .getfield 15, 18), (18, .iload 4, 20), (20, .aaload, 21), (21, .astore 5, 23), (23, .aload 5, 25), (25, .getfield 19, 28), (28, .aload_n 1, 29), (29, .getfield 19, 32), (32, .if_icmp .le 21, 35), (35, .iload_n 3, 36), (36, .aload 5, 38), (38, .getfield 53, 41), (41, .iload_n 2, 42), (42, .aload 5, 44), (44, .getfield 59, 47), (47, .invokestatic 62, 50), (50, .imul, 51), (51, .iadd, 52), (52, .istore_n 3, 53), (53, .iinc 4 1, 56), (56, .goto (-51), 59), (59, .aload_n 0, 60), (60, .aload_n 1, 61), (61, .invokestatic 65, 64), (64, .ifCond .eq 25, 67), (67, .iload_n 3, 68), (68, .aload_n 0, 69), (69, .getfield 69, 72), (72, .getfield 73, 75), (75, .iload_n 2, 76), (76, .aload_n 0, 77), (77, .getfield 69, 80), (80, .getfield 78, 83), (83, .invokestatic 62, 86), (86, .imul, 87), (87, .iadd, 88), (88, .istore_n 3, 89), (89, .iload_n 3, 90), (90, .ireturn, 91)]
def i_An_urgentWorkWithin : zkI := (yX0_urgentWorkWithin, cX0_urgentWorkWithin, 6, (some .int), 8, tb_An_urgentWorkWithin, [])
theorem ok_An_urgentWorkWithin : zkOk i_An_urgentWorkWithin := by unfold zkOk; decide +kernel
def tb_An_isServerAbove : List (Nat × Instr × Nat) := [(0, .aload_n 0, 1), (1, .getfield 69, 4), (4, .getfield 79, 7), (7, .ifCond .eq 21, 10), (10, .aload_n 0, 11), (11, .getfield 69, 14), (14, .getfield 83, 17), (17, .aload_n 1, 18), (18, .getfield 19, 21), (21, .if_icmp .le 7, 24), (24, .iconst 1, 25), (25, .goto 4, 28), (28, .iconst 0, 29), (29, .ireturn, 30)]
def i_An_isServerAbove : zkI := (yX0_isServerAbove, cX0_isServerAbove, 2, (some .boolean), 8, tb_An_isServerAbove, [])
theorem ok_An_isServerAbove : zkOk i_An_isServerAbove := by unfold zkOk; decide +kernel
def tb_An_quotientUp : List (Nat × Instr × Nat) := [(0, .iload_n 1, 1), (1, .iconst 1, 2), (2, .if_icmp .ge 7, 5), (5, .iconst 0, 6), (6, .goto 10, 9), (9, .iload_n 0, 10), (10, .iload_n 1, 11), (11, .iadd, 12), (12, .iconst 1, 13), (13, .isub, 14), (14, .iload_n 1, 15), (15, .idiv, 16), (16, .ireturn, 17)]
def i_An_quotientUp : zkI := (yX0_quotientUp, cX0_quotientUp, 2, (some .int), 8, tb_An_quotientUp, [])
theorem ok_An_quotientUp : zkOk i_An_quotientUp := by unfold zkOk; decide +kernel
def tb_An_witnessOf : List (Nat × Instr × Nat) := [(0, .aload_n 0, 1), (1, .aload_n 1, 2), (2, .invokestatic 49, 5), (5, .istore_n 2, 6), (6, .aload_n 1, 7), (7, .getfield 53, 10), (10, .istore_n 3, 11), (11, .iconst 0, 12), (12, .istore 4, 14), (14, .iconst 0, 15), (15, .istore 5, 17), (17, .iload 5, 19), (19, .sipush 1000, 22), (22, .if_icmp .ge 50, 25), (25, .iload 4, 27), (27, .aload_n 0, 28), (28, .aload_n 1, 29), (29, .iload 5, 31), (31, .invokestatic 84, 34), (34, .iadd, 35), (35, .istore 4, 37), (37, .iload 5, 39), (39, .iload_n 2, 40), (40, .if_icmp .lt 17, 43), (43, .iload 4, 45), (45, .ifCond .le 9, 48), (48, .iinc 4 (-1), 51), (51, .goto 6, 54), (54, .iinc 3 (-1), 57), (57, .iload_n 3, 58), (58, .ifCond .ne 8, 61), (61, .iload 5, 63), (63, .iconst 1, 64), (64, .iadd, 65), (65, .ireturn, 66), (66, .iinc 5 1, 69), (69, .goto (-52), 72), (72, .iconst (-1), 73), (73, .ireturn, 74)]
def i_An_witnessOf : zkI := (yX0_witnessOf, cX0_witnessOf, 6, (some .int), 8, tb_An_witnessOf, [])
theorem ok_An_witnessOf : zkOk i_An_witnessOf := by unfold zkOk; decide +kernel
def tb_An_urgentWorkReleasedAt : List (Nat × Instr × Nat) := [(0, .iconst 0, 1), (1, .istore_n 3, 2), (2, .iconst 0, 3), (3, .istore 4, 5), (5, .iload 4, 7), (7, .aload_n 0, 8), (8, .getfield 9, 11), (11, .if_icmp .ge 50, 14), (14, .aload_n 0, 15), (15, .getfield 15, 18), (18, .iload 4, 20), (20, .aaload, 21), (21, .astore 5, 23), (23, .aload 5, 25), (25, .getfield 19, 28), (28, .aload_n 1, 29), (29, .getfield 19, 32), (32, .if_icmp .le 23, 35), (35, .iload_n 2, 36), (36, .aload 5, 38), (38, .getfield 59, 41), (41, .invokestatic 87, 44), (44, .ifCond .eq 11, 47), (47, .iload_n 3, 48), (48, .aload 5, 50), (50, .getfield 53, 53), (53, .iadd, 54), (54, .istore_n 3, 55), (55, .iinc 4 1, 58), (58, .goto (-53), 61), (61, .aload_n 0, 62), (62, .aload_n 1, 63), (63, .invokestatic 65, 66), (66, .ifCond .eq 27, 69), (69, .iload_n 2, 70), (70, .aload_n 0, 71), (71, .getfield 69, 74), (74, .getfield 78, 77), (77, .invokestatic 87, 80), (80, .ifCond .eq 13, 83), (83, .iload_n 3, 84), (84, .aload_n 0, 85), (85, .getfield 69, 88), (88, .getfield 73, 91), (91, .iadd, 92), (92, .istore_n 3, 93), (93, .iload_n 3, 94), (94, .ireturn, 95)]
def i_An_urgentWorkReleasedAt : zkI := (yX0_urgentWorkReleasedAt, cX0_urgentWorkReleasedAt, 6, (some .int), 8, tb_An_urgentWorkReleasedAt, [])
theorem ok_An_urgentWorkReleasedAt : zkOk i_An_urgentWorkReleasedAt := by unfold zkOk; decide +kernel
def tb_An_isMultiple : List (Nat × Instr × Nat) := [(0, .iload_n 1, 1), (1, .ifCond .le 13, 4), (4, .iload_n 0, 5), (5, .iload_n 1, 6), (6, .irem, 7), (7, .ifCond .ne 7, 10), (10, .iconst 1, 11), (11, .goto 4, 14), (14, .iconst 0, 15), (15, .ireturn, 16)]
def i_An_isMultiple : zkI := (yX0_isMultiple, cX0_isMultiple, 2, (some .boolean), 8, tb_An_isMultiple, [])
theorem ok_An_isMultiple : zkOk i_An_isMultiple := by unfold zkOk; decide +kernel
def tb_An_meetsDeadlines : List (Nat × Instr × Nat) := [(0, .iconst 0, 1), (1, .istore_n 1, 2), (2, .iload_n 1, 3), (3, .aload_n 0, 4), (4, .getfield 9, 7), (7, .if_icmp .ge 41, 10), (10, .aload_n 0, 11), (11, .getfield 15, 14), (14, .iload_n 1, 15), (15, .aaload, 16), (16, .astore_n 2, 17), (17, .aload_n 2, 18), (18, .getfield 36, 21), (21, .ifCond .le 21, 24), (24, .aload_n 0, 25), (25, .aload_n 2, 26), (26, .invokestatic 91, 29), (29, .iconst 1, 30), (30, .aload_n 2, 31), (31, .getfield 94, 34), (34, .invokestatic 97, 37), (37, .ifCond .ne 5, 40), (40, .iconst 0, 41), (41, .ireturn, 42), (42, .iinc 1 1, 45), (45, .goto (-43), 48), (48, .iconst 1, 49), (49, .ireturn, 50)]
def i_An_meetsDeadlines : zkI := (yX0_meetsDeadlines, cX0_meetsDeadlines, 3, (some .boolean), 8, tb_An_meetsDeadlines, [])
theorem ok_An_meetsDeadlines : zkOk i_An_meetsDeadlines := by unfold zkOk; decide +kernel
def tb_An_loadOf : List (Nat × Instr × Nat) := [(0, .dconst 0, 1), (1, .dstore_n 1, 2), (2, .iconst 0, 3), (3, .istore_n 3, 4), (4, .iload_n 3, 5), (5, .aload_n 0, 6), (6, .getfield 9, 9), (9, .if_icmp .ge 33, 12), (12, .dload_n 1, 13), (13, .aload_n 0, 14), (14, .getfield 15, 17), (17, .iload_n 3, 18), (18, .aaload, 19), (19, .getfield 53, 22), (22, .aload_n 0, 23), (23, .getfield 15, 26), (26, .iload_n 3, 27), (27, .aaload, 28), (28, .getfield 59, 31), (31, .invokestatic 101, 34), (34, .dadd, 35), (35, .dstore_n 1, 36), (36, .iinc 3 1, 39), (39, .goto (-35), 42), (42, .aload_n 0, 43), (43, .getfield 69, 46), (46, .getfield 79, 49), (49, .ifCond .eq 23, 52), (52, .dload_n 1, 53), (53, .aload_n 0, 54), (54, .getfield 69, 57), (57, .getfield 73, 60), (60, .aload_n 0, 61), (61, .getfield 69, 64), (64, .getfield 78, 67), (67, .invokestatic 101, 70), (70, .dadd, 71), (71, .dstore_n 1, 72), (72, .dload_n 1, 73), (73, .dreturn, 74)]
def i_An_loadOf : zkI := (yX0_loadOf, cX0_loadOf, 4, (some .double), 8, tb_An_loadOf, [])
theorem ok_An_loadOf : zkOk i_An_loadOf := by unfold zkOk; decide +kernel
def tb_An_hyperbolicLoadOf : List (Nat × Instr × Nat) := [(0, .dconst 1, 1), (1, .dstore_n 1, 2), (2, .iconst 0, 3), (3, .istore_n 3, 4), (4, .iload_n 3, 5), (5, .aload_n 0, 6), (6, .getfield 9, 9), (9, .if_icmp .ge 35, 12), (12, .dload_n 1, 13), (13, .aload_n 0, 14), (14, .getfield 15, 17), (17, .iload_n 3, 18), (18, .aaload, 19), (19, .getfield 53, 22), (22, .aload_n 0, 23), (23, .getfield 15, 26), (26, .iload_n 3, 27), (27, .aaload, 28), (28, .getfield 59, 31), (31, .invokestatic 101, 34), (34, .dconst 1, 35), (35, .dadd, 36), (36, .dmul, 37), (37, .dstore_n 1, 38), (38, .iinc 3 1, 41), (41, .goto (-37), 44), (44, .aload_n 0, 45), (45, .getfield 69, 48), (48, .getfield 79, 51), (51, .ifCond .eq 25, 54), (54, .dload_n 1, 55), (55, .aload_n 0, 56), (56, .getfield 69, 59), (59, .getfield 73, 62), (62, .aload_n 0, 63), (63, .getfield 69, 66), (66, .getfield 78, 69), (69, .invokestatic 101, 72), (72, .dconst 1, 73), (73, .dadd, 74), (74, .dmul, 75), (75, .dstore_n 1, 76), (76, .dload_n 1, 77), (77, .dreturn, 78)]
def i_An_hyperbolicLoadOf : zkI := (yX0_hyperbolicLoadOf, cX0_hyperbolicLoadOf, 4, (some .double), 8, tb_An_hyperbolicLoadOf, [])
theorem ok_An_hyperbolicLoadOf : zkOk i_An_hyperbolicLoadOf := by unfold zkOk; decide +kernel
def tb_An_share : List (Nat × Instr × Nat) := [(0, .iload_n 1, 1), (1, .iconst 1, 2), (2, .if_icmp .ge 7, 5), (5, .dconst 0, 6), (6, .goto 8, 9), (9, .iload_n 0, 10), (10, .i2d, 11), (11, .iload_n 1, 12), (12, .i2d, 13), (13, .ddiv, 14), (14, .dreturn, 15)]
def i_An_share : zkI := (yX0_share, cX0_share, 2, (some .double), 8, tb_An_share, [])
theorem ok_An_share : zkOk i_An_share := by unfold zkOk; decide +kernel
def tb_Be_init : List (Nat × Instr × Nat) := [(0, .aload_n 0, 1), (1, .invokespecial 3, 4), (4, .aload_n 0, 5), (5, .iconst 5, 6), (6, .anewarray 9, 9), (9, .putfield 11, 12), (12, .aload_n 0, 13), (13, .new 17, 16), (16, .dup, 17), (17, .invokespecial 19, 20), (20, .putfield 20, 23), (23, .aload_n 0, 24), (24, .new 24, 27), (27, .dup, 28), (28, .invokespecial 26, 31), (31, .putfield 27, 34), (34, .aload_n 0, 35), (35, .iconst 4, 36), (36, .newarray .int, 38), (38, .putfield 31, 41), (41, .aload_n 0, 42), (42, .sipush 400, 45), (45, .newarray .int, 47), (47, .putfield 35, 50), (50, .iconst 0, 51), (51, .istore_n 1, 52), (52, .iload_n 1, 53), (53, .iconst 5, 54), (54, .if_icmp .ge 22, 57), (57, .aload_n 0, 58), (58, .getfield 11, 61), (61, .iload_n 1, 62), (62, .new 9, 65), (65, .dup, 66), (66, .invokespecial 38, 69), (69, .aastore, 70), (70, .iinc 1 1, 73), (73, .goto (-21), 76), (76, .return_, 77)]
def i_Be_init : zkI := (yX1_init, cX1_init, 2, none, 0, tb_Be_init, [])
theorem ok_Be_init : zkOk i_Be_init := by unfold zkOk; decide +kernel
def tb_Be_hasTask : List (Nat × Instr × Nat) := [(0, .iload_n 1, 1), (1, .iconst 0, 2), (2, .aload_n 0, 3), (3, .getfield 39, 6), (6, .iconst 1, 7), (7, .isub, 8), (8, .invokestatic 43, 11), (11, .ireturn, 12)]
def i_Be_hasTask : zkI := (yX1_hasTask, cX1_hasTask, 2, (some .boolean), 0, tb_Be_hasTask, [])
theorem ok_Be_hasTask : zkOk i_Be_hasTask := by unfold zkOk; decide +kernel
def tb_Be_removeAll : List (Nat × Instr × Nat) := [(0, .aload_n 0, 1), (1, .getfield 39, 4), (4, .istore_n 1, 5), (5, .aload_n 0, 6), (6, .invokevirtual 47, 9), (9, .pop, 10), (10, .aload_n 0, 11), (11, .iconst 0, 12), (12, .putfield 39, 15), (15, .aload_n 0, 16), (16, .getfield 20, 19), (19, .iconst 0, 20), (20, .putfield 51, 23), (23, .aload_n 0, 24), (24, .getfield 27, 27), (27, .invokevirtual 55, 30), (30, .aload_n 0, 31), (31, .iconst 0, 32), (32, .putfield 58, 35), (35, .iconst 0, 36), (36, .istore_n 2, 37), (37, .iload_n 2, 38), (38, .iconst 4, 39), (39, .if_icmp .ge 16, 42), (42, .aload_n 0, 43), (43, .getfield 31, 46), (46, .iload_n 2, 47), (47, .iconst 0, 48), (48, .iastore, 49), (49, .iinc 2 1, 52), (52, .goto (-15), 55), (55, .iload_n 1, 56), (56, .ireturn, 57)]
def i_Be_removeAll : zkI := (yX1_removeAll, cX1_removeAll, 3, (some .int), 0, tb_Be_removeAll, [])
theorem ok_Be_removeAll : zkOk i_Be_removeAll := by unfold zkOk; decide +kernel
def tb_Be_startAgain : List (Nat × Instr × Nat) := [(0, .aload_n 0, 1), (1, .getfield 61, 4), (4, .istore_n 1, 5), (5, .iconst 0, 6), (6, .istore_n 2, 7), (7, .iload_n 2, 8), (8, .aload_n 0, 9), (9, .getfield 39, 12), (12, .if_icmp .ge 18, 15), (15, .aload_n 0, 16), (16, .getfield 11, 19), (19, .iload_n 2, 20), (20, .aaload, 21), (21, .invokevirtual 64, 24), (24, .iinc 2 1, 27), (27, .goto (-20), 30), (30, .aload_n 0, 31), (31, .getfield 20, 34), (34, .invokevirtual 66, 37), (37, .aload_n 0, 38), (38, .getfield 27, 41), (41, .invokevirtual 67, 44), (44, .aload_n 0, 45), (45, .iconst 0, 46), (46, .putfield 61, 49), (49, .iload_n 1, 50), (50, .ireturn, 51)]
def i_Be_startAgain : zkI := (yX1_startAgain, cX1_startAgain, 3, (some .int), 0, tb_Be_startAgain, [])
theorem ok_Be_startAgain : zkOk i_Be_startAgain := by unfold zkOk; decide +kernel
def tb_Be_putTask : List (Nat × Instr × Nat) := [(0, .iload_n 1, 1), (1, .iconst 1, 2), (2, .bipush 9, 4), (4, .invokestatic 43, 7), (7, .ifCond .eq 33, 10), (10, .iload_n 2, 11), (11, .iconst 1, 12), (12, .bipush 60, 14), (14, .invokestatic 43, 17), (17, .ifCond .eq 23, 20), (20, .iload_n 3, 21), (21, .iconst 1, 22), (22, .iload_n 2, 23), (23, .invokestatic 43, 26), (26, .ifCond .eq 14, 29), (29, .iload 4, 31), (31, .iconst 0, 32), (32, .bipush 60, 34), (34, .invokestatic 43, 37), (37, .ifCond .ne 6, 40), (40, .bipush (-2), 42), (42, .ireturn, 43), (43, .aload_n 0, 44), (44, .getfield 61, 47), (47, .ifCond .ne 11, 50), (50, .aload_n 0, 51), (51, .getfield 39, 54), (54, .iconst 5, 55), (55, .if_icmp .lt 6, 58), (58, .bipush (-3), 60), (60, .ireturn, 61), (61, .aload_n 0, 62), (62, .iload_n 1, 63), (63, .invokevirtual 68, 66), (66, .ifCond .ne 14, 69), (69, .aload_n 0, 70), (70, .getfield 20, 73), (73, .iload_n 1, 74), (74, .invokevirtual 72, 77), (77, .ifCond .eq 6, 80), (80, .bipush (-4), 82), (82, .ireturn, 83), (83, .aload_n 0, 84), (84, .getfield 11, 87), (87, .aload_n 0, 88), (88, .getfield 39, 91), (91, .aaload, 92), (92, .iload_n 1, 93), (93, .iload_n 2, 94), (94, .iload_n 3, 95), (95, .iload 4, 97), (97, .invokevirtual 75, 100), (100, .aload_n 0, 101), (101, .dup, 102), (102, .getfield 39, 105), (105, .iconst 1, 106), (106, .iadd, 107), (107, .putfield 39, 110), (110, .aload_n 0, 111), (111, .getfield 39, 114), (114, .iconst 1, 115), (115, .isub, 116), (116, .ireturn, 117)]
def i_Be_putTask : zkI := (yX1_putTask, cX1_putTask, 5, (some .int), 0, tb_Be_putTask, [])
theorem ok_Be_putTask : zkOk i_Be_putTask := by unfold zkOk; decide +kernel
def tb_Be_isPriorityOfTask : List (Nat × Instr × Nat) := [(0, .iconst 0, 1), (1, .istore_n 2, 2), (2, .iload_n 2, 3), (3, .aload_n 0, 4), (4, .getfield 39, 7), (7, .if_icmp .ge 24, 10), (10, .aload_n 0, 11), (11, .getfield 11, 14), (14, .iload_n 2, 15), (15, .aaload, 16), (16, .getfield 79, 19), (19, .iload_n 1, 20), (20, .if_icmp .ne 5, 23), (23, .iconst 1, 24), (24, .ireturn, 25), (25, .iinc 2 1, 28), (28, .goto (-26), 31), (31, .iconst 0, 32), (32, .ireturn, 33)]
def i_Be_isPriorityOfTask : zkI := (yX1_isPriorityOfTask, cX1_isPriorityOfTask, 3, (some .boolean), 0, tb_Be_isPriorityOfTask, [])
theorem ok_Be_isPriorityOfTask : zkOk i_Be_isPriorityOfTask := by unfold zkOk; decide +kernel
def tb_Be_putSegment : List (Nat × Instr × Nat) := [(0, .aload_n 0, 1), (1, .iload_n 1, 2), (2, .invokevirtual 82, 5), (5, .ifCond .ne 5, 8), (8, .iconst (-1), 9), (9, .ireturn, 10), (10, .iload_n 2, 11), (11, .iconst (-1), 12), (12, .iconst 3, 13), (13, .invokestatic 43, 16), (16, .ifCond .eq 13, 19), (19, .iload_n 3, 20), (20, .iconst 1, 21), (21, .bipush 9, 23), (23, .invokestatic 43, 26), (26, .ifCond .ne 6, 29), (29, .bipush (-2), 31), (31, .ireturn, 32), (32, .aload_n 0, 33), (33, .getfield 11, 36), (36, .iload_n 1, 37), (37, .aaload, 38), (38, .astore 4, 40), (40, .aload_n 0, 41), (41, .getfield 61, 44), (44, .ifCond .ne 13, 47), (47, .aload 4, 49), (49, .getfield 85, 52), (52, .bipush 6, 54), (54, .if_icmp .lt 6, 57), (57, .bipush (-3), 59), (59, .ireturn, 60), (60, .aload 4, 62), (62, .iload_n 2, 63), (63, .iload_n 3, 64), (64, .invokevirtual 88, 67), (67, .iload_n 2, 68), (68, .iconst (-1), 69), (69, .if_icmp .eq 23, 72), (72, .aload_n 0, 73), (73, .getfield 31, 76), (76, .iload_n 2, 77), (77, .aload_n 0, 78), (78, .getfield 31, 81), (81, .iload_n 2, 82), (82, .iaload, 83), (83, .aload 4, 85), (85, .getfield 79, 88), (88, .invokestatic 92, 91), (91, .iastore, 92), (92, .aload 4, 94), (94, .getfield 85, 97), (97, .ireturn, 98)]
def i_Be_putSegment : zkI := (yX1_putSegment, cX1_putSegment, 5, (some .int), 0, tb_Be_putSegment, [])
theorem ok_Be_putSegment : zkOk i_Be_putSegment := by unfold zkOk; decide +kernel
def tb_Be_putServer : List (Nat × Instr × Nat) := [(0, .iload_n 1, 1), (1, .iconst 1, 2), (2, .bipush 9, 4), (4, .invokestatic 43, 7), (7, .ifCond .eq 23, 10), (10, .iload_n 2, 11), (11, .iconst 1, 12), (12, .bipush 9, 14), (14, .invokestatic 43, 17), (17, .ifCond .eq 13, 20), (20, .iload_n 3, 21), (21, .iconst 1, 22), (22, .bipush 60, 24), (24, .invokestatic 43, 27), (27, .ifCond .ne 6, 30), (30, .bipush (-2), 32), (32, .ireturn, 33), (33, .aload_n 0, 34), (34, .getfield 61, 37), (37, .ifCond .eq 6, 40), (40, .bipush (-3), 42), (42, .ireturn, 43), (43, .aload_n 0, 44), (44, .iload_n 1, 45), (45, .invokevirtual 68, 48), (48, .ifCond .eq 6, 51), (51, .bipush (-4), 53), (53, .ireturn, 54), (54, .aload_n 0, 55), (55, .getfield 20, 58), (58, .getfield 51, 61), (61, .ifCond .eq 7, 64), (64, .iconst 1, 65), (65, .goto 4, 68), (68, .iconst 0, 69), (69, .istore 4, 71), (71, .aload_n 0, 72), (72, .getfield 20, 75), (75, .iload_n 1, 76), (76, .iload_n 2, 77), (77, .iload_n 3, 78), (78, .invokevirtual 98, 81), (81, .iload 4, 83), (83, .ireturn, 84)]
def i_Be_putServer : zkI := (yX1_putServer, cX1_putServer, 5, (some .int), 0, tb_Be_putServer, [])
theorem ok_Be_putServer : zkOk i_Be_putServer := by unfold zkOk; decide +kernel
def tb_Be_putRequest : List (Nat × Instr × Nat) := [(0, .iload_n 1, 1), (1, .iconst 0, 2), (2, .sipush 300, 5), (5, .invokestatic 43, 8), (8, .ifCond .eq 21, 11), (11, .iload_n 2, 12), (12, .iconst 1, 13), (13, .bipush 9, 15), (15, .invokestatic 43, 18), (18, .ifCond .eq 11, 21), (21, .iload_n 1, 22), (22, .aload_n 0, 23), (23, .getfield 61, 26), (26, .if_icmp .ge 6, 29), (29, .bipush (-2), 31), (31, .ireturn, 32), (32, .aload_n 0, 33), (33, .getfield 27, 36), (36, .invokevirtual 101, 39), (39, .ifCond .eq 6, 42), (42, .bipush (-3), 44), (44, .ireturn, 45), (45, .aload_n 0, 46), (46, .getfield 27, 49), (49, .iload_n 1, 50), (50, .iload_n 2, 51), (51, .invokevirtual 105, 54), (54, .ireturn, 55)]
def i_Be_putRequest : zkI := (yX1_putRequest, cX1_putRequest, 3, (some .int), 0, tb_Be_putRequest, [])
theorem ok_Be_putRequest : zkOk i_Be_putRequest := by unfold zkOk; decide +kernel
def tb_Be_putPolicy : List (Nat × Instr × Nat) := [(0, .iload_n 1, 1), (1, .iconst 0, 2), (2, .iconst 2, 3), (3, .invokestatic 43, 6), (6, .ifCond .ne 6, 9), (9, .bipush (-2), 11), (11, .ireturn, 12), (12, .aload_n 0, 13), (13, .getfield 58, 16), (16, .istore_n 2, 17), (17, .aload_n 0, 18), (18, .iload_n 1, 19), (19, .putfield 58, 22), (22, .iload_n 2, 23), (23, .ireturn, 24)]
def i_Be_putPolicy : zkI := (yX1_putPolicy, cX1_putPolicy, 3, (some .int), 0, tb_Be_putPolicy, [])
theorem ok_Be_putPolicy : zkOk i_Be_putPolicy := by unfold zkOk; decide +kernel
def tb_Be_makeUnits : List (Nat × Instr × Nat) := [(0, .iconst 0, 1), (1, .istore_n 2, 2), (2, .iconst 0, 3), (3, .istore_n 3, 4), (4, .iload_n 3, 5), (5, .iload_n 1, 6), (6, .if_icmp .ge 26, 9), (9, .aload_n 0, 10), (10, .getfield 61, 13), (13, .sipush 400, 16), (16, .if_icmp .ge 16, 19), (19, .iload_n 2, 20), (20, .aload_n 0, 21), (21, .invokevirtual 108, 24), (24, .iadd, 25), (25, .istore_n 2, 26), (26, .iinc 3 1, 29), (29, .goto (-25), 32), (32, .iload_n 2, 33), (33, .ireturn, 34)]
def i_Be_makeUnits : zkI := (yX1_makeUnits, cX1_makeUnits, 4, (some .int), 0, tb_Be_makeUnits, [])
theorem ok_Be_makeUnits : zkOk i_Be_makeUnits := by unfold zkOk; decide +kernel
def tb_Be_makeUnit : List (Nat × Instr × Nat) := [(0, .aload_n 0, 1), (1, .getfield 61, 4), (4, .istore_n 1, 5), (5, .aload_n 0, 6), (6, .getfield 20, 9), (9, .iload_n 1, 10), (10, .invokevirtual 111, 13), (13, .iconst 0, 14), (14, .istore_n 2, 15), (15, .iload_n 2, 16), (16, .aload_n 0, 17), (17, .getfield 39, 20), (20, .if_icmp .ge 19, 23), (23, .aload_n 0, 24), (24, .getfield 11, 27), (27, .iload_n 2, 28), (28, .aaload, 29), (29, .iload_n 1, 30), (30, .invokevirtual 115, 33), (33, .iinc 2 1, 36), (36, .goto (-21), 39), (39, .iconst 0, 40), (40, .istore_n 2, 41), (41, .iload_n 2, 42), (42, .aload_n 0, 43), (43, .getfield 39, 46), (46, .if_icmp .ge 23, 49), (49, .aload_n 0, 50), (50, .getfield 11, 53), (53, .iload_n 2, 54), (54, .aaload, 55), (55, .iload_n 1, 56), (56, .aload_n 0, 57), (57, .getfield 58, 60), (60, .invokevirtual 118, 63), (63, .iinc 2 1, 66), (66, .goto (-25), 69), (69, .aload_n 0, 70), (70, .getfield 27, 73), (73, .iload_n 1, 74), (74, .invokevirtual 121, 77), (77, .istore_n 2, 78), (78, .aload_n 0, 79), (79, .aload_n 0, 80), (80, .getfield 20, 83), (83, .iload_n 2, 84), (84, .iconst (-1), 85), (85, .if_icmp .eq 7, 88), (88, .iconst 1, 89), (89, .goto 4, 92), (92, .iconst 0, 93), (93, .invokevirtual 125, 96), (96, .invokevirtual 129, 99), (99, .istore_n 3, 100), (100, .aload_n 0, 101), (101, .iload_n 3, 102), (102, .invokevirtual 133, 105), (105, .aload_n 0, 106), (106, .getfield 35, 109), (109, .iload_n 1, 110), (110, .iload_n 3, 111), (111, .iastore, 112), (112, .aload_n 0, 113), (113, .iload_n 1, 114), (114, .iconst 1, 115), (115, .iadd, 116), (116, .putfield 61, 119), (119, .iconst 0, 120), (120, .istore 4, 122), (122, .iload_n 3, 123), (123, .bipush 9, 125), (125, .if_icmp .ne 26, 128), (128, .aload_n 0, 129), (129, .getfield 20, 132), (132, .iload_n 1, 133), (133, .invokevirtual 136, 136), (136, .aload_n 0, 137), (137, .getfield 27, 140), (140, .iload_n 2, 141), (141, .aload_n 0, 142), (142, .getfield 61, 145), (145, .invokevirtual 139, 148), (148, .goto 26, 151), (151, .aload_n 0, 152), (152, .iload_n 3, 153), (153, .invokevirtual 82, 156), (156, .ifCond .eq 18, 159), (159, .aload_n 0, 160), (160, .getfield 11, 163), (163, .iload_n 3, 164), (164, .aaload, 165), (165, .aload_n 0, 166), (166, .getfield 61, 169), (169, .invokevirtual 142, 172), (172, .istore 4, 174), (174, .aload_n 0, 175), (175, .getfield 20, 178), (178, .aload_n 0, 179), (179, .getfield 61, 182), (182, .aload_n 0, 183), (183, .getfield 27, 186), (186, .iload_n 1, 187), (187, .invokevirtual 121, 190), (190, .iconst (-1), 191), (191, .if_icmp .eq 7, 194), (194, .iconst 1, 195), (195, .goto 4, 198), (198, .iconst 0, 199), (199, .invokevirtual 144, 202), (202, .iload 4, 204), (204, .ifCond .eq 7, 207), (207, .iconst 1, 208), (208, .goto 4, 211), (211, .iconst 0, 212), (212, .ireturn, 213)]
def i_Be_makeUnit : zkI := (yX1_makeUnit, cX1_makeUnit, 5, (some .int), 0, tb_Be_makeUnit, [])
theorem ok_Be_makeUnit : zkOk i_Be_makeUnit := by unfold zkOk; decide +kernel
def tb_Be_mostUrgent : List (Nat × Instr × Nat) := [(0, .iload_n 1, 1), (1, .ifCond .eq 8, 4), (4, .bipush 9, 6), (6, .goto 4, 9), (9, .iconst (-1), 10), (10, .istore_n 2, 11), (11, .iload_n 1, 12), (12, .ifCond .eq 13, 15), (15, .aload_n 0, 16), (16, .getfield 20, 19), (19, .getfield 148, 22), (22, .goto 4, 25), (25, .iconst 0, 26), (26, .istore_n 3, 27), (27, .iconst 0, 28), (28, .istore 4, 30), (30, .iload 4, 32), (32, .aload_n 0, 33), (33, .getfield 39, 36), (36, .if_icmp .ge 73, 39), (39, .aload_n 0, 40), (40, .getfield 11, 43), (43, .iload 4, 45), (45, .aaload, 46), (46, .getfield 149, 49), (49, .invokevirtual 153, 52), (52, .ifCond .eq 6, 55), (55, .goto 48, 58), (58, .aload_n 0, 59), (59, .aload_n 0, 60), (60, .getfield 11, 63), (63, .iload 4, 65), (65, .aaload, 66), (66, .invokevirtual 158, 69), (69, .istore 5, 71), (71, .iload 5, 73), (73, .iload_n 3, 74), (74, .if_icmp .gt 23, 77), (77, .iload 5, 79), (79, .iload_n 3, 80), (80, .if_icmp .ne 23, 83), (83, .aload_n 0, 84), (84, .getfield 11, 87), (87, .iload 4, 89), (89, .aaload, 90), (90, .invokevirtual 162, 93), (93, .iconst (-1), 94), (94, .if_icmp .eq 9, 97), (97, .iload 4, 99), (99, .istore_n 2, 100), (100, .iload 5, 102), (102, .istore_n 3, 103), (103, .iinc 4 1, 106), (106, .goto (-76), 109), (109, .iload_n 2, 110), (110, .ireturn, 111)]
def i_Be_mostUrgent : zkI := (yX1_mostUrgent, cX1_mostUrgent, 6, (some .int), 0, tb_Be_mostUrgent, [])
theorem ok_Be_mostUrgent : zkOk i_Be_mostUrgent := by unfold zkOk; decide +kernel
def tb_Be_urgencyOf : List (Nat × Instr × Nat) := [(0, .aload_n 1, 1), (1, .invokevirtual 162, 4), (4, .istore_n 2, 5), (5, .iload_n 2, 6), (6, .iconst (-1), 7), (7, .if_icmp .ne 10, 10), (10, .aload_n 1, 11), (11, .getfield 79, 14), (14, .goto 16, 17), (17, .aload_n 1, 18), (18, .getfield 79, 21), (21, .aload_n 0, 22), (22, .getfield 31, 25), (25, .iload_n 2, 26), (26, .iaload, 27), (27, .invokestatic 92, 30), (30, .ireturn, 31)]
def i_Be_urgencyOf : zkI := (yX1_urgencyOf, cX1_urgencyOf, 3, (some .int), 0, tb_Be_urgencyOf, [])
theorem ok_Be_urgencyOf : zkOk i_Be_urgencyOf := by unfold zkOk; decide +kernel
def tb_Be_notePreemption : List (Nat × Instr × Nat) := [(0, .aload_n 0, 1), (1, .getfield 61, 4), (4, .ifCond .le 17, 7), (7, .aload_n 0, 8), (8, .getfield 35, 11), (11, .aload_n 0, 12), (12, .getfield 61, 15), (15, .iconst 1, 16), (16, .isub, 17), (17, .iaload, 18), (18, .goto 4, 21), (21, .iconst (-1), 22), (22, .istore_n 2, 23), (23, .iload_n 2, 24), (24, .iload_n 1, 25), (25, .if_icmp .eq 38, 28), (28, .aload_n 0, 29), (29, .iload_n 2, 30), (30, .invokevirtual 82, 33), (33, .ifCond .eq 30, 36), (36, .aload_n 0, 37), (37, .getfield 11, 40), (40, .iload_n 2, 41), (41, .aaload, 42), (42, .invokevirtual 165, 45), (45, .ifCond .eq 18, 48), (48, .aload_n 0, 49), (49, .getfield 11, 52), (52, .iload_n 2, 53), (53, .aaload, 54), (54, .getfield 168, 57), (57, .iconst 4, 58), (58, .dup2, 59), (59, .iaload, 60), (60, .iconst 1, 61), (61, .iadd, 62), (62, .iastore, 63), (63, .return_, 64)]
def i_Be_notePreemption : zkI := (yX1_notePreemption, cX1_notePreemption, 3, none, 0, tb_Be_notePreemption, [])
theorem ok_Be_notePreemption : zkOk i_Be_notePreemption := by unfold zkOk; decide +kernel
def tb_Be_holderOf : List (Nat × Instr × Nat) := [(0, .iconst 0, 1), (1, .istore_n 2, 2), (2, .iload_n 2, 3), (3, .aload_n 0, 4), (4, .getfield 39, 7), (7, .if_icmp .ge 24, 10), (10, .aload_n 0, 11), (11, .getfield 11, 14), (14, .iload_n 2, 15), (15, .aaload, 16), (16, .invokevirtual 162, 19), (19, .iload_n 1, 20), (20, .if_icmp .ne 5, 23), (23, .iload_n 2, 24), (24, .ireturn, 25), (25, .iinc 2 1, 28), (28, .goto (-26), 31), (31, .iconst (-1), 32), (32, .ireturn, 33)]
def i_Be_holderOf : zkI := (yX1_holderOf, cX1_holderOf, 3, (some .int), 0, tb_Be_holderOf, [])
theorem ok_Be_holderOf : zkOk i_Be_holderOf := by unfold zkOk; decide +kernel
def tb_Be_usedUnits : List (Nat × Instr × Nat) := [(0, .iconst 0, 1), (1, .istore_n 1, 2), (2, .iconst 0, 3), (3, .istore_n 2, 4), (4, .iload_n 2, 5), (5, .aload_n 0, 6), (6, .getfield 61, 9), (9, .if_icmp .ge 22, 12), (12, .aload_n 0, 13), (13, .getfield 35, 16), (16, .iload_n 2, 17), (17, .iaload, 18), (18, .iconst (-1), 19), (19, .if_icmp .eq 6, 22), (22, .iinc 1 1, 25), (25, .iinc 2 1, 28), (28, .goto (-24), 31), (31, .iload_n 1, 32), (32, .ireturn, 33)]
def i_Be_usedUnits : zkI := (yX1_usedUnits, cX1_usedUnits, 3, (some .int), 0, tb_Be_usedUnits, [])
theorem ok_Be_usedUnits : zkOk i_Be_usedUnits := by unfold zkOk; decide +kernel
def tb_Be_copyFrom : List (Nat × Instr × Nat) := [(0, .iconst 0, 1), (1, .istore_n 2, 2), (2, .iload_n 2, 3), (3, .iconst 5, 4), (4, .if_icmp .ge 24, 7), (7, .aload_n 0, 8), (8, .getfield 11, 11), (11, .iload_n 2, 12), (12, .aaload, 13), (13, .aload_n 1, 14), (14, .getfield 11, 17), (17, .iload_n 2, 18), (18, .aaload, 19), (19, .invokevirtual 171, 22), (22, .iinc 2 1, 25), (25, .goto (-23), 28), (28, .aload_n 0, 29), (29, .getfield 20, 32), (32, .aload_n 1, 33), (33, .getfield 20, 36), (36, .invokevirtual 175, 39), (39, .aload_n 0, 40), (40, .getfield 27, 43), (43, .aload_n 1, 44), (44, .getfield 27, 47), (47, .invokevirtual 178, 50), (50, .aload_n 1, 51), (51, .getfield 31, 54), (54, .iconst 0, 55), (55, .aload_n 0, 56), (56, .getfield 31, 59), (59, .iconst 0, 60), (60, .aload_n 0, 61), (61, .getfield 31, 64), (64, .arraylength, 65), (65, .invokestatic 181, 68), (68, .aload_n 1, 69), (69, .getfield 35, 72), (72, .iconst 0, 73), (73, .aload_n 0, 74), (74, .getfield 35, 77), (77, .iconst 0, 78), (78, .aload_n 0, 79), (79, .getfield 35, 82), (82, .arraylength, 83), (83, .invokestatic 181, 86), (86, .aload_n 0, 87), (87, .aload_n 1, 88), (88, .getfield 39, 91), (91, .putfield 39, 94), (94, .aload_n 0, 95), (95, .aload_n 1, 96), (96, .getfield 58, 99), (99, .putfield 58, 102), (102, .aload_n 0, 103), (103, .aload_n 1, 104), (104, .getfield 61, 107), (107, .putfield 61, 110), (110, .return_, 111)]
def i_Be_copyFrom : zkI := (yX1_copyFrom, cX1_copyFrom, 3, none, 0, tb_Be_copyFrom, [])
theorem ok_Be_copyFrom : zkOk i_Be_copyFrom := by unfold zkOk; decide +kernel
def tb_Jo_init : List (Nat × Instr × Nat) := [(0, .aload_n 0, 1), (1, .invokespecial 3, 4), (4, .aload_n 0, 5), (5, .sipush 400, 8), (8, .newarray .int, 10), (10, .putfield 9, 13), (13, .return_, 14)]
def i_Jo_init : zkI := (yX2_init, cX2_init, 1, none, 1, tb_Jo_init, [])
theorem ok_Jo_init : zkOk i_Jo_init := by unfold zkOk; decide +kernel
def tb_Jo_removeAll : List (Nat × Instr × Nat) := [(0, .aload_n 0, 1), (1, .iconst 0, 2), (2, .putfield 15, 5), (5, .aload_n 0, 6), (6, .iconst 0, 7), (7, .putfield 19, 10), (10, .return_, 11)]
def i_Jo_removeAll : zkI := (yX2_removeAll, cX2_removeAll, 1, none, 1, tb_Jo_removeAll, [])
theorem ok_Jo_removeAll : zkOk i_Jo_removeAll := by unfold zkOk; decide +kernel
def tb_Jo_isEmpty : List (Nat × Instr × Nat) := [(0, .aload_n 0, 1), (1, .getfield 15, 4), (4, .aload_n 0, 5), (5, .getfield 19, 8), (8, .if_icmp .ne 7, 11), (11, .iconst 1, 12), (12, .goto 4, 15), (15, .iconst 0, 16), (16, .ireturn, 17)]
def i_Jo_isEmpty : zkI := (yX2_isEmpty, cX2_isEmpty, 1, (some .boolean), 1, tb_Jo_isEmpty, [])
theorem ok_Jo_isEmpty : zkOk i_Jo_isEmpty := by unfold zkOk; decide +kernel
def tb_Jo_size : List (Nat × Instr × Nat) := [(0, .aload_n 0, 1), (1, .getfield 19, 4), (4, .aload_n 0, 5), (5, .getfield 15, 8), (8, .isub, 9), (9, .ireturn, 10)]
def i_Jo_size : zkI := (yX2_size, cX2_size, 1, (some .int), 1, tb_Jo_size, [])
theorem ok_Jo_size : zkOk i_Jo_size := by unfold zkOk; decide +kernel
def tb_Jo_add : List (Nat × Instr × Nat) := [(0, .aload_n 0, 1), (1, .getfield 19, 4), (4, .aload_n 0, 5), (5, .getfield 9, 8), (8, .arraylength, 9), (9, .if_icmp .ge 23, 12), (12, .aload_n 0, 13), (13, .getfield 9, 16), (16, .aload_n 0, 17), (17, .getfield 19, 20), (20, .iload_n 1, 21), (21, .iastore, 22), (22, .aload_n 0, 23), (23, .dup, 24), (24, .getfield 19, 27), (27, .iconst 1, 28), (28, .iadd, 29), (29, .putfield 19, 32), (32, .return_, 33)]
def i_Jo_add : zkI := (yX2_add, cX2_add, 2, none, 1, tb_Jo_add, [])
theorem ok_Jo_add : zkOk i_Jo_add := by unfold zkOk; decide +kernel
def tb_Jo_firstRelease : List (Nat × Instr × Nat) := [(0, .aload_n 0, 1), (1, .getfield 15, 4), (4, .aload_n 0, 5), (5, .getfield 19, 8), (8, .if_icmp .ge 15, 11), (11, .aload_n 0, 12), (12, .getfield 9, 15), (15, .aload_n 0, 16), (16, .getfield 15, 19), (19, .iaload, 20), (20, .goto 4, 23), (23, .iconst (-1), 24), (24, .ireturn, 25)]
def i_Jo_firstRelease : zkI := (yX2_firstRelease, cX2_firstRelease, 1, (some .int), 1, tb_Jo_firstRelease, [])
theorem ok_Jo_firstRelease : zkOk i_Jo_firstRelease := by unfold zkOk; decide +kernel
def tb_Jo_removeFirst : List (Nat × Instr × Nat) := [(0, .aload_n 0, 1), (1, .getfield 15, 4), (4, .aload_n 0, 5), (5, .getfield 19, 8), (8, .if_icmp .ge 13, 11), (11, .aload_n 0, 12), (12, .dup, 13), (13, .getfield 15, 16), (16, .iconst 1, 17), (17, .iadd, 18), (18, .putfield 15, 21), (21, .return_, 22)]
def i_Jo_removeFirst : zkI := (yX2_removeFirst, cX2_removeFirst, 1, none, 1, tb_Jo_removeFirst, [])
theorem ok_Jo_removeFirst : zkOk i_Jo_removeFirst := by unfold zkOk; decide +kernel
def tb_Jo_placeOf : List (Nat × Instr × Nat) := [(0, .aload_n 0, 1), (1, .getfield 19, 4), (4, .iconst 1, 5), (5, .isub, 6), (6, .istore_n 2, 7), (7, .iload_n 2, 8), (8, .aload_n 0, 9), (9, .getfield 15, 12), (12, .if_icmp .lt 36, 15), (15, .aload_n 0, 16), (16, .getfield 9, 19), (19, .iload_n 2, 20), (20, .iaload, 21), (21, .iload_n 1, 22), (22, .if_icmp .lt 26, 25), (25, .aload_n 0, 26), (26, .getfield 9, 29), (29, .iload_n 2, 30), (30, .iaload, 31), (31, .iload_n 1, 32), (32, .if_icmp .ne 10, 35), (35, .iload_n 2, 36), (36, .aload_n 0, 37), (37, .getfield 15, 40), (40, .isub, 41), (41, .ireturn, 42), (42, .iinc 2 (-1), 45), (45, .goto (-38), 48), (48, .iconst (-1), 49), (49, .ireturn, 50)]
def i_Jo_placeOf : zkI := (yX2_placeOf, cX2_placeOf, 3, (some .int), 1, tb_Jo_placeOf, [])
theorem ok_Jo_placeOf : zkOk i_Jo_placeOf := by unfold zkOk; decide +kernel
def tb_Jo_removeAt : List (Nat × Instr × Nat) := [(0, .iload_n 1, 1), (1, .iconst 0, 2), (2, .aload_n 0, 3), (3, .invokevirtual 22, 6), (6, .iconst 1, 7), (7, .isub, 8), (8, .invokestatic 26, 11), (11, .ifCond .ne 4, 14), (14, .return_, 15), (15, .aload_n 0, 16), (16, .dup, 17), (17, .getfield 19, 20), (20, .iconst 1, 21), (21, .isub, 22), (22, .putfield 19, 25), (25, .aload_n 0, 26), (26, .getfield 15, 29), (29, .iload_n 1, 30), (30, .iadd, 31), (31, .istore_n 2, 32), (32, .iload_n 2, 33), (33, .aload_n 0, 34), (34, .getfield 19, 37), (37, .if_icmp .ge 23, 40), (40, .aload_n 0, 41), (41, .getfield 9, 44), (44, .iload_n 2, 45), (45, .aload_n 0, 46), (46, .getfield 9, 49), (49, .iload_n 2, 50), (50, .iconst 1, 51), (51, .iadd, 52), (52, .iaload, 53), (53, .iastore, 54), (54, .iinc 2 1, 57), (57, .goto (-25), 60), (60, .return_, 61)]
def i_Jo_removeAt : zkI := (yX2_removeAt, cX2_removeAt, 3, none, 1, tb_Jo_removeAt, [])
theorem ok_Jo_removeAt : zkOk i_Jo_removeAt := by unfold zkOk; decide +kernel
def tb_Jo_copyFrom : List (Nat × Instr × Nat) := [(0, .aload_n 1, 1), (1, .getfield 9, 4), (4, .iconst 0, 5), (5, .aload_n 0, 6), (6, .getfield 9, 9), (9, .iconst 0, 10), (10, .aload_n 0, 11), (11, .getfield 9, 14), (14, .arraylength, 15), (15, .invokestatic 30, 18), (18, .aload_n 0, 19), (19, .aload_n 1, 20), (20, .getfield 15, 23), (23, .putfield 15, 26), (26, .aload_n 0, 27), (27, .aload_n 1, 28), (28, .getfield 19, 31), (31, .putfield 19, 34), (34, .return_, 35)]
def i_Jo_copyFrom : zkI := (yX2_copyFrom, cX2_copyFrom, 2, none, 1, tb_Jo_copyFrom, [])
theorem ok_Jo_copyFrom : zkOk i_Jo_copyFrom := by unfold zkOk; decide +kernel
def tb_Rd_init : List (Nat × Instr × Nat) := [(0, .aload_n 0, 1), (1, .invokespecial 3, 4), (4, .aload_n 0, 5), (5, .bipush 60, 7), (7, .newarray .char, 9), (9, .putfield 9, 12), (12, .aload_n 0, 13), (13, .iconst 4, 14), (14, .newarray .int, 16), (16, .putfield 15, 19), (19, .return_, 20)]
def i_Rd_init : zkI := (yX3_init, cX3_init, 1, none, 2, tb_Rd_init, [])
theorem ok_Rd_init : zkOk i_Rd_init := by unfold zkOk; decide +kernel
def tb_Rd_isFull : List (Nat × Instr × Nat) := [(0, .aload_n 0, 1), (1, .getfield 19, 4), (4, .bipush 60, 6), (6, .if_icmp .lt 7, 9), (9, .iconst 1, 10), (10, .goto 4, 13), (13, .iconst 0, 14), (14, .ireturn, 15)]
def i_Rd_isFull : zkI := (yX3_isFull, cX3_isFull, 1, (some .boolean), 2, tb_Rd_isFull, [])
theorem ok_Rd_isFull : zkOk i_Rd_isFull := by unfold zkOk; decide +kernel
def tb_Rd_put : List (Nat × Instr × Nat) := [(0, .aload_n 0, 1), (1, .invokevirtual 23, 4), (4, .ifCond .ne 23, 7), (7, .aload_n 0, 8), (8, .getfield 9, 11), (11, .aload_n 0, 12), (12, .getfield 19, 15), (15, .iload_n 1, 16), (16, .castore, 17), (17, .aload_n 0, 18), (18, .dup, 19), (19, .getfield 19, 22), (22, .iconst 1, 23), (23, .iadd, 24), (24, .putfield 19, 27), (27, .aload_n 0, 28), (28, .getfield 19, 31), (31, .ireturn, 32)]
def i_Rd_put : zkI := (yX3_put, cX3_put, 2, (some .int), 2, tb_Rd_put, [])
theorem ok_Rd_put : zkOk i_Rd_put := by unfold zkOk; decide +kernel
def tb_Rd_number : List (Nat × Instr × Nat) := [(0, .iload_n 1, 1), (1, .iconst 0, 2), (2, .aload_n 0, 3), (3, .getfield 27, 6), (6, .iconst 1, 7), (7, .isub, 8), (8, .invokestatic 30, 11), (11, .ifCond .eq 12, 14), (14, .aload_n 0, 15), (15, .getfield 15, 18), (18, .iload_n 1, 19), (19, .iaload, 20), (20, .goto 4, 23), (23, .iconst 0, 24), (24, .ireturn, 25)]
def i_Rd_number : zkI := (yX3_number, cX3_number, 2, (some .int), 2, tb_Rd_number, [])
theorem ok_Rd_number : zkOk i_Rd_number := by unfold zkOk; decide +kernel
def tb_Rd_takeForm : List (Nat × Instr × Nat) := [(0, .iconst (-1), 1), (1, .istore_n 1, 2), (2, .aload_n 0, 3), (3, .iconst 0, 4), (4, .putfield 34, 7), (7, .iconst 0, 8), (8, .istore_n 2, 9), (9, .iload_n 2, 10), (10, .bipush 8, 12), (12, .if_icmp .ge 27, 15), (15, .iload_n 1, 16), (16, .iconst (-1), 17), (17, .if_icmp .ne 22, 20), (20, .aload_n 0, 21), (21, .iload_n 2, 22), (22, .invokestatic 37, 25), (25, .invokevirtual 41, 28), (28, .ifCond .eq 5, 31), (31, .iload_n 2, 32), (32, .istore_n 1, 33), (33, .iinc 2 1, 36), (36, .goto (-27), 39), (39, .aload_n 0, 40), (40, .iconst 0, 41), (41, .putfield 19, 44), (44, .iload_n 1, 45), (45, .ireturn, 46)]
def i_Rd_takeForm : zkI := (yX3_takeForm, cX3_takeForm, 3, (some .int), 2, tb_Rd_takeForm, [])
theorem ok_Rd_takeForm : zkOk i_Rd_takeForm := by unfold zkOk; decide +kernel
def tb_Rd_patternOf : List (Nat × Instr × Nat) := [(0, .iload_n 0, 1), (1, .tableswitch 71 0 7 #[47, 50, 53, 56, 59, 62, 65, 68], 48), (48, .ldc 45, 50), (50, .areturn, 51), (51, .ldc 47, 53), (53, .areturn, 54), (54, .ldc 49, 56), (56, .areturn, 57), (57, .ldc 51, 59), (59, .areturn, 60), (60, .ldc 53, 62), (62, .areturn, 63), (63, .ldc 55, 65), (65, .areturn, 66), (66, .ldc 57, 68), (68, .areturn, 69), (69, .ldc 59, 71), (71, .areturn, 72), (72, .ldc 61, 74), (74, .areturn, 75)]
def i_Rd_patternOf : zkI := (yX3_patternOf, cX3_patternOf, 1, (some (.object "java/lang/String")), 2, tb_Rd_patternOf, [])
theorem ok_Rd_patternOf : zkOk i_Rd_patternOf := by unfold zkOk; decide +kernel
def tb_Rd_fits : List (Nat × Instr × Nat) := [(0, .iconst 0, 1), (1, .istore_n 2, 2), (2, .iconst 1, 3), (3, .istore_n 3, 4), (4, .aload_n 0, 5), (5, .iconst 0, 6), (6, .putfield 27, 9), (9, .iconst 0, 10), (10, .istore 4, 12), (12, .iload 4, 14), (14, .aload_n 1, 15), (15, .invokevirtual 63, 18), (18, .if_icmp .ge 60, 21), (21, .iload_n 3, 22), (22, .ifCond .eq 56, 25), (25, .aload_n 1, 26), (26, .iload 4, 28), (28, .invokevirtual 68, 31), (31, .bipush 35, 33), (33, .if_icmp .ne 11, 36), (36, .aload_n 0, 37), (37, .iload_n 2, 38), (38, .invokevirtual 72, 41), (41, .goto 14, 44), (44, .aload_n 0, 45), (45, .iload_n 2, 46), (46, .aload_n 1, 47), (47, .iload 4, 49), (49, .invokevirtual 68, 52), (52, .invokevirtual 76, 55), (55, .istore 5, 57), (57, .iload 5, 59), (59, .iload_n 2, 60), (60, .if_icmp .le 7, 63), (63, .iconst 1, 64), (64, .goto 4, 67), (67, .iconst 0, 68), (68, .istore_n 3, 69), (69, .iload 5, 71), (71, .istore_n 2, 72), (72, .iinc 4 1, 75), (75, .goto (-63), 78), (78, .aload_n 0, 79), (79, .aload_n 0, 80), (80, .getfield 34, 83), (83, .iload_n 2, 84), (84, .invokestatic 80, 87), (87, .putfield 34, 90), (90, .iload_n 3, 91), (91, .ifCond .eq 15, 94), (94, .iload_n 2, 95), (95, .aload_n 0, 96), (96, .getfield 19, 99), (99, .if_icmp .ne 7, 102), (102, .iconst 1, 103), (103, .goto 4, 106), (106, .iconst 0, 107), (107, .ireturn, 108)]
def i_Rd_fits : zkI := (yX3_fits, cX3_fits, 6, (some .boolean), 2, tb_Rd_fits, [])
theorem ok_Rd_fits : zkOk i_Rd_fits := by unfold zkOk; decide +kernel
def tb_Rd_afterSign : List (Nat × Instr × Nat) := [(0, .iload_n 1, 1), (1, .aload_n 0, 2), (2, .getfield 19, 5), (5, .if_icmp .ge 19, 8), (8, .aload_n 0, 9), (9, .getfield 9, 12), (12, .iload_n 1, 13), (13, .caload, 14), (14, .iload_n 2, 15), (15, .if_icmp .ne 9, 18), (18, .iload_n 1, 19), (19, .iconst 1, 20), (20, .iadd, 21), (21, .goto 4, 24), (24, .iload_n 1, 25), (25, .ireturn, 26)]
def i_Rd_afterSign : zkI := (yX3_afterSign, cX3_afterSign, 3, (some .int), 2, tb_Rd_afterSign, [])
theorem ok_Rd_afterSign : zkOk i_Rd_afterSign := by unfold zkOk; decide +kernel
def tb_Rd_afterNumber : List (Nat × Instr × Nat) := [(0, .iload_n 1, 1), (1, .istore_n 2, 2), (2, .iconst 0, 3), (3, .istore_n 3, 4), (4, .iconst 0, 5), (5, .istore 4, 7), (7, .iload 4, 9), (9, .iconst 3, 10), (10, .if_icmp .ge 63, 13), (13, .iload_n 2, 14), (14, .aload_n 0, 15), (15, .getfield 19, 18), (18, .if_icmp .ge 55, 21), (21, .aload_n 0, 22), (22, .getfield 9, 25), (25, .iload_n 2, 26), (26, .caload, 27), (27, .bipush 48, 29), (29, .bipush 57, 31), (31, .invokestatic 30, 34), (34, .ifCond .eq 39, 37), (37, .iload 4, 39), (39, .ifCond .le 10, 42), (42, .iload_n 3, 43), (43, .ifCond .ne 6, 46), (46, .goto 27, 49), (49, .iload_n 3, 50), (50, .bipush 10, 52), (52, .imul, 53), (53, .aload_n 0, 54), (54, .getfield 9, 57), (57, .iload_n 2, 58), (58, .caload, 59), (59, .bipush 48, 61), (61, .isub, 62), (62, .iadd, 63), (63, .istore_n 3, 64), (64, .iinc 2 1, 67), (67, .iinc 4 1, 70), (70, .goto (-63), 73), (73, .iload_n 2, 74), (74, .iload_n 1, 75), (75, .if_icmp .le 31, 78), (78, .aload_n 0, 79), (79, .getfield 27, 82), (82, .iconst 4, 83), (83, .if_icmp .ge 23, 86), (86, .aload_n 0, 87), (87, .getfield 15, 90), (90, .aload_n 0, 91), (91, .getfield 27, 94), (94, .iload_n 3, 95), (95, .iastore, 96), (96, .aload_n 0, 97), (97, .dup, 98), (98, .getfield 27, 101), (101, .iconst 1, 102), (102, .iadd, 103), (103, .putfield 27, 106), (106, .iload_n 2, 107), (107, .ireturn, 108)]
def i_Rd_afterNumber : zkI := (yX3_afterNumber, cX3_afterNumber, 5, (some .int), 2, tb_Rd_afterNumber, [])
theorem ok_Rd_afterNumber : zkOk i_Rd_afterNumber := by unfold zkOk; decide +kernel
def tb_Rq_init : List (Nat × Instr × Nat) := [(0, .aload_n 0, 1), (1, .invokespecial 3, 4), (4, .aload_n 0, 5), (5, .bipush 12, 7), (7, .newarray .int, 9), (9, .putfield 9, 12), (12, .aload_n 0, 13), (13, .bipush 12, 15), (15, .newarray .int, 17), (17, .putfield 15, 20), (20, .aload_n 0, 21), (21, .bipush 12, 23), (23, .newarray .int, 25), (25, .putfield 18, 28), (28, .aload_n 0, 29), (29, .bipush 12, 31), (31, .newarray .int, 33), (33, .putfield 21, 36), (36, .return_, 37)]
def i_Rq_init : zkI := (yX4_init, cX4_init, 1, none, 3, tb_Rq_init, [])
theorem ok_Rq_init : zkOk i_Rq_init := by unfold zkOk; decide +kernel
def tb_Rq_removeAll : List (Nat × Instr × Nat) := [(0, .aload_n 0, 1), (1, .iconst 0, 2), (2, .putfield 24, 5), (5, .return_, 6)]
def i_Rq_removeAll : zkI := (yX4_removeAll, cX4_removeAll, 1, none, 3, tb_Rq_removeAll, [])
theorem ok_Rq_removeAll : zkOk i_Rq_removeAll := by unfold zkOk; decide +kernel
def tb_Rq_isFull : List (Nat × Instr × Nat) := [(0, .aload_n 0, 1), (1, .getfield 24, 4), (4, .bipush 12, 6), (6, .if_icmp .lt 7, 9), (9, .iconst 1, 10), (10, .goto 4, 13), (13, .iconst 0, 14), (14, .ireturn, 15)]
def i_Rq_isFull : zkI := (yX4_isFull, cX4_isFull, 1, (some .boolean), 3, tb_Rq_isFull, [])
theorem ok_Rq_isFull : zkOk i_Rq_isFull := by unfold zkOk; decide +kernel
def tb_Rq_add : List (Nat × Instr × Nat) := [(0, .aload_n 0, 1), (1, .invokevirtual 28, 4), (4, .ifCond .eq 5, 7), (7, .iconst (-1), 8), (8, .ireturn, 9), (9, .aload_n 0, 10), (10, .getfield 9, 13), (13, .aload_n 0, 14), (14, .getfield 24, 17), (17, .iload_n 1, 18), (18, .iastore, 19), (19, .aload_n 0, 20), (20, .getfield 15, 23), (23, .aload_n 0, 24), (24, .getfield 24, 27), (27, .iload_n 2, 28), (28, .iastore, 29), (29, .aload_n 0, 30), (30, .getfield 18, 33), (33, .aload_n 0, 34), (34, .getfield 24, 37), (37, .iload_n 2, 38), (38, .iastore, 39), (39, .aload_n 0, 40), (40, .getfield 21, 43), (43, .aload_n 0, 44), (44, .getfield 24, 47), (47, .iconst (-1), 48), (48, .iastore, 49), (49, .aload_n 0, 50), (50, .dup, 51), (51, .getfield 24, 54), (54, .iconst 1, 55), (55, .iadd, 56), (56, .putfield 24, 59), (59, .aload_n 0, 60), (60, .getfield 24, 63), (63, .iconst 1, 64), (64, .isub, 65), (65, .ireturn, 66)]
def i_Rq_add : zkI := (yX4_add, cX4_add, 3, (some .int), 3, tb_Rq_add, [])
theorem ok_Rq_add : zkOk i_Rq_add := by unfold zkOk; decide +kernel
def tb_Rq_startAgain : List (Nat × Instr × Nat) := [(0, .iconst 0, 1), (1, .istore_n 1, 2), (2, .iload_n 1, 3), (3, .aload_n 0, 4), (4, .getfield 24, 7), (7, .if_icmp .ge 28, 10), (10, .aload_n 0, 11), (11, .getfield 18, 14), (14, .iload_n 1, 15), (15, .aload_n 0, 16), (16, .getfield 15, 19), (19, .iload_n 1, 20), (20, .iaload, 21), (21, .iastore, 22), (22, .aload_n 0, 23), (23, .getfield 21, 26), (26, .iload_n 1, 27), (27, .iconst (-1), 28), (28, .iastore, 29), (29, .iinc 1 1, 32), (32, .goto (-30), 35), (35, .return_, 36)]
def i_Rq_startAgain : zkI := (yX4_startAgain, cX4_startAgain, 2, none, 3, tb_Rq_startAgain, [])
theorem ok_Rq_startAgain : zkOk i_Rq_startAgain := by unfold zkOk; decide +kernel
def tb_Rq_nextToServe : List (Nat × Instr × Nat) := [(0, .iconst (-1), 1), (1, .istore_n 2, 2), (2, .iconst 0, 3), (3, .istore_n 3, 4), (4, .iload_n 3, 5), (5, .aload_n 0, 6), (6, .getfield 24, 9), (9, .if_icmp .ge 62, 12), (12, .aload_n 0, 13), (13, .getfield 9, 16), (16, .iload_n 3, 17), (17, .iaload, 18), (18, .iload_n 1, 19), (19, .if_icmp .gt 16, 22), (22, .aload_n 0, 23), (23, .getfield 18, 26), (26, .iload_n 3, 27), (27, .iaload, 28), (28, .ifCond .le 7, 31), (31, .iconst 1, 32), (32, .goto 4, 35), (35, .iconst 0, 36), (36, .istore 4, 38), (38, .iload 4, 40), (40, .ifCond .eq 25, 43), (43, .iload_n 2, 44), (44, .iconst (-1), 45), (45, .if_icmp .eq 18, 48), (48, .aload_n 0, 49), (49, .getfield 9, 52), (52, .iload_n 3, 53), (53, .iaload, 54), (54, .aload_n 0, 55), (55, .getfield 9, 58), (58, .iload_n 2, 59), (59, .iaload, 60), (60, .if_icmp .ge 5, 63), (63, .iload_n 3, 64), (64, .istore_n 2, 65), (65, .iinc 3 1, 68), (68, .goto (-64), 71), (71, .iload_n 2, 72), (72, .ireturn, 73)]
def i_Rq_nextToServe : zkI := (yX4_nextToServe, cX4_nextToServe, 5, (some .int), 3, tb_Rq_nextToServe, [])
theorem ok_Rq_nextToServe : zkOk i_Rq_nextToServe := by unfold zkOk; decide +kernel
def tb_Rq_serve : List (Nat × Instr × Nat) := [(0, .iload_n 1, 1), (1, .iconst 0, 2), (2, .aload_n 0, 3), (3, .getfield 24, 6), (6, .iconst 1, 7), (7, .isub, 8), (8, .invokestatic 32, 11), (11, .ifCond .ne 4, 14), (14, .return_, 15), (15, .aload_n 0, 16), (16, .getfield 18, 19), (19, .iload_n 1, 20), (20, .dup2, 21), (21, .iaload, 22), (22, .iconst 1, 23), (23, .isub, 24), (24, .iastore, 25), (25, .aload_n 0, 26), (26, .getfield 18, 29), (29, .iload_n 1, 30), (30, .iaload, 31), (31, .ifCond .ne 17, 34), (34, .aload_n 0, 35), (35, .getfield 21, 38), (38, .iload_n 1, 39), (39, .iload_n 2, 40), (40, .aload_n 0, 41), (41, .getfield 9, 44), (44, .iload_n 1, 45), (45, .iaload, 46), (46, .isub, 47), (47, .iastore, 48), (48, .return_, 49)]
def i_Rq_serve : zkI := (yX4_serve, cX4_serve, 3, none, 3, tb_Rq_serve, [])
theorem ok_Rq_serve : zkOk i_Rq_serve := by unfold zkOk; decide +kernel
def tb_Rq_copyFrom : List (Nat × Instr × Nat) := [(0, .aload_n 1, 1), (1, .getfield 9, 4), (4, .iconst 0, 5), (5, .aload_n 0, 6), (6, .getfield 9, 9), (9, .iconst 0, 10), (10, .aload_n 0, 11), (11, .getfield 9, 14), (14, .arraylength, 15), (15, .invokestatic 36, 18), (18, .aload_n 1, 19), (19, .getfield 15, 22), (22, .iconst 0, 23), (23, .aload_n 0, 24), (24, .getfield 15, 27), (27, .iconst 0, 28), (28, .aload_n 0, 29), (29, .getfield 15, 32), (32, .arraylength, 33), (33, .invokestatic 36, 36), (36, .aload_n 1, 37), (37, .getfield 18, 40), (40, .iconst 0, 41), (41, .aload_n 0, 42), (42, .getfield 18, 45), (45, .iconst 0, 46), (46, .aload_n 0, 47), (47, .getfield 18, 50), (50, .arraylength, 51), (51, .invokestatic 36, 54), (54, .aload_n 1, 55), (55, .getfield 21, 58), (58, .iconst 0, 59), (59, .aload_n 0, 60), (60, .getfield 21, 63), (63, .iconst 0, 64), (64, .aload_n 0, 65), (65, .getfield 21, 68), (68, .arraylength, 69), (69, .invokestatic 36, 72), (72, .aload_n 0, 73), (73, .aload_n 1, 74), (74, .getfield 24, 77), (77, .putfield 24, 80), (80, .return_, 81)]
def i_Rq_copyFrom : zkI := (yX4_copyFrom, cX4_copyFrom, 2, none, 3, tb_Rq_copyFrom, [])
theorem ok_Rq_copyFrom : zkOk i_Rq_copyFrom := by unfold zkOk; decide +kernel
def tb_Se_init : List (Nat × Instr × Nat) := [(0, .aload_n 0, 1), (1, .invokespecial 3, 4), (4, .aload_n 0, 5), (5, .bipush 9, 7), (7, .newarray .int, 9), (9, .putfield 9, 12), (12, .aload_n 0, 13), (13, .bipush 9, 15), (15, .newarray .int, 17), (17, .putfield 15, 20), (20, .return_, 21)]
def i_Se_init : zkI := (yX5_init, cX5_init, 1, none, 4, tb_Se_init, [])
theorem ok_Se_init : zkOk i_Se_init := by unfold zkOk; decide +kernel
def tb_Se_begin : List (Nat × Instr × Nat) := [(0, .aload_n 0, 1), (1, .iconst 1, 2), (2, .putfield 18, 5), (5, .aload_n 0, 6), (6, .iload_n 1, 7), (7, .putfield 22, 10), (10, .aload_n 0, 11), (11, .iload_n 2, 12), (12, .putfield 26, 15), (15, .aload_n 0, 16), (16, .iload_n 3, 17), (17, .putfield 29, 20), (20, .aload_n 0, 21), (21, .invokevirtual 32, 24), (24, .return_, 25)]
def i_Se_begin : zkI := (yX5_begin, cX5_begin, 4, none, 4, tb_Se_begin, [])
theorem ok_Se_begin : zkOk i_Se_begin := by unfold zkOk; decide +kernel
def tb_Se_startAgain : List (Nat × Instr × Nat) := [(0, .aload_n 0, 1), (1, .aload_n 0, 2), (2, .getfield 26, 5), (5, .putfield 35, 8), (8, .aload_n 0, 9), (9, .iconst 0, 10), (10, .putfield 38, 13), (13, .aload_n 0, 14), (14, .iconst 0, 15), (15, .putfield 41, 18), (18, .return_, 19)]
def i_Se_startAgain : zkI := (yX5_startAgain, cX5_startAgain, 1, none, 4, tb_Se_startAgain, [])
theorem ok_Se_startAgain : zkOk i_Se_startAgain := by unfold zkOk; decide +kernel
def tb_Se_hasPriority : List (Nat × Instr × Nat) := [(0, .aload_n 0, 1), (1, .getfield 18, 4), (4, .ifCond .eq 15, 7), (7, .aload_n 0, 8), (8, .getfield 22, 11), (11, .iload_n 1, 12), (12, .if_icmp .ne 7, 15), (15, .iconst 1, 16), (16, .goto 4, 19), (19, .iconst 0, 20), (20, .ireturn, 21)]
def i_Se_hasPriority : zkI := (yX5_hasPriority, cX5_hasPriority, 2, (some .boolean), 4, tb_Se_hasPriority, [])
theorem ok_Se_hasPriority : zkOk i_Se_hasPriority := by unfold zkOk; decide +kernel
def tb_Se_isReady : List (Nat × Instr × Nat) := [(0, .aload_n 0, 1), (1, .getfield 18, 4), (4, .ifCond .eq 18, 7), (7, .iload_n 1, 8), (8, .ifCond .eq 14, 11), (11, .aload_n 0, 12), (12, .getfield 35, 15), (15, .ifCond .le 7, 18), (18, .iconst 1, 19), (19, .goto 4, 22), (22, .iconst 0, 23), (23, .ireturn, 24)]
def i_Se_isReady : zkI := (yX5_isReady, cX5_isReady, 2, (some .boolean), 4, tb_Se_isReady, [])
theorem ok_Se_isReady : zkOk i_Se_isReady := by unfold zkOk; decide +kernel
def tb_Se_replenishAt : List (Nat × Instr × Nat) := [(0, .iconst 0, 1), (1, .istore_n 2, 2), (2, .iconst 0, 3), (3, .istore_n 3, 4), (4, .iload_n 3, 5), (5, .aload_n 0, 6), (6, .getfield 41, 9), (9, .if_icmp .ge 64, 12), (12, .aload_n 0, 13), (13, .getfield 9, 16), (16, .iload_n 3, 17), (17, .iaload, 18), (18, .iload_n 1, 19), (19, .if_icmp .ne 21, 22), (22, .aload_n 0, 23), (23, .dup, 24), (24, .getfield 35, 27), (27, .aload_n 0, 28), (28, .getfield 15, 31), (31, .iload_n 3, 32), (32, .iaload, 33), (33, .iadd, 34), (34, .putfield 35, 37), (37, .goto 30, 40), (40, .aload_n 0, 41), (41, .getfield 9, 44), (44, .iload_n 2, 45), (45, .aload_n 0, 46), (46, .getfield 9, 49), (49, .iload_n 3, 50), (50, .iaload, 51), (51, .iastore, 52), (52, .aload_n 0, 53), (53, .getfield 15, 56), (56, .iload_n 2, 57), (57, .aload_n 0, 58), (58, .getfield 15, 61), (61, .iload_n 3, 62), (62, .iaload, 63), (63, .iastore, 64), (64, .iinc 2 1, 67), (67, .iinc 3 1, 70), (70, .goto (-66), 73), (73, .aload_n 0, 74), (74, .iload_n 2, 75), (75, .putfield 41, 78), (78, .return_, 79)]
def i_Se_replenishAt : zkI := (yX5_replenishAt, cX5_replenishAt, 4, none, 4, tb_Se_replenishAt, [])
theorem ok_Se_replenishAt : zkOk i_Se_replenishAt := by unfold zkOk; decide +kernel
def tb_Se_runUnit : List (Nat × Instr × Nat) := [(0, .aload_n 0, 1), (1, .getfield 38, 4), (4, .ifCond .ne 18, 7), (7, .aload_n 0, 8), (8, .iconst 1, 9), (9, .putfield 38, 12), (12, .aload_n 0, 13), (13, .iload_n 1, 14), (14, .putfield 44, 17), (17, .aload_n 0, 18), (18, .iconst 0, 19), (19, .putfield 47, 22), (22, .aload_n 0, 23), (23, .dup, 24), (24, .getfield 35, 27), (27, .iconst 1, 28), (28, .isub, 29), (29, .putfield 35, 32), (32, .aload_n 0, 33), (33, .dup, 34), (34, .getfield 47, 37), (37, .iconst 1, 38), (38, .iadd, 39), (39, .putfield 47, 42), (42, .return_, 43)]
def i_Se_runUnit : zkI := (yX5_runUnit, cX5_runUnit, 2, none, 4, tb_Se_runUnit, [])
theorem ok_Se_runUnit : zkOk i_Se_runUnit := by unfold zkOk; decide +kernel
def tb_Se_endUnit : List (Nat × Instr × Nat) := [(0, .aload_n 0, 1), (1, .getfield 38, 4), (4, .ifCond .eq 11, 7), (7, .aload_n 0, 8), (8, .iload_n 2, 9), (9, .invokevirtual 50, 12), (12, .ifCond .eq 4, 15), (15, .return_, 16), (16, .aload_n 0, 17), (17, .iconst 0, 18), (18, .putfield 38, 21), (21, .aload_n 0, 22), (22, .getfield 41, 25), (25, .bipush 9, 27), (27, .if_icmp .ge 48, 30), (30, .aload_n 0, 31), (31, .getfield 9, 34), (34, .aload_n 0, 35), (35, .getfield 41, 38), (38, .aload_n 0, 39), (39, .getfield 44, 42), (42, .aload_n 0, 43), (43, .getfield 29, 46), (46, .iadd, 47), (47, .iload_n 1, 48), (48, .invokestatic 54, 51), (51, .iastore, 52), (52, .aload_n 0, 53), (53, .getfield 15, 56), (56, .aload_n 0, 57), (57, .getfield 41, 60), (60, .aload_n 0, 61), (61, .getfield 47, 64), (64, .iastore, 65), (65, .aload_n 0, 66), (66, .dup, 67), (67, .getfield 41, 70), (70, .iconst 1, 71), (71, .iadd, 72), (72, .putfield 41, 75), (75, .return_, 76)]
def i_Se_endUnit : zkI := (yX5_endUnit, cX5_endUnit, 3, none, 4, tb_Se_endUnit, [])
theorem ok_Se_endUnit : zkOk i_Se_endUnit := by unfold zkOk; decide +kernel
def tb_Se_nextPlan : List (Nat × Instr × Nat) := [(0, .aload_n 0, 1), (1, .getfield 41, 4), (4, .ifCond .le 12, 7), (7, .aload_n 0, 8), (8, .getfield 9, 11), (11, .iconst 0, 12), (12, .iaload, 13), (13, .goto 4, 16), (16, .iconst (-1), 17), (17, .ireturn, 18)]
def i_Se_nextPlan : zkI := (yX5_nextPlan, cX5_nextPlan, 1, (some .int), 4, tb_Se_nextPlan, [])
theorem ok_Se_nextPlan : zkOk i_Se_nextPlan := by unfold zkOk; decide +kernel
def tb_Se_copyFrom : List (Nat × Instr × Nat) := [(0, .aload_n 1, 1), (1, .getfield 9, 4), (4, .iconst 0, 5), (5, .aload_n 0, 6), (6, .getfield 9, 9), (9, .iconst 0, 10), (10, .aload_n 0, 11), (11, .getfield 9, 14), (14, .arraylength, 15), (15, .invokestatic 60, 18), (18, .aload_n 1, 19), (19, .getfield 15, 22), (22, .iconst 0, 23), (23, .aload_n 0, 24), (24, .getfield 15, 27), (27, .iconst 0, 28), (28, .aload_n 0, 29), (29, .getfield 15, 32), (32, .arraylength, 33), (33, .invokestatic 60, 36), (36, .aload_n 0, 37), (37, .aload_n 1, 38), (38, .getfield 41, 41), (41, .putfield 41, 44), (44, .aload_n 0, 45), (45, .aload_n 1, 46), (46, .getfield 18, 49), (49, .putfield 18, 52), (52, .aload_n 0, 53), (53, .aload_n 1, 54), (54, .getfield 22, 57), (57, .putfield 22, 60), (60, .aload_n 0, 61), (61, .aload_n 1, 62), (62, .getfield 26, 65), (65, .putfield 26, 68), (68, .aload_n 0, 69), (69, .aload_n 1, 70), (70, .getfield 29, 73), (73, .putfield 29, 76), (76, .aload_n 0, 77), (77, .aload_n 1, 78), (78, .getfield 35, 81), (81, .putfield 35, 84), (84, .aload_n 0, 85), (85, .aload_n 1, 86), (86, .getfield 38, 89), (89, .putfield 38, 92), (92, .aload_n 0, 93), (93, .aload_n 1, 94), (94, .getfield 44, 97), (97, .putfield 44, 100), (100, .aload_n 0, 101), (101, .aload_n 1, 102), (102, .getfield 47, 105), (105, .putfield 47, 108), (108, .return_, 109)]
def i_Se_copyFrom : zkI := (yX5_copyFrom, cX5_copyFrom, 2, none, 4, tb_Se_copyFrom, [])
theorem ok_Se_copyFrom : zkOk i_Se_copyFrom := by unfold zkOk; decide +kernel
def tb_Ta_init : List (Nat × Instr × Nat) := [(0, .aload_n 0, 1), (1, .invokespecial 3, 4), (4, .aload_n 0, 5), (5, .bipush 6, 7), (7, .newarray .int, 9), (9, .putfield 9, 12), (12, .aload_n 0, 13), (13, .bipush 6, 15), (15, .newarray .int, 17), (17, .putfield 15, 20), (20, .aload_n 0, 21), (21, .new 18, 24), (24, .dup, 25), (25, .invokespecial 20, 28), (28, .putfield 21, 31), (31, .aload_n 0, 32), (32, .bipush 6, 34), (34, .newarray .int, 36), (36, .putfield 25, 39), (39, .return_, 40)]
def i_Ta_init : zkI := (yX6_init, cX6_init, 1, none, 5, tb_Ta_init, [])
theorem ok_Ta_init : zkOk i_Ta_init := by unfold zkOk; decide +kernel
def tb_Ta_begin : List (Nat × Instr × Nat) := [(0, .aload_n 0, 1), (1, .iload_n 1, 2), (2, .putfield 28, 5), (5, .aload_n 0, 6), (6, .iload_n 2, 7), (7, .putfield 32, 10), (10, .aload_n 0, 11), (11, .iload_n 3, 12), (12, .putfield 35, 15), (15, .aload_n 0, 16), (16, .iload 4, 18), (18, .putfield 38, 21), (21, .aload_n 0, 22), (22, .iconst 0, 23), (23, .putfield 41, 26), (26, .aload_n 0, 27), (27, .iconst 0, 28), (28, .putfield 44, 31), (31, .aload_n 0, 32), (32, .invokevirtual 47, 35), (35, .return_, 36)]
def i_Ta_begin : zkI := (yX6_begin, cX6_begin, 5, none, 5, tb_Ta_begin, [])
theorem ok_Ta_begin : zkOk i_Ta_begin := by unfold zkOk; decide +kernel
def tb_Ta_startAgain : List (Nat × Instr × Nat) := [(0, .aload_n 0, 1), (1, .getfield 21, 4), (4, .invokevirtual 50, 7), (7, .aload_n 0, 8), (8, .aload_n 0, 9), (9, .getfield 38, 12), (12, .putfield 53, 15), (15, .aload_n 0, 16), (16, .iconst 0, 17), (17, .putfield 56, 20), (20, .aload_n 0, 21), (21, .iconst 0, 22), (22, .putfield 60, 25), (25, .aload_n 0, 26), (26, .iconst 0, 27), (27, .putfield 63, 30), (30, .aload_n 0, 31), (31, .iconst 0, 32), (32, .putfield 66, 35), (35, .iconst 0, 36), (36, .istore_n 1, 37), (37, .iload_n 1, 38), (38, .aload_n 0, 39), (39, .getfield 25, 42), (42, .arraylength, 43), (43, .if_icmp .ge 16, 46), (46, .aload_n 0, 47), (47, .getfield 25, 50), (50, .iload_n 1, 51), (51, .iconst 0, 52), (52, .iastore, 53), (53, .iinc 1 1, 56), (56, .goto (-19), 59), (59, .return_, 60)]
def i_Ta_startAgain : zkI := (yX6_startAgain, cX6_startAgain, 2, none, 5, tb_Ta_startAgain, [])
theorem ok_Ta_startAgain : zkOk i_Ta_startAgain := by unfold zkOk; decide +kernel
def tb_Ta_addPart : List (Nat × Instr × Nat) := [(0, .aload_n 0, 1), (1, .getfield 41, 4), (4, .bipush 6, 6), (6, .if_icmp .ge 43, 9), (9, .aload_n 0, 10), (10, .getfield 9, 13), (13, .aload_n 0, 14), (14, .getfield 41, 17), (17, .iload_n 1, 18), (18, .iastore, 19), (19, .aload_n 0, 20), (20, .getfield 15, 23), (23, .aload_n 0, 24), (24, .getfield 41, 27), (27, .iload_n 2, 28), (28, .iastore, 29), (29, .aload_n 0, 30), (30, .dup, 31), (31, .getfield 41, 34), (34, .iconst 1, 35), (35, .iadd, 36), (36, .putfield 41, 39), (39, .aload_n 0, 40), (40, .dup, 41), (41, .getfield 44, 44), (44, .iload_n 2, 45), (45, .iadd, 46), (46, .putfield 44, 49), (49, .return_, 50)]
def i_Ta_addPart : zkI := (yX6_addPart, cX6_addPart, 3, none, 5, tb_Ta_addPart, [])
theorem ok_Ta_addPart : zkOk i_Ta_addPart := by unfold zkOk; decide +kernel
def tb_Ta_property : List (Nat × Instr × Nat) := [(0, .iload_n 1, 1), (1, .tableswitch 60 0 4 #[35, 40, 45, 50, 55], 36), (36, .aload_n 0, 37), (37, .getfield 28, 40), (40, .ireturn, 41), (41, .aload_n 0, 42), (42, .getfield 32, 45), (45, .ireturn, 46), (46, .aload_n 0, 47), (47, .getfield 35, 50), (50, .ireturn, 51), (51, .aload_n 0, 52), (52, .getfield 38, 55), (55, .ireturn, 56), (56, .aload_n 0, 57), (57, .getfield 41, 60), (60, .ireturn, 61), (61, .aload_n 0, 62), (62, .getfield 44, 65), (65, .ireturn, 66)]
def i_Ta_property : zkI := (yX6_property, cX6_property, 2, (some .int), 5, tb_Ta_property, [])
theorem ok_Ta_property : zkOk i_Ta_property := by unfold zkOk; decide +kernel
def tb_Ta_releaseAt : List (Nat × Instr × Nat) := [(0, .aload_n 0, 1), (1, .getfield 41, 4), (4, .ifCond .eq 11, 7), (7, .iload_n 1, 8), (8, .aload_n 0, 9), (9, .getfield 53, 12), (12, .if_icmp .eq 4, 15), (15, .return_, 16), (16, .aload_n 0, 17), (17, .dup, 18), (18, .getfield 53, 21), (21, .aload_n 0, 22), (22, .getfield 32, 25), (25, .iadd, 26), (26, .putfield 53, 29), (29, .aload_n 0, 30), (30, .getfield 56, 33), (33, .ifCond .eq 21, 36), (36, .aload_n 0, 37), (37, .iconst 0, 38), (38, .putfield 56, 41), (41, .aload_n 0, 42), (42, .getfield 25, 45), (45, .iconst 3, 46), (46, .dup2, 47), (47, .iaload, 48), (48, .iconst 1, 49), (49, .iadd, 50), (50, .iastore, 51), (51, .goto 11, 54), (54, .aload_n 0, 55), (55, .getfield 21, 58), (58, .iload_n 1, 59), (59, .invokevirtual 69, 62), (62, .return_, 63)]
def i_Ta_releaseAt : zkI := (yX6_releaseAt, cX6_releaseAt, 2, none, 5, tb_Ta_releaseAt, [])
theorem ok_Ta_releaseAt : zkOk i_Ta_releaseAt := by unfold zkOk; decide +kernel
def tb_Ta_missAt : List (Nat × Instr × Nat) := [(0, .aload_n 0, 1), (1, .getfield 21, 4), (4, .iload_n 1, 5), (5, .aload_n 0, 6), (6, .getfield 35, 9), (9, .isub, 10), (10, .invokevirtual 73, 13), (13, .istore_n 3, 14), (14, .iload_n 3, 15), (15, .iconst (-1), 16), (16, .if_icmp .ne 4, 19), (19, .return_, 20), (20, .aload_n 0, 21), (21, .getfield 25, 24), (24, .iconst 1, 25), (25, .dup2, 26), (26, .iaload, 27), (27, .iconst 1, 28), (28, .iadd, 29), (29, .iastore, 30), (30, .iload_n 2, 31), (31, .iconst 1, 32), (32, .if_icmp .ne 11, 35), (35, .aload_n 0, 36), (36, .iload_n 3, 37), (37, .invokevirtual 77, 40), (40, .goto 13, 43), (43, .iload_n 2, 44), (44, .iconst 2, 45), (45, .if_icmp .ne 8, 48), (48, .aload_n 0, 49), (49, .iconst 1, 50), (50, .putfield 56, 53), (53, .return_, 54)]
def i_Ta_missAt : zkI := (yX6_missAt, cX6_missAt, 4, none, 5, tb_Ta_missAt, [])
theorem ok_Ta_missAt : zkOk i_Ta_missAt := by unfold zkOk; decide +kernel
def tb_Ta_removeJob : List (Nat × Instr × Nat) := [(0, .iload_n 1, 1), (1, .ifCond .ne 13, 4), (4, .aload_n 0, 5), (5, .iconst 0, 6), (6, .putfield 60, 9), (9, .aload_n 0, 10), (10, .iconst 0, 11), (11, .putfield 63, 14), (14, .aload_n 0, 15), (15, .getfield 21, 18), (18, .iload_n 1, 19), (19, .invokevirtual 80, 22), (22, .aload_n 0, 23), (23, .getfield 25, 26), (26, .iconst 2, 27), (27, .dup2, 28), (28, .iaload, 29), (29, .iconst 1, 30), (30, .iadd, 31), (31, .iastore, 32), (32, .return_, 33)]
def i_Ta_removeJob : zkI := (yX6_removeJob, cX6_removeJob, 2, none, 5, tb_Ta_removeJob, [])
theorem ok_Ta_removeJob : zkOk i_Ta_removeJob := by unfold zkOk; decide +kernel
def tb_Ta_hasStartedJob : List (Nat × Instr × Nat) := [(0, .aload_n 0, 1), (1, .getfield 60, 4), (4, .ifCond .gt 10, 7), (7, .aload_n 0, 8), (8, .getfield 63, 11), (11, .ifCond .le 7, 14), (14, .iconst 1, 15), (15, .goto 4, 18), (18, .iconst 0, 19), (19, .ireturn, 20)]
def i_Ta_hasStartedJob : zkI := (yX6_hasStartedJob, cX6_hasStartedJob, 1, (some .boolean), 5, tb_Ta_hasStartedJob, [])
theorem ok_Ta_hasStartedJob : zkOk i_Ta_hasStartedJob := by unfold zkOk; decide +kernel
def tb_Ta_heldResource : List (Nat × Instr × Nat) := [(0, .aload_n 0, 1), (1, .getfield 63, 4), (4, .ifCond .le 24, 7), (7, .aload_n 0, 8), (8, .getfield 60, 11), (11, .bipush 6, 13), (13, .if_icmp .ge 15, 16), (16, .aload_n 0, 17), (17, .getfield 9, 20), (20, .aload_n 0, 21), (21, .getfield 60, 24), (24, .iaload, 25), (25, .goto 4, 28), (28, .iconst (-1), 29), (29, .ireturn, 30)]
def i_Ta_heldResource : zkI := (yX6_heldResource, cX6_heldResource, 1, (some .int), 5, tb_Ta_heldResource, [])
theorem ok_Ta_heldResource : zkOk i_Ta_heldResource := by unfold zkOk; decide +kernel
def tb_Ta_runUnit : List (Nat × Instr × Nat) := [(0, .aload_n 0, 1), (1, .getfield 60, 4), (4, .aload_n 0, 5), (5, .getfield 41, 8), (8, .if_icmp .lt 5, 11), (11, .iconst 0, 12), (12, .ireturn, 13), (13, .aload_n 0, 14), (14, .dup, 15), (15, .getfield 63, 18), (18, .iconst 1, 19), (19, .iadd, 20), (20, .putfield 63, 23), (23, .aload_n 0, 24), (24, .getfield 63, 27), (27, .aload_n 0, 28), (28, .getfield 15, 31), (31, .aload_n 0, 32), (32, .getfield 60, 35), (35, .iaload, 36), (36, .if_icmp .ne 18, 39), (39, .aload_n 0, 40), (40, .dup, 41), (41, .getfield 60, 44), (44, .iconst 1, 45), (45, .iadd, 46), (46, .putfield 60, 49), (49, .aload_n 0, 50), (50, .iconst 0, 51), (51, .putfield 63, 54), (54, .aload_n 0, 55), (55, .getfield 60, 58), (58, .aload_n 0, 59), (59, .getfield 41, 62), (62, .if_icmp .ge 5, 65), (65, .iconst 0, 66), (66, .ireturn, 67), (67, .aload_n 0, 68), (68, .iload_n 1, 69), (69, .aload_n 0, 70), (70, .getfield 21, 73), (73, .invokevirtual 83, 76), (76, .isub, 77), (77, .invokevirtual 87, 80), (80, .iconst 1, 81), (81, .ireturn, 82)]
def i_Ta_runUnit : zkI := (yX6_runUnit, cX6_runUnit, 2, (some .boolean), 5, tb_Ta_runUnit, [])
theorem ok_Ta_runUnit : zkOk i_Ta_runUnit := by unfold zkOk; decide +kernel
def tb_Ta_finishJob : List (Nat × Instr × Nat) := [(0, .aload_n 0, 1), (1, .getfield 21, 4), (4, .invokevirtual 90, 7), (7, .aload_n 0, 8), (8, .iconst 0, 9), (9, .putfield 60, 12), (12, .aload_n 0, 13), (13, .getfield 25, 16), (16, .iconst 0, 17), (17, .dup2, 18), (18, .iaload, 19), (19, .iconst 1, 20), (20, .iadd, 21), (21, .iastore, 22), (22, .aload_n 0, 23), (23, .getfield 25, 26), (26, .iconst 5, 27), (27, .aload_n 0, 28), (28, .getfield 25, 31), (31, .iconst 5, 32), (32, .iaload, 33), (33, .iload_n 1, 34), (34, .invokestatic 93, 37), (37, .iastore, 38), (38, .aload_n 0, 39), (39, .dup, 40), (40, .getfield 66, 43), (43, .iload_n 1, 44), (44, .iadd, 45), (45, .putfield 66, 48), (48, .return_, 49)]
def i_Ta_finishJob : zkI := (yX6_finishJob, cX6_finishJob, 2, none, 5, tb_Ta_finishJob, [])
theorem ok_Ta_finishJob : zkOk i_Ta_finishJob := by unfold zkOk; decide +kernel
def tb_Ta_copyFrom : List (Nat × Instr × Nat) := [(0, .aload_n 1, 1), (1, .getfield 9, 4), (4, .iconst 0, 5), (5, .aload_n 0, 6), (6, .getfield 9, 9), (9, .iconst 0, 10), (10, .aload_n 0, 11), (11, .getfield 9, 14), (14, .arraylength, 15), (15, .invokestatic 99, 18), (18, .aload_n 1, 19), (19, .getfield 15, 22), (22, .iconst 0, 23), (23, .aload_n 0, 24), (24, .getfield 15, 27), (27, .iconst 0, 28), (28, .aload_n 0, 29), (29, .getfield 15, 32), (32, .arraylength, 33), (33, .invokestatic 99, 36), (36, .aload_n 1, 37), (37, .getfield 25, 40), (40, .iconst 0, 41), (41, .aload_n 0, 42), (42, .getfield 25, 45), (45, .iconst 0, 46), (46, .aload_n 0, 47), (47, .getfield 25, 50), (50, .arraylength, 51), (51, .invokestatic 99, 54), (54, .aload_n 0, 55), (55, .getfield 21, 58), (58, .aload_n 1, 59), (59, .getfield 21, 62), (62, .invokevirtual 105, 65), (65, .aload_n 0, 66), (66, .aload_n 1, 67), (67, .getfield 28, 70), (70, .putfield 28, 73), (73, .aload_n 0, 74), (74, .aload_n 1, 75), (75, .getfield 32, 78), (78, .putfield 32, 81), (81, .aload_n 0, 82), (82, .aload_n 1, 83), (83, .getfield 35, 86), (86, .putfield 35, 89), (89, .aload_n 0, 90), (90, .aload_n 1, 91), (91, .getfield 38, 94), (94, .putfield 38, 97), (97, .aload_n 0, 98), (98, .aload_n 1, 99), (99, .getfield 41, 102), (102, .putfield 41, 105), (105, .aload_n 0, 106), (106, .aload_n 1, 107), (107, .getfield 44, 110), (110, .putfield 44, 113), (113, .aload_n 0, 114), (114, .aload_n 1, 115), (115, .getfield 53, 118), (118, .putfield 53, 121), (121, .aload_n 0, 122), (122, .aload_n 1, 123), (123, .getfield 56, 126), (126, .putfield 56, 129), (129, .aload_n 0, 130), (130, .aload_n 1, 131), (131, .getfield 60, 134), (134, .putfield 60, 137), (137, .aload_n 0, 138), (138, .aload_n 1, 139), (139, .getfield 63, 142), (142, .putfield 63, 145), (145, .aload_n 0, 146), (146, .aload_n 1, 147), (147, .getfield 66, 150), (150, .putfield 66, 153), (153, .return_, 154)]
def i_Ta_copyFrom : zkI := (yX6_copyFrom, cX6_copyFrom, 2, none, 5, tb_Ta_copyFrom, [])
theorem ok_Ta_copyFrom : zkOk i_Ta_copyFrom := by unfold zkOk; decide +kernel
def tb_Cw_init : List (Nat × Instr × Nat) := [(0, .aload_n 0, 1), (1, .invokespecial 1, 4), (4, .aload_n 0, 5), (5, .new 7, 8), (8, .dup, 9), (9, .invokespecial 9, 12), (12, .putfield 10, 15), (15, .aload_n 0, 16), (16, .new 7, 19), (19, .dup, 20), (20, .invokespecial 9, 23), (23, .putfield 16, 26), (26, .aload_n 0, 27), (27, .new 19, 30), (30, .dup, 31), (31, .invokespecial 21, 34), (34, .putfield 22, 37), (37, .aload_n 0, 38), (38, .iconst (-1), 39), (39, .putfield 26, 42), (42, .return_, 43)]
def i_Cw_init : zkI := (yX7_init, cX7_init, 1, none, 6, tb_Cw_init, [])
theorem ok_Cw_init : zkOk i_Cw_init := by unfold zkOk; decide +kernel
def tb_Cw_clear : List (Nat × Instr × Nat) := [(0, .aload_n 0, 1), (1, .getfield 10, 4), (4, .invokevirtual 30, 7), (7, .ireturn, 8)]
def i_Cw_clear : zkI := (yX7_clear, cX7_clear, 1, (some .int), 6, tb_Cw_clear, [])
theorem ok_Cw_clear : zkOk i_Cw_clear := by unfold zkOk; decide +kernel
def tb_Cw_addTask : List (Nat × Instr × Nat) := [(0, .aload_n 0, 1), (1, .getfield 10, 4), (4, .iload_n 1, 5), (5, .iload_n 2, 6), (6, .iload_n 3, 7), (7, .iload 4, 9), (9, .invokevirtual 34, 12), (12, .invokestatic 38, 15), (15, .ireturn, 16)]
def i_Cw_addTask : zkI := (yX7_addTask, cX7_addTask, 5, (some .int), 6, tb_Cw_addTask, [])
theorem ok_Cw_addTask : zkOk i_Cw_addTask := by unfold zkOk; decide +kernel
def tb_Cw_addSegment : List (Nat × Instr × Nat) := [(0, .aload_n 0, 1), (1, .getfield 10, 4), (4, .iload_n 1, 5), (5, .iload_n 2, 6), (6, .iload_n 3, 7), (7, .invokevirtual 42, 10), (10, .invokestatic 38, 13), (13, .ireturn, 14)]
def i_Cw_addSegment : zkI := (yX7_addSegment, cX7_addSegment, 4, (some .int), 6, tb_Cw_addSegment, [])
theorem ok_Cw_addSegment : zkOk i_Cw_addSegment := by unfold zkOk; decide +kernel
def tb_Cw_setServer : List (Nat × Instr × Nat) := [(0, .aload_n 0, 1), (1, .getfield 10, 4), (4, .iload_n 1, 5), (5, .iload_n 2, 6), (6, .iload_n 3, 7), (7, .invokevirtual 46, 10), (10, .invokestatic 38, 13), (13, .iconst 1, 14), (14, .if_icmp .ne 7, 17), (17, .iconst 1, 18), (18, .goto 4, 21), (21, .iconst 0, 22), (22, .ireturn, 23)]
def i_Cw_setServer : zkI := (yX7_setServer, cX7_setServer, 4, (some .boolean), 6, tb_Cw_setServer, [])
theorem ok_Cw_setServer : zkOk i_Cw_setServer := by unfold zkOk; decide +kernel
def tb_Cw_request : List (Nat × Instr × Nat) := [(0, .aload_n 0, 1), (1, .getfield 10, 4), (4, .iload_n 1, 5), (5, .iload_n 2, 6), (6, .invokevirtual 49, 9), (9, .invokestatic 38, 12), (12, .ireturn, 13)]
def i_Cw_request : zkI := (yX7_request, cX7_request, 3, (some .int), 6, tb_Cw_request, [])
theorem ok_Cw_request : zkOk i_Cw_request := by unfold zkOk; decide +kernel
def tb_Cw_setPolicy : List (Nat × Instr × Nat) := [(0, .aload_n 0, 1), (1, .getfield 10, 4), (4, .iload_n 1, 5), (5, .invokevirtual 53, 8), (8, .invokestatic 38, 11), (11, .ireturn, 12)]
def i_Cw_setPolicy : zkI := (yX7_setPolicy, cX7_setPolicy, 2, (some .int), 6, tb_Cw_setPolicy, [])
theorem ok_Cw_setPolicy : zkOk i_Cw_setPolicy := by unfold zkOk; decide +kernel
def tb_Cw_append : List (Nat × Instr × Nat) := [(0, .iload_n 1, 1), (1, .bipush 32, 3), (3, .bipush 126, 5), (5, .invokestatic 56, 8), (8, .ifCond .ne 13, 11), (11, .new 60, 14), (14, .dup, 15), (15, .ldc 62, 17), (17, .invokespecial 64, 20), (20, .athrow, 21), (21, .aload_n 0, 22), (22, .getfield 22, 25), (25, .invokevirtual 67, 28), (28, .ifCond .eq 13, 31), (31, .new 71, 34), (34, .dup, 35), (35, .ldc 73, 37), (37, .invokespecial 75, 40), (40, .athrow, 41), (41, .aload_n 0, 42), (42, .getfield 22, 45), (45, .iload_n 1, 46), (46, .invokevirtual 76, 49), (49, .ireturn, 50)]
def i_Cw_append : zkI := (yX7_append, cX7_append, 2, (some .int), 6, tb_Cw_append, [])
theorem ok_Cw_append : zkOk i_Cw_append := by unfold zkOk; decide +kernel
def tb_Cw_configure : List (Nat × Instr × Nat) := [(0, .aload_n 0, 1), (1, .getfield 22, 4), (4, .invokevirtual 80, 7), (7, .istore_n 1, 8), (8, .iload_n 1, 9), (9, .iconst (-1), 10), (10, .if_icmp .ne 24, 13), (13, .aload_n 0, 14), (14, .aload_n 0, 15), (15, .getfield 22, 18), (18, .getfield 83, 21), (21, .putfield 26, 24), (24, .new 60, 27), (27, .dup, 28), (28, .ldc 86, 30), (30, .invokespecial 64, 33), (33, .athrow, 34), (34, .aload_n 0, 35), (35, .iload_n 1, 36), (36, .invokevirtual 88, 39), (39, .istore_n 2, 40), (40, .iload_n 2, 41), (41, .ifCond .ge 13, 44), (44, .new 71, 47), (47, .dup, 48), (48, .ldc 91, 50), (50, .invokespecial 75, 53), (53, .athrow, 54), (54, .iload_n 2, 55), (55, .ireturn, 56)]
def i_Cw_configure : zkI := (yX7_configure, cX7_configure, 3, (some .int), 6, tb_Cw_configure, [])
theorem ok_Cw_configure : zkOk i_Cw_configure := by unfold zkOk; decide +kernel
def tb_Cw_errorPosition : List (Nat × Instr × Nat) := [(0, .aload_n 0, 1), (1, .getfield 26, 4), (4, .iconst (-1), 5), (5, .if_icmp .ne 13, 8), (8, .new 93, 11), (11, .dup, 12), (12, .ldc 95, 14), (14, .invokespecial 97, 17), (17, .athrow, 18), (18, .aload_n 0, 19), (19, .getfield 26, 22), (22, .ireturn, 23)]
def i_Cw_errorPosition : zkI := (yX7_errorPosition, cX7_errorPosition, 1, (some .int), 6, tb_Cw_errorPosition, [])
theorem ok_Cw_errorPosition : zkOk i_Cw_errorPosition := by unfold zkOk; decide +kernel
def tb_Cw_taskCount : List (Nat × Instr × Nat) := [(0, .aload_n 0, 1), (1, .getfield 10, 4), (4, .getfield 98, 7), (7, .ireturn, 8)]
def i_Cw_taskCount : zkI := (yX7_taskCount, cX7_taskCount, 1, (some .int), 6, tb_Cw_taskCount, [])
theorem ok_Cw_taskCount : zkOk i_Cw_taskCount := by unfold zkOk; decide +kernel
def tb_Cw_task : List (Nat × Instr × Nat) := [(0, .aload_n 0, 1), (1, .iload_n 1, 2), (2, .invokevirtual 101, 5), (5, .astore_n 3, 6), (6, .iload_n 2, 7), (7, .iconst 0, 8), (8, .iconst 5, 9), (9, .invokestatic 56, 12), (12, .ifCond .ne 13, 15), (15, .new 60, 18), (18, .dup, 19), (19, .ldc 105, 21), (21, .invokespecial 64, 24), (24, .athrow, 25), (25, .aload_n 3, 26), (26, .iload_n 2, 27), (27, .invokevirtual 107, 30), (30, .ireturn, 31)]
def i_Cw_task : zkI := (yX7_task, cX7_task, 4, (some .int), 6, tb_Cw_task, [])
theorem ok_Cw_task : zkOk i_Cw_task := by unfold zkOk; decide +kernel
def tb_Cw_ceiling : List (Nat × Instr × Nat) := [(0, .aload_n 0, 1), (1, .getfield 10, 4), (4, .getfield 112, 7), (7, .iload_n 1, 8), (8, .invokestatic 116, 11), (11, .iaload, 12), (12, .ireturn, 13)]
def i_Cw_ceiling : zkI := (yX7_ceiling, cX7_ceiling, 2, (some .int), 6, tb_Cw_ceiling, [])
theorem ok_Cw_ceiling : zkOk i_Cw_ceiling := by unfold zkOk; decide +kernel
def tb_Cw_blocking : List (Nat × Instr × Nat) := [(0, .aload_n 0, 1), (1, .getfield 10, 4), (4, .aload_n 0, 5), (5, .iload_n 1, 6), (6, .invokevirtual 101, 9), (9, .invokestatic 119, 12), (12, .ireturn, 13)]
def i_Cw_blocking : zkI := (yX7_blocking, cX7_blocking, 2, (some .int), 6, tb_Cw_blocking, [])
theorem ok_Cw_blocking : zkOk i_Cw_blocking := by unfold zkOk; decide +kernel
def tb_Cw_bound : List (Nat × Instr × Nat) := [(0, .aload_n 0, 1), (1, .getfield 10, 4), (4, .aload_n 0, 5), (5, .iload_n 1, 6), (6, .invokevirtual 125, 9), (9, .invokestatic 128, 12), (12, .invokestatic 131, 15), (15, .ireturn, 16)]
def i_Cw_bound : zkI := (yX7_bound, cX7_bound, 2, (some .int), 6, tb_Cw_bound, [])
theorem ok_Cw_bound : zkOk i_Cw_bound := by unfold zkOk; decide +kernel
def tb_Cw_witness : List (Nat × Instr × Nat) := [(0, .aload_n 0, 1), (1, .getfield 10, 4), (4, .aload_n 0, 5), (5, .iload_n 1, 6), (6, .invokevirtual 125, 9), (9, .invokestatic 134, 12), (12, .invokestatic 131, 15), (15, .ireturn, 16)]
def i_Cw_witness : zkI := (yX7_witness, cX7_witness, 2, (some .int), 6, tb_Cw_witness, [])
theorem ok_Cw_witness : zkOk i_Cw_witness := by unfold zkOk; decide +kernel
def tb_Cw_isSchedulable : List (Nat × Instr × Nat) := [(0, .aload_n 0, 1), (1, .getfield 10, 4), (4, .invokestatic 137, 7), (7, .ireturn, 8)]
def i_Cw_isSchedulable : zkI := (yX7_isSchedulable, cX7_isSchedulable, 1, (some .boolean), 6, tb_Cw_isSchedulable, [])
theorem ok_Cw_isSchedulable : zkOk i_Cw_isSchedulable := by unfold zkOk; decide +kernel
def tb_Cw_load : List (Nat × Instr × Nat) := [(0, .aload_n 0, 1), (1, .getfield 10, 4), (4, .invokestatic 141, 7), (7, .dreturn, 8)]
def i_Cw_load : zkI := (yX7_load, cX7_load, 1, (some .double), 6, tb_Cw_load, [])
theorem ok_Cw_load : zkOk i_Cw_load := by unfold zkOk; decide +kernel
def tb_Cw_hyperbolicLoad : List (Nat × Instr × Nat) := [(0, .aload_n 0, 1), (1, .getfield 10, 4), (4, .invokestatic 145, 7), (7, .dreturn, 8)]
def i_Cw_hyperbolicLoad : zkI := (yX7_hyperbolicLoad, cX7_hyperbolicLoad, 1, (some .double), 6, tb_Cw_hyperbolicLoad, [])
theorem ok_Cw_hyperbolicLoad : zkOk i_Cw_hyperbolicLoad := by unfold zkOk; decide +kernel
def tb_Cw_run : List (Nat × Instr × Nat) := [(0, .iload_n 1, 1), (1, .iconst 1, 2), (2, .bipush 100, 4), (4, .invokestatic 56, 7), (7, .ifCond .ne 13, 10), (10, .new 60, 13), (13, .dup, 14), (14, .ldc 148, 16), (16, .invokespecial 64, 19), (19, .athrow, 20), (20, .aload_n 0, 21), (21, .getfield 10, 24), (24, .getfield 150, 27), (27, .iload_n 1, 28), (28, .iadd, 29), (29, .sipush 400, 32), (32, .if_icmp .le 13, 35), (35, .new 71, 38), (38, .dup, 39), (39, .ldc 153, 41), (41, .invokespecial 75, 44), (44, .athrow, 45), (45, .aload_n 0, 46), (46, .getfield 10, 49), (49, .iload_n 1, 50), (50, .invokevirtual 155, 53), (53, .ireturn, 54)]
def i_Cw_run : zkI := (yX7_run, cX7_run, 2, (some .int), 6, tb_Cw_run, [])
theorem ok_Cw_run : zkOk i_Cw_run := by unfold zkOk; decide +kernel
def tb_Cw_rewind : List (Nat × Instr × Nat) := [(0, .aload_n 0, 1), (1, .getfield 10, 4), (4, .invokevirtual 158, 7), (7, .ireturn, 8)]
def i_Cw_rewind : zkI := (yX7_rewind, cX7_rewind, 1, (some .int), 6, tb_Cw_rewind, [])
theorem ok_Cw_rewind : zkOk i_Cw_rewind := by unfold zkOk; decide +kernel
def tb_Cw_clock : List (Nat × Instr × Nat) := [(0, .aload_n 0, 1), (1, .getfield 10, 4), (4, .getfield 150, 7), (7, .ireturn, 8)]
def i_Cw_clock : zkI := (yX7_clock, cX7_clock, 1, (some .int), 6, tb_Cw_clock, [])
theorem ok_Cw_clock : zkOk i_Cw_clock := by unfold zkOk; decide +kernel
def tb_Cw_ranAt : List (Nat × Instr × Nat) := [(0, .iload_n 1, 1), (1, .iconst 0, 2), (2, .aload_n 0, 3), (3, .getfield 10, 6), (6, .getfield 150, 9), (9, .iconst 1, 10), (10, .isub, 11), (11, .invokestatic 56, 14), (14, .ifCond .ne 13, 17), (17, .new 161, 20), (20, .dup, 21), (21, .ldc 163, 23), (23, .invokespecial 165, 26), (26, .athrow, 27), (27, .aload_n 0, 28), (28, .getfield 10, 31), (31, .getfield 166, 34), (34, .iload_n 1, 35), (35, .iaload, 36), (36, .ireturn, 37)]
def i_Cw_ranAt : zkI := (yX7_ranAt, cX7_ranAt, 2, (some .int), 6, tb_Cw_ranAt, [])
theorem ok_Cw_ranAt : zkOk i_Cw_ranAt := by unfold zkOk; decide +kernel
def tb_Cw_pending : List (Nat × Instr × Nat) := [(0, .aload_n 0, 1), (1, .iload_n 1, 2), (2, .invokevirtual 101, 5), (5, .getfield 169, 8), (8, .invokevirtual 173, 11), (11, .ireturn, 12)]
def i_Cw_pending : zkI := (yX7_pending, cX7_pending, 2, (some .int), 6, tb_Cw_pending, [])
theorem ok_Cw_pending : zkOk i_Cw_pending := by unfold zkOk; decide +kernel
def tb_Cw_activePriority : List (Nat × Instr × Nat) := [(0, .aload_n 0, 1), (1, .iload_n 1, 2), (2, .invokevirtual 101, 5), (5, .astore_n 2, 6), (6, .aload_n 2, 7), (7, .getfield 169, 10), (10, .invokevirtual 178, 13), (13, .ifCond .eq 13, 16), (16, .new 93, 19), (19, .dup, 20), (20, .ldc 181, 22), (22, .invokespecial 97, 25), (25, .athrow, 26), (26, .aload_n 0, 27), (27, .getfield 10, 30), (30, .aload_n 2, 31), (31, .invokevirtual 183, 34), (34, .ireturn, 35)]
def i_Cw_activePriority : zkI := (yX7_activePriority, cX7_activePriority, 3, (some .int), 6, tb_Cw_activePriority, [])
theorem ok_Cw_activePriority : zkOk i_Cw_activePriority := by unfold zkOk; decide +kernel
def tb_Cw_holder : List (Nat × Instr × Nat) := [(0, .aload_n 0, 1), (1, .getfield 10, 4), (4, .iload_n 1, 5), (5, .invokestatic 116, 8), (8, .invokevirtual 187, 11), (11, .ireturn, 12)]
def i_Cw_holder : zkI := (yX7_holder, cX7_holder, 2, (some .int), 6, tb_Cw_holder, [])
theorem ok_Cw_holder : zkOk i_Cw_holder := by unfold zkOk; decide +kernel
def tb_Cw_result : List (Nat × Instr × Nat) := [(0, .aload_n 0, 1), (1, .iload_n 1, 2), (2, .invokevirtual 101, 5), (5, .astore_n 3, 6), (6, .iload_n 2, 7), (7, .iconst 0, 8), (8, .iconst 5, 9), (9, .invokestatic 56, 12), (12, .ifCond .ne 13, 15), (15, .new 60, 18), (18, .dup, 19), (19, .ldc 190, 21), (21, .invokespecial 64, 24), (24, .athrow, 25), (25, .aload_n 3, 26), (26, .getfield 192, 29), (29, .iload_n 2, 30), (30, .iaload, 31), (31, .ireturn, 32)]
def i_Cw_result : zkI := (yX7_result, cX7_result, 4, (some .int), 6, tb_Cw_result, [])
theorem ok_Cw_result : zkOk i_Cw_result := by unfold zkOk; decide +kernel
def tb_Cw_averageResponse : List (Nat × Instr × Nat) := [(0, .aload_n 0, 1), (1, .iload_n 1, 2), (2, .invokevirtual 101, 5), (5, .astore_n 2, 6), (6, .aload_n 2, 7), (7, .getfield 192, 10), (10, .iconst 0, 11), (11, .iaload, 12), (12, .ifCond .ne 13, 15), (15, .new 195, 18), (18, .dup, 19), (19, .ldc 197, 21), (21, .invokespecial 199, 24), (24, .athrow, 25), (25, .aload_n 2, 26), (26, .getfield 200, 29), (29, .i2f, 30), (30, .aload_n 2, 31), (31, .getfield 192, 34), (34, .iconst 0, 35), (35, .iaload, 36), (36, .i2f, 37), (37, .fdiv, 38), (38, .freturn, 39)]
def i_Cw_averageResponse : zkI := (yX7_averageResponse, cX7_averageResponse, 3, (some .float), 6, tb_Cw_averageResponse, [])
theorem ok_Cw_averageResponse : zkOk i_Cw_averageResponse := by unfold zkOk; decide +kernel
def tb_Cw_balance : List (Nat × Instr × Nat) := [(0, .aload_n 0, 1), (1, .invokevirtual 203, 4), (4, .getfield 207, 7), (7, .ireturn, 8)]
def i_Cw_balance : zkI := (yX7_balance, cX7_balance, 1, (some .int), 6, tb_Cw_balance, [])
theorem ok_Cw_balance : zkOk i_Cw_balance := by unfold zkOk; decide +kernel
def tb_Cw_nextReplenishment : List (Nat × Instr × Nat) := [(0, .aload_n 0, 1), (1, .invokevirtual 203, 4), (4, .invokevirtual 212, 7), (7, .invokestatic 131, 10), (10, .ireturn, 11)]
def i_Cw_nextReplenishment : zkI := (yX7_nextReplenishment, cX7_nextReplenishment, 1, (some .int), 6, tb_Cw_nextReplenishment, [])
theorem ok_Cw_nextReplenishment : zkOk i_Cw_nextReplenishment := by unfold zkOk; decide +kernel
def tb_Cw_requestResponse : List (Nat × Instr × Nat) := [(0, .iload_n 1, 1), (1, .iconst 0, 2), (2, .aload_n 0, 3), (3, .getfield 10, 6), (6, .getfield 215, 9), (9, .getfield 219, 12), (12, .iconst 1, 13), (13, .isub, 14), (14, .invokestatic 56, 17), (17, .ifCond .ne 13, 20), (20, .new 161, 23), (23, .dup, 24), (24, .ldc 224, 26), (26, .invokespecial 165, 29), (29, .athrow, 30), (30, .aload_n 0, 31), (31, .getfield 10, 34), (34, .getfield 215, 37), (37, .getfield 226, 40), (40, .iload_n 1, 41), (41, .iaload, 42), (42, .istore_n 2, 43), (43, .iload_n 2, 44), (44, .iconst (-1), 45), (45, .if_icmp .ne 13, 48), (48, .new 71, 51), (51, .dup, 52), (52, .ldc 229, 54), (54, .invokespecial 75, 57), (57, .athrow, 58), (58, .iload_n 2, 59), (59, .ireturn, 60)]
def i_Cw_requestResponse : zkI := (yX7_requestResponse, cX7_requestResponse, 3, (some .int), 6, tb_Cw_requestResponse, [])
theorem ok_Cw_requestResponse : zkOk i_Cw_requestResponse := by unfold zkOk; decide +kernel
def tb_Cw_utilization : List (Nat × Instr × Nat) := [(0, .aload_n 0, 1), (1, .getfield 10, 4), (4, .getfield 150, 7), (7, .ifCond .ne 13, 10), (10, .new 195, 13), (13, .dup, 14), (14, .ldc 231, 16), (16, .invokespecial 199, 19), (19, .athrow, 20), (20, .aload_n 0, 21), (21, .getfield 10, 24), (24, .invokevirtual 233, 27), (27, .i2d, 28), (28, .aload_n 0, 29), (29, .getfield 10, 32), (32, .getfield 150, 35), (35, .i2d, 36), (36, .ddiv, 37), (37, .dreturn, 38)]
def i_Cw_utilization : zkI := (yX7_utilization, cX7_utilization, 1, (some .double), 6, tb_Cw_utilization, [])
theorem ok_Cw_utilization : zkOk i_Cw_utilization := by unfold zkOk; decide +kernel
def tb_Cw_snapshot : List (Nat × Instr × Nat) := [(0, .aload_n 0, 1), (1, .getfield 16, 4), (4, .aload_n 0, 5), (5, .getfield 10, 8), (8, .invokevirtual 236, 11), (11, .aload_n 0, 12), (12, .iconst 1, 13), (13, .putfield 240, 16), (16, .aload_n 0, 17), (17, .getfield 10, 20), (20, .getfield 150, 23), (23, .ireturn, 24)]
def i_Cw_snapshot : zkI := (yX7_snapshot, cX7_snapshot, 1, (some .int), 6, tb_Cw_snapshot, [])
theorem ok_Cw_snapshot : zkOk i_Cw_snapshot := by unfold zkOk; decide +kernel
def tb_Cw_restore : List (Nat × Instr × Nat) := [(0, .aload_n 0, 1), (1, .getfield 240, 4), (4, .ifCond .ne 13, 7), (7, .new 71, 10), (10, .dup, 11), (11, .ldc 244, 13), (13, .invokespecial 75, 16), (16, .athrow, 17), (17, .aload_n 0, 18), (18, .getfield 10, 21), (21, .aload_n 0, 22), (22, .getfield 16, 25), (25, .invokevirtual 236, 28), (28, .aload_n 0, 29), (29, .getfield 10, 32), (32, .getfield 150, 35), (35, .ireturn, 36)]
def i_Cw_restore : zkI := (yX7_restore, cX7_restore, 1, (some .int), 6, tb_Cw_restore, [])
theorem ok_Cw_restore : zkOk i_Cw_restore := by unfold zkOk; decide +kernel
def tb_Cw_perform : List (Nat × Instr × Nat) := [(0, .aload_n 0, 1), (1, .getfield 22, 4), (4, .iconst 0, 5), (5, .invokevirtual 246, 8), (8, .istore_n 2, 9), (9, .aload_n 0, 10), (10, .getfield 22, 13), (13, .iconst 1, 14), (14, .invokevirtual 246, 17), (17, .istore_n 3, 18), (18, .aload_n 0, 19), (19, .getfield 22, 22), (22, .iconst 2, 23), (23, .invokevirtual 246, 26), (26, .istore 4, 28), (28, .iload_n 1, 29), (29, .tableswitch 100 0 4 #[35, 55, 67, 77, 89], 64), (64, .aload_n 0, 65), (65, .getfield 10, 68), (68, .iload_n 2, 69), (69, .iload_n 3, 70), (70, .iload 4, 72), (72, .aload_n 0, 73), (73, .getfield 22, 76), (76, .iconst 3, 77), (77, .invokevirtual 246, 80), (80, .invokevirtual 34, 83), (83, .ireturn, 84), (84, .aload_n 0, 85), (85, .getfield 10, 88), (88, .iload_n 2, 89), (89, .iload_n 3, 90), (90, .iload 4, 92), (92, .invokevirtual 46, 95), (95, .ireturn, 96), (96, .aload_n 0, 97), (97, .getfield 10, 100), (100, .iload_n 2, 101), (101, .iload_n 3, 102), (102, .invokevirtual 49, 105), (105, .ireturn, 106), (106, .aload_n 0, 107), (107, .getfield 10, 110), (110, .iload_n 2, 111), (111, .iload_n 3, 112), (112, .iload 4, 114), (114, .invokevirtual 42, 117), (117, .ireturn, 118), (118, .aload_n 0, 119), (119, .getfield 10, 122), (122, .iload_n 2, 123), (123, .iconst (-1), 124), (124, .iload_n 3, 125), (125, .invokevirtual 42, 128), (128, .ireturn, 129), (129, .aload_n 0, 130), (130, .getfield 10, 133), (133, .iload_n 1, 134), (134, .iconst 5, 135), (135, .isub, 136), (136, .invokevirtual 53, 139), (139, .ireturn, 140)]
def i_Cw_perform : zkI := (yX7_perform, cX7_perform, 5, (some .int), 6, tb_Cw_perform, [])
theorem ok_Cw_perform : zkOk i_Cw_perform := by unfold zkOk; decide +kernel
def tb_Cw_accepted : List (Nat × Instr × Nat) := [(0, .iload_n 0, 1), (1, .tableswitch 72 (-4) (-1) #[61, 51, 41, 31], 32), (32, .new 161, 35), (35, .dup, 36), (36, .ldc 249, 38), (38, .invokespecial 165, 41), (41, .athrow, 42), (42, .new 60, 45), (45, .dup, 46), (46, .ldc 251, 48), (48, .invokespecial 64, 51), (51, .athrow, 52), (52, .new 71, 55), (55, .dup, 56), (56, .ldc 253, 58), (58, .invokespecial 75, 61), (61, .athrow, 62), (62, .new 255, 65), (65, .dup, 66), (66, .ldc_w 257, 69), (69, .invokespecial 259, 72), (72, .athrow, 73), (73, .iload_n 0, 74), (74, .ireturn, 75)]
def i_Cw_accepted : zkI := (yX7_accepted, cX7_accepted, 1, (some .int), 6, tb_Cw_accepted, [])
theorem ok_Cw_accepted : zkOk i_Cw_accepted := by unfold zkOk; decide +kernel
def tb_Cw_found : List (Nat × Instr × Nat) := [(0, .iload_n 0, 1), (1, .iconst (-1), 2), (2, .if_icmp .ne 14, 5), (5, .new 93, 8), (8, .dup, 9), (9, .ldc_w 260, 12), (12, .invokespecial 97, 15), (15, .athrow, 16), (16, .iload_n 0, 17), (17, .ireturn, 18)]
def i_Cw_found : zkI := (yX7_found, cX7_found, 1, (some .int), 6, tb_Cw_found, [])
theorem ok_Cw_found : zkOk i_Cw_found := by unfold zkOk; decide +kernel
def tb_Cw_checkedResource : List (Nat × Instr × Nat) := [(0, .iload_n 0, 1), (1, .iconst 0, 2), (2, .iconst 3, 3), (3, .invokestatic 56, 6), (6, .ifCond .ne 14, 9), (9, .new 161, 12), (12, .dup, 13), (13, .ldc_w 262, 16), (16, .invokespecial 165, 19), (19, .athrow, 20), (20, .iload_n 0, 21), (21, .ireturn, 22)]
def i_Cw_checkedResource : zkI := (yX7_checkedResource, cX7_checkedResource, 1, (some .int), 6, tb_Cw_checkedResource, [])
theorem ok_Cw_checkedResource : zkOk i_Cw_checkedResource := by unfold zkOk; decide +kernel
def tb_Cw_taskAt : List (Nat × Instr × Nat) := [(0, .aload_n 0, 1), (1, .getfield 10, 4), (4, .iload_n 1, 5), (5, .invokevirtual 264, 8), (8, .ifCond .ne 13, 11), (11, .new 161, 14), (14, .dup, 15), (15, .ldc 249, 17), (17, .invokespecial 165, 20), (20, .athrow, 21), (21, .aload_n 0, 22), (22, .getfield 10, 25), (25, .getfield 268, 28), (28, .iload_n 1, 29), (29, .aaload, 30), (30, .areturn, 31)]
def i_Cw_taskAt : zkI := (yX7_taskAt, cX7_taskAt, 2, (some (.object "CeilingWorkbench$Task")), 6, tb_Cw_taskAt, [])
theorem ok_Cw_taskAt : zkOk i_Cw_taskAt := by unfold zkOk; decide +kernel
def tb_Cw_taskWithSegments : List (Nat × Instr × Nat) := [(0, .aload_n 0, 1), (1, .iload_n 1, 2), (2, .invokevirtual 101, 5), (5, .astore_n 2, 6), (6, .aload_n 2, 7), (7, .getfield 272, 10), (10, .ifCond .ne 14, 13), (13, .new 71, 16), (16, .dup, 17), (17, .ldc_w 275, 20), (20, .invokespecial 75, 23), (23, .athrow, 24), (24, .aload_n 2, 25), (25, .areturn, 26)]
def i_Cw_taskWithSegments : zkI := (yX7_taskWithSegments, cX7_taskWithSegments, 3, (some (.object "CeilingWorkbench$Task")), 6, tb_Cw_taskWithSegments, [])
theorem ok_Cw_taskWithSegments : zkOk i_Cw_taskWithSegments := by unfold zkOk; decide +kernel
def tb_Cw_presentServer : List (Nat × Instr × Nat) := [(0, .aload_n 0, 1), (1, .getfield 10, 4), (4, .getfield 277, 7), (7, .getfield 281, 10), (10, .ifCond .ne 14, 13), (13, .new 71, 16), (16, .dup, 17), (17, .ldc_w 284, 20), (20, .invokespecial 75, 23), (23, .athrow, 24), (24, .aload_n 0, 25), (25, .getfield 10, 28), (28, .getfield 277, 31), (31, .areturn, 32)]
def i_Cw_presentServer : zkI := (yX7_presentServer, cX7_presentServer, 1, (some (.object "CeilingWorkbench$Server")), 6, tb_Cw_presentServer, [])
theorem ok_Cw_presentServer : zkOk i_Cw_presentServer := by unfold zkOk; decide +kernel
def tb_Cw_isWithin : List (Nat × Instr × Nat) := [(0, .iload_n 0, 1), (1, .iload_n 1, 2), (2, .if_icmp .lt 12, 5), (5, .iload_n 0, 6), (6, .iload_n 2, 7), (7, .if_icmp .gt 7, 10), (10, .iconst 1, 11), (11, .goto 4, 14), (14, .iconst 0, 15), (15, .ireturn, 16)]
def i_Cw_isWithin : zkI := (yX7_isWithin, cX7_isWithin, 3, (some .boolean), 6, tb_Cw_isWithin, [])
theorem ok_Cw_isWithin : zkOk i_Cw_isWithin := by unfold zkOk; decide +kernel
def tb_Mo_init : List (Nat × Instr × Nat) := [(0, .aload_n 0, 1), (1, .invokespecial 1, 4), (4, .aload_n 0, 5), (5, .bipush 20, 7), (7, .newarray .int, 9), (9, .putfield 7, 12), (12, .aload_n 0, 13), (13, .iconst 5, 14), (14, .newarray .int, 16), (16, .putfield 13, 19), (19, .aload_n 0, 20), (20, .bipush 60, 22), (22, .newarray .int, 24), (24, .putfield 16, 27), (27, .aload_n 0, 28), (28, .bipush 24, 30), (30, .newarray .int, 32), (32, .putfield 19, 35), (35, .aload_n 0, 36), (36, .sipush 400, 39), (39, .newarray .int, 41), (41, .putfield 22, 44), (44, .aload_n 0, 45), (45, .sipush 2005, 48), (48, .newarray .int, 50), (50, .putfield 25, 53), (53, .aload_n 0, 54), (54, .iconst 5, 55), (55, .newarray .int, 57), (57, .putfield 28, 60), (60, .aload_n 0, 61), (61, .iconst 5, 62), (62, .newarray .int, 64), (64, .putfield 31, 67), (67, .aload_n 0, 68), (68, .iconst 5, 69), (69, .newarray .int, 71), (71, .putfield 34, 74), (74, .aload_n 0, 75), (75, .bipush 30, 77), (77, .newarray .int, 79), (79, .putfield 37, 82), (82, .aload_n 0, 83), (83, .iconst 5, 84), (84, .newarray .int, 86), (86, .putfield 40, 89), (89, .aload_n 0, 90), (90, .bipush 12, 92), (92, .newarray .int, 94), (94, .putfield 43, 97), (97, .aload_n 0, 98), (98, .bipush 12, 100), (100, .newarray .int, 102), (102, .putfield 46, 105), (105, .aload_n 0, 106), (106, .sipush 800, 109), (109, .newarray .int, 111), (111, .putfield 49, 114), (114, .aload_n 0, 115), (115, .bipush 60, 117), (117, .newarray .char, 119), (119, .putfield 52, 122), (122, .aload_n 0, 123), (123, .iconst (-1), 124), (124, .putfield 56, 127), (127, .aload_n 0, 128), (128, .iconst 4, 129), (129, .newarray .int, 131), (131, .putfield 60, 134), (134, .aload_n 0, 135), (135, .sipush 3600, 138), (138, .newarray .int, 140), (140, .putfield 63, 143), (143, .return_, 144)]
def i_Mo_init : zkI := (yX8_init, cX8_init, 1, none, 7, tb_Mo_init, [])
theorem ok_Mo_init : zkOk i_Mo_init := by unfold zkOk; decide +kernel
def tb_Mo_isIn : List (Nat × Instr × Nat) := [(0, .iload_n 0, 1), (1, .iload_n 1, 2), (2, .if_icmp .lt 12, 5), (5, .iload_n 0, 6), (6, .iload_n 2, 7), (7, .if_icmp .gt 7, 10), (10, .iconst 1, 11), (11, .goto 4, 14), (14, .iconst 0, 15), (15, .ireturn, 16)]
def i_Mo_isIn : zkI := (yX8_isIn, cX8_isIn, 3, (some .boolean), 7, tb_Mo_isIn, [])
theorem ok_Mo_isIn : zkOk i_Mo_isIn := by unfold zkOk; decide +kernel
def tb_Mo_thrown : List (Nat × Instr × Nat) := [(0, .aload_n 0, 1), (1, .getfield 66, 4), (4, .ireturn, 5)]
def i_Mo_thrown : zkI := (yX8_thrown, cX8_thrown, 1, (some .int), 7, tb_Mo_thrown, [])
theorem ok_Mo_thrown : zkOk i_Mo_thrown := by unfold zkOk; decide +kernel
def tb_Mo_fail : List (Nat × Instr × Nat) := [(0, .aload_n 0, 1), (1, .iload_n 1, 2), (2, .putfield 66, 5), (5, .iconst 0, 6), (6, .ireturn, 7)]
def i_Mo_fail : zkI := (yX8_fail, cX8_fail, 2, (some .int), 7, tb_Mo_fail, [])
theorem ok_Mo_fail : zkOk i_Mo_fail := by unfold zkOk; decide +kernel
def tb_Mo_hasServer : List (Nat × Instr × Nat) := [(0, .aload_n 0, 1), (1, .getfield 69, 4), (4, .ifCond .le 7, 7), (7, .iconst 1, 8), (8, .goto 4, 11), (11, .iconst 0, 12), (12, .ireturn, 13)]
def i_Mo_hasServer : zkI := (yX8_hasServer, cX8_hasServer, 1, (some .boolean), 7, tb_Mo_hasServer, [])
theorem ok_Mo_hasServer : zkOk i_Mo_hasServer := by unfold zkOk; decide +kernel
def tb_Mo_isTask : List (Nat × Instr × Nat) := [(0, .iload_n 1, 1), (1, .iconst 0, 2), (2, .aload_n 0, 3), (3, .getfield 72, 6), (6, .iconst 1, 7), (7, .isub, 8), (8, .invokestatic 75, 11), (11, .ireturn, 12)]
def i_Mo_isTask : zkI := (yX8_isTask, cX8_isTask, 2, (some .boolean), 7, tb_Mo_isTask, [])
theorem ok_Mo_isTask : zkOk i_Mo_isTask := by unfold zkOk; decide +kernel
def tb_Mo_priorityOf : List (Nat × Instr × Nat) := [(0, .aload_n 0, 1), (1, .getfield 7, 4), (4, .iconst 4, 5), (5, .iload_n 1, 6), (6, .imul, 7), (7, .iaload, 8), (8, .ireturn, 9)]
def i_Mo_priorityOf : zkI := (yX8_priorityOf, cX8_priorityOf, 2, (some .int), 7, tb_Mo_priorityOf, [])
theorem ok_Mo_priorityOf : zkOk i_Mo_priorityOf := by unfold zkOk; decide +kernel
def tb_Mo_periodOf : List (Nat × Instr × Nat) := [(0, .aload_n 0, 1), (1, .getfield 7, 4), (4, .iconst 4, 5), (5, .iload_n 1, 6), (6, .imul, 7), (7, .iconst 1, 8), (8, .iadd, 9), (9, .iaload, 10), (10, .ireturn, 11)]
def i_Mo_periodOf : zkI := (yX8_periodOf, cX8_periodOf, 2, (some .int), 7, tb_Mo_periodOf, [])
theorem ok_Mo_periodOf : zkOk i_Mo_periodOf := by unfold zkOk; decide +kernel
def tb_Mo_lengthAt : List (Nat × Instr × Nat) := [(0, .aload_n 0, 1), (1, .getfield 16, 4), (4, .iconst 2, 5), (5, .bipush 6, 7), (7, .iload_n 1, 8), (8, .imul, 9), (9, .iload_n 2, 10), (10, .iadd, 11), (11, .imul, 12), (12, .iconst 1, 13), (13, .iadd, 14), (14, .iaload, 15), (15, .ireturn, 16)]
def i_Mo_lengthAt : zkI := (yX8_lengthAt, cX8_lengthAt, 3, (some .int), 7, tb_Mo_lengthAt, [])
theorem ok_Mo_lengthAt : zkOk i_Mo_lengthAt := by unfold zkOk; decide +kernel
def tb_Mo_resourceAt : List (Nat × Instr × Nat) := [(0, .aload_n 0, 1), (1, .getfield 16, 4), (4, .iconst 2, 5), (5, .bipush 6, 7), (7, .iload_n 1, 8), (8, .imul, 9), (9, .iload_n 2, 10), (10, .iadd, 11), (11, .imul, 12), (12, .iaload, 13), (13, .ireturn, 14)]
def i_Mo_resourceAt : zkI := (yX8_resourceAt, cX8_resourceAt, 3, (some .int), 7, tb_Mo_resourceAt, [])
theorem ok_Mo_resourceAt : zkOk i_Mo_resourceAt := by unfold zkOk; decide +kernel
def tb_Mo_demandOf : List (Nat × Instr × Nat) := [(0, .iconst 0, 1), (1, .istore_n 2, 2), (2, .iconst 0, 3), (3, .istore_n 3, 4), (4, .iload_n 3, 5), (5, .aload_n 0, 6), (6, .getfield 13, 9), (9, .iload_n 1, 10), (10, .iaload, 11), (11, .if_icmp .ge 18, 14), (14, .iload_n 2, 15), (15, .aload_n 0, 16), (16, .iload_n 1, 17), (17, .iload_n 3, 18), (18, .invokevirtual 79, 21), (21, .iadd, 22), (22, .istore_n 2, 23), (23, .iinc 3 1, 26), (26, .goto (-22), 29), (29, .iload_n 2, 30), (30, .ireturn, 31)]
def i_Mo_demandOf : zkI := (yX8_demandOf, cX8_demandOf, 4, (some .int), 7, tb_Mo_demandOf, [])
theorem ok_Mo_demandOf : zkOk i_Mo_demandOf := by unfold zkOk; decide +kernel
def tb_Mo_restart : List (Nat × Instr × Nat) := [(0, .aload_n 0, 1), (1, .iconst 0, 2), (2, .putfield 83, 5), (5, .iconst 0, 6), (6, .istore_n 1, 7), (7, .iload_n 1, 8), (8, .iconst 5, 9), (9, .if_icmp .ge 37, 12), (12, .aload_n 0, 13), (13, .getfield 28, 16), (16, .iload_n 1, 17), (17, .iconst 0, 18), (18, .iastore, 19), (19, .aload_n 0, 20), (20, .getfield 31, 23), (23, .iload_n 1, 24), (24, .iconst 0, 25), (25, .iastore, 26), (26, .aload_n 0, 27), (27, .getfield 34, 30), (30, .iload_n 1, 31), (31, .iconst 0, 32), (32, .iastore, 33), (33, .aload_n 0, 34), (34, .getfield 40, 37), (37, .iload_n 1, 38), (38, .iconst 0, 39), (39, .iastore, 40), (40, .iinc 1 1, 43), (43, .goto (-36), 46), (46, .iconst 0, 47), (47, .istore_n 1, 48), (48, .iload_n 1, 49), (49, .bipush 30, 51), (51, .if_icmp .ge 16, 54), (54, .aload_n 0, 55), (55, .getfield 37, 58), (58, .iload_n 1, 59), (59, .iconst 0, 60), (60, .iastore, 61), (61, .iinc 1 1, 64), (64, .goto (-16), 67), (67, .aload_n 0, 68), (68, .aload_n 0, 69), (69, .getfield 86, 72), (72, .putfield 89, 75), (75, .aload_n 0, 76), (76, .iconst 0, 77), (77, .putfield 92, 80), (80, .aload_n 0, 81), (81, .iconst 0, 82), (82, .putfield 95, 85), (85, .aload_n 0, 86), (86, .iconst 0, 87), (87, .putfield 98, 90), (90, .iconst 0, 91), (91, .istore_n 1, 92), (92, .iload_n 1, 93), (93, .bipush 12, 95), (95, .if_icmp .ge 32, 98), (98, .aload_n 0, 99), (99, .getfield 43, 102), (102, .iload_n 1, 103), (103, .aload_n 0, 104), (104, .getfield 19, 107), (107, .iconst 2, 108), (108, .iload_n 1, 109), (109, .imul, 110), (110, .iconst 1, 111), (111, .iadd, 112), (112, .iaload, 113), (113, .iastore, 114), (114, .aload_n 0, 115), (115, .getfield 46, 118), (118, .iload_n 1, 119), (119, .iconst (-1), 120), (120, .iastore, 121), (121, .iinc 1 1, 124), (124, .goto (-32), 127), (127, .return_, 128)]
def i_Mo_restart : zkI := (yX8_restart, cX8_restart, 2, none, 7, tb_Mo_restart, [])
theorem ok_Mo_restart : zkOk i_Mo_restart := by unfold zkOk; decide +kernel
def tb_Mo_clear : List (Nat × Instr × Nat) := [(0, .aload_n 0, 1), (1, .iconst 0, 2), (2, .putfield 66, 5), (5, .aload_n 0, 6), (6, .getfield 72, 9), (9, .istore_n 1, 10), (10, .aload_n 0, 11), (11, .iconst 0, 12), (12, .putfield 101, 15), (15, .aload_n 0, 16), (16, .iconst 0, 17), (17, .putfield 72, 20), (20, .aload_n 0, 21), (21, .iconst 0, 22), (22, .putfield 69, 25), (25, .aload_n 0, 26), (26, .iconst 0, 27), (27, .putfield 86, 30), (30, .aload_n 0, 31), (31, .iconst 0, 32), (32, .putfield 104, 35), (35, .aload_n 0, 36), (36, .invokevirtual 107, 39), (39, .iload_n 1, 40), (40, .ireturn, 41)]
def i_Mo_clear : zkI := (yX8_clear, cX8_clear, 2, (some .int), 7, tb_Mo_clear, [])
theorem ok_Mo_clear : zkOk i_Mo_clear := by unfold zkOk; decide +kernel
def tb_Mo_isTaken : List (Nat × Instr × Nat) := [(0, .iconst 0, 1), (1, .istore_n 2, 2), (2, .iconst 0, 3), (3, .istore_n 3, 4), (4, .iload_n 3, 5), (5, .aload_n 0, 6), (6, .getfield 72, 9), (9, .if_icmp .ge 28, 12), (12, .iload_n 2, 13), (13, .ifCond .ne 12, 16), (16, .aload_n 0, 17), (17, .iload_n 3, 18), (18, .invokevirtual 110, 21), (21, .iload_n 1, 22), (22, .if_icmp .ne 7, 25), (25, .iconst 1, 26), (26, .goto 4, 29), (29, .iconst 0, 30), (30, .istore_n 2, 31), (31, .iinc 3 1, 34), (34, .goto (-30), 37), (37, .iload_n 2, 38), (38, .ireturn, 39)]
def i_Mo_isTaken : zkI := (yX8_isTaken, cX8_isTaken, 4, (some .boolean), 7, tb_Mo_isTaken, [])
theorem ok_Mo_isTaken : zkOk i_Mo_isTaken := by unfold zkOk; decide +kernel
def tb_Mo_addTask : List (Nat × Instr × Nat) := [(0, .aload_n 0, 1), (1, .iconst 0, 2), (2, .putfield 66, 5), (5, .iload_n 1, 6), (6, .iconst 1, 7), (7, .bipush 9, 9), (9, .invokestatic 75, 12), (12, .ifCond .eq 33, 15), (15, .iload_n 2, 16), (16, .iconst 1, 17), (17, .bipush 60, 19), (19, .invokestatic 75, 22), (22, .ifCond .eq 23, 25), (25, .iload_n 3, 26), (26, .iconst 1, 27), (27, .iload_n 2, 28), (28, .invokestatic 75, 31), (31, .ifCond .eq 14, 34), (34, .iload 4, 36), (36, .iconst 0, 37), (37, .bipush 60, 39), (39, .invokestatic 75, 42), (42, .ifCond .ne 9, 45), (45, .aload_n 0, 46), (46, .iconst 1, 47), (47, .invokevirtual 114, 50), (50, .ireturn, 51), (51, .aload_n 0, 52), (52, .getfield 83, 55), (55, .ifCond .ne 11, 58), (58, .aload_n 0, 59), (59, .getfield 72, 62), (62, .iconst 5, 63), (63, .if_icmp .ne 9, 66), (66, .aload_n 0, 67), (67, .iconst 2, 68), (68, .invokevirtual 114, 71), (71, .ireturn, 72), (72, .aload_n 0, 73), (73, .iload_n 1, 74), (74, .invokevirtual 117, 77), (77, .ifCond .ne 11, 80), (80, .aload_n 0, 81), (81, .getfield 69, 84), (84, .iload_n 1, 85), (85, .if_icmp .ne 9, 88), (88, .aload_n 0, 89), (89, .iconst 3, 90), (90, .invokevirtual 114, 93), (93, .ireturn, 94), (94, .aload_n 0, 95), (95, .getfield 7, 98), (98, .iconst 4, 99), (99, .aload_n 0, 100), (100, .getfield 72, 103), (103, .imul, 104), (104, .iload_n 1, 105), (105, .iastore, 106), (106, .aload_n 0, 107), (107, .getfield 7, 110), (110, .iconst 4, 111), (111, .aload_n 0, 112), (112, .getfield 72, 115), (115, .imul, 116), (116, .iconst 1, 117), (117, .iadd, 118), (118, .iload_n 2, 119), (119, .iastore, 120), (120, .aload_n 0, 121), (121, .getfield 7, 124), (124, .iconst 4, 125), (125, .aload_n 0, 126), (126, .getfield 72, 129), (129, .imul, 130), (130, .iconst 2, 131), (131, .iadd, 132), (132, .iload_n 3, 133), (133, .iastore, 134), (134, .aload_n 0, 135), (135, .getfield 7, 138), (138, .iconst 4, 139), (139, .aload_n 0, 140), (140, .getfield 72, 143), (143, .imul, 144), (144, .iconst 3, 145), (145, .iadd, 146), (146, .iload 4, 148), (148, .iastore, 149), (149, .aload_n 0, 150), (150, .getfield 13, 153), (153, .aload_n 0, 154), (154, .getfield 72, 157), (157, .iconst 0, 158), (158, .iastore, 159), (159, .aload_n 0, 160), (160, .dup, 161), (161, .getfield 72, 164), (164, .iconst 1, 165), (165, .iadd, 166), (166, .putfield 72, 169), (169, .aload_n 0, 170), (170, .getfield 72, 173), (173, .iconst 1, 174), (174, .isub, 175), (175, .ireturn, 176)]
def i_Mo_addTask : zkI := (yX8_addTask, cX8_addTask, 5, (some .int), 7, tb_Mo_addTask, [])
theorem ok_Mo_addTask : zkOk i_Mo_addTask := by unfold zkOk; decide +kernel
def tb_Mo_addSegment : List (Nat × Instr × Nat) := [(0, .aload_n 0, 1), (1, .aload_n 0, 2), (2, .iload_n 1, 3), (3, .invokevirtual 121, 6), (6, .ifCond .ne 7, 9), (9, .iconst 1, 10), (10, .goto 49, 13), (13, .iload_n 2, 14), (14, .iconst (-1), 15), (15, .iconst 3, 16), (16, .invokestatic 75, 19), (19, .ifCond .eq 13, 22), (22, .iload_n 3, 23), (23, .iconst 1, 24), (24, .bipush 9, 26), (26, .invokestatic 75, 29), (29, .ifCond .ne 7, 32), (32, .iconst 2, 33), (33, .goto 26, 36), (36, .aload_n 0, 37), (37, .getfield 83, 40), (40, .ifCond .ne 14, 43), (43, .aload_n 0, 44), (44, .getfield 13, 47), (47, .iload_n 1, 48), (48, .iaload, 49), (49, .bipush 6, 51), (51, .if_icmp .ne 7, 54), (54, .iconst 3, 55), (55, .goto 4, 58), (58, .iconst 0, 59), (59, .putfield 66, 62), (62, .aload_n 0, 63), (63, .getfield 66, 66), (66, .ifCond .eq 5, 69), (69, .iconst 0, 70), (70, .ireturn, 71), (71, .iconst 2, 72), (72, .bipush 6, 74), (74, .iload_n 1, 75), (75, .imul, 76), (76, .aload_n 0, 77), (77, .getfield 13, 80), (80, .iload_n 1, 81), (81, .iaload, 82), (82, .iadd, 83), (83, .imul, 84), (84, .istore 4, 86), (86, .aload_n 0, 87), (87, .getfield 16, 90), (90, .iload 4, 92), (92, .iload_n 2, 93), (93, .iastore, 94), (94, .aload_n 0, 95), (95, .getfield 16, 98), (98, .iload 4, 100), (100, .iconst 1, 101), (101, .iadd, 102), (102, .iload_n 3, 103), (103, .iastore, 104), (104, .aload_n 0, 105), (105, .getfield 13, 108), (108, .iload_n 1, 109), (109, .dup2, 110), (110, .iaload, 111), (111, .iconst 1, 112), (112, .iadd, 113), (113, .iastore, 114), (114, .aload_n 0, 115), (115, .getfield 13, 118), (118, .iload_n 1, 119), (119, .iaload, 120), (120, .ireturn, 121)]
def i_Mo_addSegment : zkI := (yX8_addSegment, cX8_addSegment, 5, (some .int), 7, tb_Mo_addSegment, [])
theorem ok_Mo_addSegment : zkOk i_Mo_addSegment := by unfold zkOk; decide +kernel
def tb_Mo_setServer : List (Nat × Instr × Nat) := [(0, .aload_n 0, 1), (1, .iload_n 1, 2), (2, .iconst 1, 3), (3, .bipush 9, 5), (5, .invokestatic 75, 8), (8, .ifCond .eq 23, 11), (11, .iload_n 2, 12), (12, .iconst 1, 13), (13, .bipush 9, 15), (15, .invokestatic 75, 18), (18, .ifCond .eq 13, 21), (21, .iload_n 3, 22), (22, .iconst 1, 23), (23, .bipush 60, 25), (25, .invokestatic 75, 28), (28, .ifCond .ne 7, 31), (31, .iconst 1, 32), (32, .goto 27, 35), (35, .aload_n 0, 36), (36, .getfield 83, 39), (39, .ifCond .eq 7, 42), (42, .iconst 2, 43), (43, .goto 16, 46), (46, .aload_n 0, 47), (47, .iload_n 1, 48), (48, .invokevirtual 117, 51), (51, .ifCond .eq 7, 54), (54, .iconst 3, 55), (55, .goto 4, 58), (58, .iconst 0, 59), (59, .putfield 66, 62), (62, .aload_n 0, 63), (63, .getfield 66, 66), (66, .ifCond .eq 5, 69), (69, .iconst 0, 70), (70, .ireturn, 71), (71, .aload_n 0, 72), (72, .invokevirtual 124, 75), (75, .istore 4, 77), (77, .aload_n 0, 78), (78, .iload_n 1, 79), (79, .putfield 69, 82), (82, .aload_n 0, 83), (83, .iload_n 2, 84), (84, .putfield 86, 87), (87, .aload_n 0, 88), (88, .iload_n 3, 89), (89, .putfield 128, 92), (92, .aload_n 0, 93), (93, .iload_n 2, 94), (94, .putfield 89, 97), (97, .iload 4, 99), (99, .ireturn, 100)]
def i_Mo_setServer : zkI := (yX8_setServer, cX8_setServer, 5, (some .boolean), 7, tb_Mo_setServer, [])
theorem ok_Mo_setServer : zkOk i_Mo_setServer := by unfold zkOk; decide +kernel
def tb_Mo_request : List (Nat × Instr × Nat) := [(0, .aload_n 0, 1), (1, .iconst 0, 2), (2, .putfield 66, 5), (5, .iload_n 1, 6), (6, .iconst 0, 7), (7, .sipush 300, 10), (10, .invokestatic 75, 13), (13, .ifCond .eq 21, 16), (16, .iload_n 2, 17), (17, .iconst 1, 18), (18, .bipush 9, 20), (20, .invokestatic 75, 23), (23, .ifCond .eq 11, 26), (26, .iload_n 1, 27), (27, .aload_n 0, 28), (28, .getfield 83, 31), (31, .if_icmp .ge 9, 34), (34, .aload_n 0, 35), (35, .iconst 1, 36), (36, .invokevirtual 114, 39), (39, .ireturn, 40), (40, .aload_n 0, 41), (41, .getfield 104, 44), (44, .bipush 12, 46), (46, .if_icmp .ne 9, 49), (49, .aload_n 0, 50), (50, .iconst 2, 51), (51, .invokevirtual 114, 54), (54, .ireturn, 55), (55, .aload_n 0, 56), (56, .getfield 19, 59), (59, .iconst 2, 60), (60, .aload_n 0, 61), (61, .getfield 104, 64), (64, .imul, 65), (65, .iload_n 1, 66), (66, .iastore, 67), (67, .aload_n 0, 68), (68, .getfield 19, 71), (71, .iconst 2, 72), (72, .aload_n 0, 73), (73, .getfield 104, 76), (76, .imul, 77), (77, .iconst 1, 78), (78, .iadd, 79), (79, .iload_n 2, 80), (80, .iastore, 81), (81, .aload_n 0, 82), (82, .getfield 43, 85), (85, .aload_n 0, 86), (86, .getfield 104, 89), (89, .iload_n 2, 90), (90, .iastore, 91), (91, .aload_n 0, 92), (92, .getfield 46, 95), (95, .aload_n 0, 96), (96, .getfield 104, 99), (99, .iconst (-1), 100), (100, .iastore, 101), (101, .aload_n 0, 102), (102, .dup, 103), (103, .getfield 104, 106), (106, .iconst 1, 107), (107, .iadd, 108), (108, .putfield 104, 111), (111, .aload_n 0, 112), (112, .getfield 104, 115), (115, .iconst 1, 116), (116, .isub, 117), (117, .ireturn, 118)]
def i_Mo_request : zkI := (yX8_request, cX8_request, 3, (some .int), 7, tb_Mo_request, [])
theorem ok_Mo_request : zkOk i_Mo_request := by unfold zkOk; decide +kernel
def tb_Mo_setPolicy : List (Nat × Instr × Nat) := [(0, .aload_n 0, 1), (1, .iconst 0, 2), (2, .putfield 66, 5), (5, .iload_n 1, 6), (6, .iconst 0, 7), (7, .iconst 2, 8), (8, .invokestatic 75, 11), (11, .ifCond .ne 9, 14), (14, .aload_n 0, 15), (15, .iconst 1, 16), (16, .invokevirtual 114, 19), (19, .ireturn, 20), (20, .aload_n 0, 21), (21, .getfield 101, 24), (24, .istore_n 2, 25), (25, .aload_n 0, 26), (26, .iload_n 1, 27), (27, .putfield 101, 30), (30, .iload_n 2, 31), (31, .ireturn, 32)]
def i_Mo_setPolicy : zkI := (yX8_setPolicy, cX8_setPolicy, 3, (some .int), 7, tb_Mo_setPolicy, [])
theorem ok_Mo_setPolicy : zkOk i_Mo_setPolicy := by unfold zkOk; decide +kernel
def tb_Mo_taskCount : List (Nat × Instr × Nat) := [(0, .aload_n 0, 1), (1, .iconst 0, 2), (2, .putfield 66, 5), (5, .aload_n 0, 6), (6, .getfield 72, 9), (9, .ireturn, 10)]
def i_Mo_taskCount : zkI := (yX8_taskCount, cX8_taskCount, 1, (some .int), 7, tb_Mo_taskCount, [])
theorem ok_Mo_taskCount : zkOk i_Mo_taskCount := by unfold zkOk; decide +kernel
def tb_Mo_task : List (Nat × Instr × Nat) := [(0, .aload_n 0, 1), (1, .aload_n 0, 2), (2, .iload_n 1, 3), (3, .invokevirtual 121, 6), (6, .ifCond .ne 7, 9), (9, .iconst 1, 10), (10, .goto 17, 13), (13, .iload_n 2, 14), (14, .iconst 0, 15), (15, .iconst 5, 16), (16, .invokestatic 75, 19), (19, .ifCond .ne 7, 22), (22, .iconst 2, 23), (23, .goto 4, 26), (26, .iconst 0, 27), (27, .putfield 66, 30), (30, .aload_n 0, 31), (31, .getfield 66, 34), (34, .ifCond .eq 5, 37), (37, .iconst 0, 38), (38, .ireturn, 39), (39, .iload_n 2, 40), (40, .iconst 4, 41), (41, .if_icmp .ge 16, 44), (44, .aload_n 0, 45), (45, .getfield 7, 48), (48, .iconst 4, 49), (49, .iload_n 1, 50), (50, .imul, 51), (51, .iload_n 2, 52), (52, .iadd, 53), (53, .iaload, 54), (54, .goto 22, 57), (57, .iload_n 2, 58), (58, .iconst 4, 59), (59, .if_icmp .ne 12, 62), (62, .aload_n 0, 63), (63, .getfield 13, 66), (66, .iload_n 1, 67), (67, .iaload, 68), (68, .goto 8, 71), (71, .aload_n 0, 72), (72, .iload_n 1, 73), (73, .invokevirtual 131, 76), (76, .ireturn, 77)]
def i_Mo_task : zkI := (yX8_task, cX8_task, 3, (some .int), 7, tb_Mo_task, [])
theorem ok_Mo_task : zkOk i_Mo_task := by unfold zkOk; decide +kernel
def tb_Mo_ceilingOf : List (Nat × Instr × Nat) := [(0, .iconst 0, 1), (1, .istore_n 2, 2), (2, .iconst 0, 3), (3, .istore_n 3, 4), (4, .iload_n 3, 5), (5, .aload_n 0, 6), (6, .getfield 72, 9), (9, .if_icmp .ge 54, 12), (12, .iconst 0, 13), (13, .istore 4, 15), (15, .iload 4, 17), (17, .aload_n 0, 18), (18, .getfield 13, 21), (21, .iload_n 3, 22), (22, .iaload, 23), (23, .if_icmp .ge 34, 26), (26, .aload_n 0, 27), (27, .iload_n 3, 28), (28, .iload 4, 30), (30, .invokevirtual 134, 33), (33, .iload_n 1, 34), (34, .if_icmp .ne 15, 37), (37, .iload_n 2, 38), (38, .aload_n 0, 39), (39, .iload_n 3, 40), (40, .invokevirtual 110, 43), (43, .invokestatic 137, 46), (46, .goto 4, 49), (49, .iload_n 2, 50), (50, .istore_n 2, 51), (51, .iinc 4 1, 54), (54, .goto (-39), 57), (57, .iinc 3 1, 60), (60, .goto (-56), 63), (63, .iload_n 2, 64), (64, .ireturn, 65)]
def i_Mo_ceilingOf : zkI := (yX8_ceilingOf, cX8_ceilingOf, 5, (some .int), 7, tb_Mo_ceilingOf, [])
theorem ok_Mo_ceilingOf : zkOk i_Mo_ceilingOf := by unfold zkOk; decide +kernel
def tb_Mo_ceiling : List (Nat × Instr × Nat) := [(0, .aload_n 0, 1), (1, .iconst 0, 2), (2, .putfield 66, 5), (5, .iload_n 1, 6), (6, .iconst 0, 7), (7, .iconst 3, 8), (8, .invokestatic 75, 11), (11, .ifCond .eq 11, 14), (14, .aload_n 0, 15), (15, .iload_n 1, 16), (16, .invokevirtual 142, 19), (19, .goto 8, 22), (22, .aload_n 0, 23), (23, .iconst 1, 24), (24, .invokevirtual 114, 27), (27, .ireturn, 28)]
def i_Mo_ceiling : zkI := (yX8_ceiling, cX8_ceiling, 2, (some .int), 7, tb_Mo_ceiling, [])
theorem ok_Mo_ceiling : zkOk i_Mo_ceiling := by unfold zkOk; decide +kernel
def tb_Mo_blockingOf : List (Nat × Instr × Nat) := [(0, .iconst 0, 1), (1, .istore_n 2, 2), (2, .iconst 0, 3), (3, .istore_n 3, 4), (4, .iload_n 3, 5), (5, .aload_n 0, 6), (6, .getfield 72, 9), (9, .if_icmp .ge 101, 12), (12, .iconst 0, 13), (13, .istore 4, 15), (15, .iload 4, 17), (17, .aload_n 0, 18), (18, .getfield 13, 21), (21, .iload_n 3, 22), (22, .iaload, 23), (23, .if_icmp .ge 81, 26), (26, .aload_n 0, 27), (27, .iload_n 3, 28), (28, .invokevirtual 110, 31), (31, .aload_n 0, 32), (32, .iload_n 1, 33), (33, .invokevirtual 110, 36), (36, .if_icmp .ge 68, 39), (39, .aload_n 0, 40), (40, .iload_n 3, 41), (41, .iload 4, 43), (43, .invokevirtual 134, 46), (46, .istore 5, 48), (48, .iload 5, 50), (50, .iconst (-1), 51), (51, .if_icmp .eq 21, 54), (54, .aload_n 0, 55), (55, .iload 5, 57), (57, .invokevirtual 142, 60), (60, .aload_n 0, 61), (61, .iload_n 1, 62), (62, .invokevirtual 110, 65), (65, .if_icmp .lt 7, 68), (68, .iconst 1, 69), (69, .goto 4, 72), (72, .iconst 0, 73), (73, .istore 6, 75), (75, .iload 6, 77), (77, .ifCond .eq 19, 80), (80, .iload_n 2, 81), (81, .aload_n 0, 82), (82, .iload_n 3, 83), (83, .iload 4, 85), (85, .invokevirtual 79, 88), (88, .iconst 1, 89), (89, .isub, 90), (90, .invokestatic 137, 93), (93, .goto 4, 96), (96, .iload_n 2, 97), (97, .istore_n 2, 98), (98, .iinc 4 1, 101), (101, .goto (-86), 104), (104, .iinc 3 1, 107), (107, .goto (-103), 110), (110, .iload_n 2, 111), (111, .ireturn, 112)]
def i_Mo_blockingOf : zkI := (yX8_blockingOf, cX8_blockingOf, 7, (some .int), 7, tb_Mo_blockingOf, [])
theorem ok_Mo_blockingOf : zkOk i_Mo_blockingOf := by unfold zkOk; decide +kernel
def tb_Mo_blocking : List (Nat × Instr × Nat) := [(0, .aload_n 0, 1), (1, .iconst 0, 2), (2, .putfield 66, 5), (5, .aload_n 0, 6), (6, .iload_n 1, 7), (7, .invokevirtual 121, 10), (10, .ifCond .eq 11, 13), (13, .aload_n 0, 14), (14, .iload_n 1, 15), (15, .invokevirtual 145, 18), (18, .goto 8, 21), (21, .aload_n 0, 22), (22, .iconst 1, 23), (23, .invokevirtual 114, 26), (26, .ireturn, 27)]
def i_Mo_blocking : zkI := (yX8_blocking, cX8_blocking, 2, (some .int), 7, tb_Mo_blocking, [])
theorem ok_Mo_blocking : zkOk i_Mo_blocking := by unfold zkOk; decide +kernel
def tb_Mo_quotientUp : List (Nat × Instr × Nat) := [(0, .iload_n 0, 1), (1, .iload_n 1, 2), (2, .iadd, 3), (3, .iconst 1, 4), (4, .isub, 5), (5, .iload_n 1, 6), (6, .idiv, 7), (7, .ireturn, 8)]
def i_Mo_quotientUp : zkI := (yX8_quotientUp, cX8_quotientUp, 2, (some .int), 7, tb_Mo_quotientUp, [])
theorem ok_Mo_quotientUp : zkOk i_Mo_quotientUp := by unfold zkOk; decide +kernel
def tb_Mo_workUpTo : List (Nat × Instr × Nat) := [(0, .aload_n 0, 1), (1, .iload_n 1, 2), (2, .invokevirtual 145, 5), (5, .aload_n 0, 6), (6, .iload_n 1, 7), (7, .invokevirtual 131, 10), (10, .iadd, 11), (11, .istore_n 3, 12), (12, .iconst 0, 13), (13, .istore 4, 15), (15, .iload 4, 17), (17, .aload_n 0, 18), (18, .getfield 72, 21), (21, .if_icmp .ge 47, 24), (24, .iload_n 3, 25), (25, .aload_n 0, 26), (26, .iload 4, 28), (28, .invokevirtual 110, 31), (31, .aload_n 0, 32), (32, .iload_n 1, 33), (33, .invokevirtual 110, 36), (36, .if_icmp .le 23, 39), (39, .aload_n 0, 40), (40, .iload 4, 42), (42, .invokevirtual 131, 45), (45, .iload_n 2, 46), (46, .aload_n 0, 47), (47, .iload 4, 49), (49, .invokevirtual 148, 52), (52, .invokestatic 151, 55), (55, .imul, 56), (56, .goto 4, 59), (59, .iconst 0, 60), (60, .iadd, 61), (61, .istore_n 3, 62), (62, .iinc 4 1, 65), (65, .goto (-50), 68), (68, .iload_n 3, 69), (69, .aload_n 0, 70), (70, .getfield 69, 73), (73, .aload_n 0, 74), (74, .iload_n 1, 75), (75, .invokevirtual 110, 78), (78, .if_icmp .le 19, 81), (81, .aload_n 0, 82), (82, .getfield 86, 85), (85, .iload_n 2, 86), (86, .aload_n 0, 87), (87, .getfield 128, 90), (90, .invokestatic 151, 93), (93, .imul, 94), (94, .goto 4, 97), (97, .iconst 0, 98), (98, .iadd, 99), (99, .ireturn, 100)]
def i_Mo_workUpTo : zkI := (yX8_workUpTo, cX8_workUpTo, 5, (some .int), 7, tb_Mo_workUpTo, [])
theorem ok_Mo_workUpTo : zkOk i_Mo_workUpTo := by unfold zkOk; decide +kernel
def tb_Mo_boundOf : List (Nat × Instr × Nat) := [(0, .iconst 1, 1), (1, .istore_n 2, 2), (2, .iload_n 2, 3), (3, .sipush 1000, 6), (6, .if_icmp .gt 19, 9), (9, .aload_n 0, 10), (10, .iload_n 1, 11), (11, .iload_n 2, 12), (12, .invokevirtual 154, 15), (15, .iload_n 2, 16), (16, .if_icmp .eq 9, 19), (19, .iinc 2 1, 22), (22, .goto (-20), 25), (25, .iload_n 2, 26), (26, .sipush 1000, 29), (29, .if_icmp .le 7, 32), (32, .iconst (-1), 33), (33, .goto 4, 36), (36, .iload_n 2, 37), (37, .ireturn, 38)]
def i_Mo_boundOf : zkI := (yX8_boundOf, cX8_boundOf, 3, (some .int), 7, tb_Mo_boundOf, [])
theorem ok_Mo_boundOf : zkOk i_Mo_boundOf := by unfold zkOk; decide +kernel
def tb_Mo_bound : List (Nat × Instr × Nat) := [(0, .aload_n 0, 1), (1, .aload_n 0, 2), (2, .iload_n 1, 3), (3, .invokevirtual 121, 6), (6, .ifCond .ne 7, 9), (9, .iconst 1, 10), (10, .goto 17, 13), (13, .aload_n 0, 14), (14, .getfield 13, 17), (17, .iload_n 1, 18), (18, .iaload, 19), (19, .ifCond .ne 7, 22), (22, .iconst 2, 23), (23, .goto 4, 26), (26, .iconst 0, 27), (27, .putfield 66, 30), (30, .aload_n 0, 31), (31, .getfield 66, 34), (34, .ifCond .eq 5, 37), (37, .iconst 0, 38), (38, .ireturn, 39), (39, .aload_n 0, 40), (40, .iload_n 1, 41), (41, .invokevirtual 157, 44), (44, .istore_n 2, 45), (45, .iload_n 2, 46), (46, .iconst (-1), 47), (47, .if_icmp .ne 11, 50), (50, .aload_n 0, 51), (51, .iconst 3, 52), (52, .invokevirtual 114, 55), (55, .goto 4, 58), (58, .iload_n 2, 59), (59, .ireturn, 60)]
def i_Mo_bound : zkI := (yX8_bound, cX8_bound, 3, (some .int), 7, tb_Mo_bound, [])
theorem ok_Mo_bound : zkOk i_Mo_bound := by unfold zkOk; decide +kernel
def tb_Mo_comes : List (Nat × Instr × Nat) := [(0, .iconst 0, 1), (1, .istore_n 3, 2), (2, .iconst 0, 3), (3, .istore 4, 5), (5, .iload 4, 7), (7, .aload_n 0, 8), (8, .getfield 72, 11), (11, .if_icmp .ge 47, 14), (14, .iload_n 3, 15), (15, .aload_n 0, 16), (16, .iload 4, 18), (18, .invokevirtual 110, 21), (21, .aload_n 0, 22), (22, .iload_n 1, 23), (23, .invokevirtual 110, 26), (26, .if_icmp .le 23, 29), (29, .iload_n 2, 30), (30, .aload_n 0, 31), (31, .iload 4, 33), (33, .invokevirtual 148, 36), (36, .irem, 37), (37, .ifCond .ne 12, 40), (40, .aload_n 0, 41), (41, .iload 4, 43), (43, .invokevirtual 131, 46), (46, .goto 4, 49), (49, .iconst 0, 50), (50, .iadd, 51), (51, .istore_n 3, 52), (52, .iinc 4 1, 55), (55, .goto (-50), 58), (58, .iload_n 3, 59), (59, .aload_n 0, 60), (60, .getfield 69, 63), (63, .aload_n 0, 64), (64, .iload_n 1, 65), (65, .invokevirtual 110, 68), (68, .if_icmp .le 19, 71), (71, .iload_n 2, 72), (72, .aload_n 0, 73), (73, .getfield 128, 76), (76, .irem, 77), (77, .ifCond .ne 10, 80), (80, .aload_n 0, 81), (81, .getfield 86, 84), (84, .goto 4, 87), (87, .iconst 0, 88), (88, .iadd, 89), (89, .ireturn, 90)]
def i_Mo_comes : zkI := (yX8_comes, cX8_comes, 5, (some .int), 7, tb_Mo_comes, [])
theorem ok_Mo_comes : zkOk i_Mo_comes := by unfold zkOk; decide +kernel
def tb_Mo_witness : List (Nat × Instr × Nat) := [(0, .aload_n 0, 1), (1, .aload_n 0, 2), (2, .iload_n 1, 3), (3, .invokevirtual 121, 6), (6, .ifCond .ne 7, 9), (9, .iconst 1, 10), (10, .goto 17, 13), (13, .aload_n 0, 14), (14, .getfield 13, 17), (17, .iload_n 1, 18), (18, .iaload, 19), (19, .ifCond .ne 7, 22), (22, .iconst 2, 23), (23, .goto 4, 26), (26, .iconst 0, 27), (27, .putfield 66, 30), (30, .aload_n 0, 31), (31, .getfield 66, 34), (34, .ifCond .eq 5, 37), (37, .iconst 0, 38), (38, .ireturn, 39), (39, .aload_n 0, 40), (40, .iload_n 1, 41), (41, .invokevirtual 145, 44), (44, .istore_n 2, 45), (45, .iconst 0, 46), (46, .istore_n 3, 47), (47, .aload_n 0, 48), (48, .iload_n 1, 49), (49, .invokevirtual 131, 52), (52, .istore 4, 54), (54, .iconst 0, 55), (55, .istore 5, 57), (57, .iload 5, 59), (59, .sipush 1000, 62), (62, .if_icmp .ge 54, 65), (65, .iload_n 3, 66), (66, .aload_n 0, 67), (67, .iload_n 1, 68), (68, .iload 5, 70), (70, .invokevirtual 160, 73), (73, .iadd, 74), (74, .istore_n 3, 75), (75, .iload 5, 77), (77, .iload_n 2, 78), (78, .if_icmp .lt 13, 81), (81, .iload_n 3, 82), (82, .ifCond .le 9, 85), (85, .iinc 3 (-1), 88), (88, .goto 12, 91), (91, .iload 5, 93), (93, .iload_n 2, 94), (94, .if_icmp .lt 6, 97), (97, .iinc 4 (-1), 100), (100, .iload 4, 102), (102, .ifCond .ne 8, 105), (105, .iload 5, 107), (107, .iconst 1, 108), (108, .iadd, 109), (109, .ireturn, 110), (110, .iinc 5 1, 113), (113, .goto (-56), 116), (116, .aload_n 0, 117), (117, .iconst 3, 118), (118, .invokevirtual 114, 121), (121, .ireturn, 122)]
def i_Mo_witness : zkI := (yX8_witness, cX8_witness, 6, (some .int), 7, tb_Mo_witness, [])
theorem ok_Mo_witness : zkOk i_Mo_witness := by unfold zkOk; decide +kernel
def tb_Mo_isSchedulable : List (Nat × Instr × Nat) := [(0, .aload_n 0, 1), (1, .iconst 0, 2), (2, .putfield 66, 5), (5, .iconst 1, 6), (6, .istore_n 1, 7), (7, .iconst 0, 8), (8, .istore_n 2, 9), (9, .iload_n 2, 10), (10, .aload_n 0, 11), (11, .getfield 72, 14), (14, .if_icmp .ge 57, 17), (17, .aload_n 0, 18), (18, .getfield 13, 21), (21, .iload_n 2, 22), (22, .iaload, 23), (23, .ifCond .ne 7, 26), (26, .iconst 1, 27), (27, .goto 8, 30), (30, .aload_n 0, 31), (31, .iload_n 2, 32), (32, .invokevirtual 157, 35), (35, .istore_n 3, 36), (36, .iload_n 1, 37), (37, .ifCond .eq 26, 40), (40, .iload_n 3, 41), (41, .iconst (-1), 42), (42, .if_icmp .eq 21, 45), (45, .iload_n 3, 46), (46, .aload_n 0, 47), (47, .getfield 7, 50), (50, .iconst 4, 51), (51, .iload_n 2, 52), (52, .imul, 53), (53, .iconst 2, 54), (54, .iadd, 55), (55, .iaload, 56), (56, .if_icmp .gt 7, 59), (59, .iconst 1, 60), (60, .goto 4, 63), (63, .iconst 0, 64), (64, .istore_n 1, 65), (65, .iinc 2 1, 68), (68, .goto (-59), 71), (71, .iload_n 1, 72), (72, .ireturn, 73)]
def i_Mo_isSchedulable : zkI := (yX8_isSchedulable, cX8_isSchedulable, 4, (some .boolean), 7, tb_Mo_isSchedulable, [])
theorem ok_Mo_isSchedulable : zkOk i_Mo_isSchedulable := by unfold zkOk; decide +kernel
def tb_Mo_load : List (Nat × Instr × Nat) := [(0, .aload_n 0, 1), (1, .iconst 0, 2), (2, .putfield 66, 5), (5, .dconst 0, 6), (6, .dstore_n 1, 7), (7, .iconst 0, 8), (8, .istore_n 3, 9), (9, .iload_n 3, 10), (10, .aload_n 0, 11), (11, .getfield 72, 14), (14, .if_icmp .ge 25, 17), (17, .dload_n 1, 18), (18, .aload_n 0, 19), (19, .iload_n 3, 20), (20, .invokevirtual 131, 23), (23, .i2d, 24), (24, .aload_n 0, 25), (25, .iload_n 3, 26), (26, .invokevirtual 148, 29), (29, .i2d, 30), (30, .ddiv, 31), (31, .dadd, 32), (32, .dstore_n 1, 33), (33, .iinc 3 1, 36), (36, .goto (-27), 39), (39, .aload_n 0, 40), (40, .invokevirtual 124, 43), (43, .ifCond .eq 19, 46), (46, .dload_n 1, 47), (47, .aload_n 0, 48), (48, .getfield 86, 51), (51, .i2d, 52), (52, .aload_n 0, 53), (53, .getfield 128, 56), (56, .i2d, 57), (57, .ddiv, 58), (58, .dadd, 59), (59, .goto 4, 62), (62, .dload_n 1, 63), (63, .dreturn, 64)]
def i_Mo_load : zkI := (yX8_load, cX8_load, 4, (some .double), 7, tb_Mo_load, [])
theorem ok_Mo_load : zkOk i_Mo_load := by unfold zkOk; decide +kernel
def tb_Mo_hyperbolicLoad : List (Nat × Instr × Nat) := [(0, .aload_n 0, 1), (1, .iconst 0, 2), (2, .putfield 66, 5), (5, .dconst 1, 6), (6, .dstore_n 1, 7), (7, .iconst 0, 8), (8, .istore_n 3, 9), (9, .iload_n 3, 10), (10, .aload_n 0, 11), (11, .getfield 72, 14), (14, .if_icmp .ge 27, 17), (17, .dload_n 1, 18), (18, .aload_n 0, 19), (19, .iload_n 3, 20), (20, .invokevirtual 131, 23), (23, .i2d, 24), (24, .aload_n 0, 25), (25, .iload_n 3, 26), (26, .invokevirtual 148, 29), (29, .i2d, 30), (30, .ddiv, 31), (31, .dconst 1, 32), (32, .dadd, 33), (33, .dmul, 34), (34, .dstore_n 1, 35), (35, .iinc 3 1, 38), (38, .goto (-29), 41), (41, .aload_n 0, 42), (42, .invokevirtual 124, 45), (45, .ifCond .eq 21, 48), (48, .dload_n 1, 49), (49, .aload_n 0, 50), (50, .getfield 86, 53), (53, .i2d, 54), (54, .aload_n 0, 55), (55, .getfield 128, 58), (58, .i2d, 59), (59, .ddiv, 60), (60, .dconst 1, 61), (61, .dadd, 62), (62, .dmul, 63), (63, .goto 4, 66), (66, .dload_n 1, 67), (67, .dreturn, 68)]
def i_Mo_hyperbolicLoad : zkI := (yX8_hyperbolicLoad, cX8_hyperbolicLoad, 4, (some .double), 7, tb_Mo_hyperbolicLoad, [])
theorem ok_Mo_hyperbolicLoad : zkOk i_Mo_hyperbolicLoad := by unfold zkOk; decide +kernel
def tb_Mo_takeReplenishments : List (Nat × Instr × Nat) := [(0, .iconst 0, 1), (1, .istore_n 1, 2), (2, .iconst 0, 3), (3, .istore_n 2, 4), (4, .iload_n 2, 5), (5, .aload_n 0, 6), (6, .getfield 98, 9), (9, .if_icmp .ge 85, 12), (12, .aload_n 0, 13), (13, .getfield 49, 16), (16, .iconst 2, 17), (17, .iload_n 2, 18), (18, .imul, 19), (19, .iaload, 20), (20, .aload_n 0, 21), (21, .getfield 83, 24), (24, .if_icmp .gt 25, 27), (27, .aload_n 0, 28), (28, .dup, 29), (29, .getfield 89, 32), (32, .aload_n 0, 33), (33, .getfield 49, 36), (36, .iconst 2, 37), (37, .iload_n 2, 38), (38, .imul, 39), (39, .iconst 1, 40), (40, .iadd, 41), (41, .iaload, 42), (42, .iadd, 43), (43, .putfield 89, 46), (46, .goto 42, 49), (49, .aload_n 0, 50), (50, .getfield 49, 53), (53, .iconst 2, 54), (54, .iload_n 1, 55), (55, .imul, 56), (56, .aload_n 0, 57), (57, .getfield 49, 60), (60, .iconst 2, 61), (61, .iload_n 2, 62), (62, .imul, 63), (63, .iaload, 64), (64, .iastore, 65), (65, .aload_n 0, 66), (66, .getfield 49, 69), (69, .iconst 2, 70), (70, .iload_n 1, 71), (71, .imul, 72), (72, .iconst 1, 73), (73, .iadd, 74), (74, .aload_n 0, 75), (75, .getfield 49, 78), (78, .iconst 2, 79), (79, .iload_n 2, 80), (80, .imul, 81), (81, .iconst 1, 82), (82, .iadd, 83), (83, .iaload, 84), (84, .iastore, 85), (85, .iinc 1 1, 88), (88, .iinc 2 1, 91), (91, .goto (-87), 94), (94, .aload_n 0, 95), (95, .iload_n 1, 96), (96, .putfield 98, 99), (99, .return_, 100)]
def i_Mo_takeReplenishments : zkI := (yX8_takeReplenishments, cX8_takeReplenishments, 3, none, 7, tb_Mo_takeReplenishments, [])
theorem ok_Mo_takeReplenishments : zkOk i_Mo_takeReplenishments := by unfold zkOk; decide +kernel
def tb_Mo_release : List (Nat × Instr × Nat) := [(0, .iconst 0, 1), (1, .istore_n 1, 2), (2, .iload_n 1, 3), (3, .aload_n 0, 4), (4, .getfield 72, 7), (7, .if_icmp .ge 114, 10), (10, .aload_n 0, 11), (11, .getfield 83, 14), (14, .aload_n 0, 15), (15, .getfield 7, 18), (18, .iconst 4, 19), (19, .iload_n 1, 20), (20, .imul, 21), (21, .iconst 3, 22), (22, .iadd, 23), (23, .iaload, 24), (24, .isub, 25), (25, .istore_n 2, 26), (26, .aload_n 0, 27), (27, .getfield 13, 30), (30, .iload_n 1, 31), (31, .iaload, 32), (32, .ifCond .le 83, 35), (35, .iload_n 2, 36), (36, .ifCond .lt 79, 39), (39, .iload_n 2, 40), (40, .aload_n 0, 41), (41, .iload_n 1, 42), (42, .invokevirtual 148, 45), (45, .irem, 46), (46, .ifCond .ne 69, 49), (49, .aload_n 0, 50), (50, .getfield 34, 53), (53, .iload_n 1, 54), (54, .iaload, 55), (55, .iconst 1, 56), (56, .if_icmp .ne 28, 59), (59, .aload_n 0, 60), (60, .getfield 34, 63), (63, .iload_n 1, 64), (64, .iconst 0, 65), (65, .iastore, 66), (66, .aload_n 0, 67), (67, .getfield 37, 70), (70, .bipush 6, 72), (72, .iload_n 1, 73), (73, .imul, 74), (74, .iconst 3, 75), (75, .iadd, 76), (76, .dup2, 77), (77, .iaload, 78), (78, .iconst 1, 79), (79, .iadd, 80), (80, .iastore, 81), (81, .goto 34, 84), (84, .aload_n 0, 85), (85, .getfield 25, 88), (88, .sipush 401, 91), (91, .iload_n 1, 92), (92, .imul, 93), (93, .aload_n 0, 94), (94, .getfield 28, 97), (97, .iload_n 1, 98), (98, .iaload, 99), (99, .iadd, 100), (100, .aload_n 0, 101), (101, .getfield 83, 104), (104, .iastore, 105), (105, .aload_n 0, 106), (106, .getfield 28, 109), (109, .iload_n 1, 110), (110, .dup2, 111), (111, .iaload, 112), (112, .iconst 1, 113), (113, .iadd, 114), (114, .iastore, 115), (115, .iinc 1 1, 118), (118, .goto (-116), 121), (121, .return_, 122)]
def i_Mo_release : zkI := (yX8_release, cX8_release, 3, none, 7, tb_Mo_release, [])
theorem ok_Mo_release : zkOk i_Mo_release := by unfold zkOk; decide +kernel
def tb_Mo_takeJob : List (Nat × Instr × Nat) := [(0, .aload_n 0, 1), (1, .getfield 28, 4), (4, .iload_n 1, 5), (5, .dup2, 6), (6, .iaload, 7), (7, .iconst 1, 8), (8, .isub, 9), (9, .iastore, 10), (10, .iload_n 2, 11), (11, .istore_n 3, 12), (12, .iload_n 3, 13), (13, .aload_n 0, 14), (14, .getfield 28, 17), (17, .iload_n 1, 18), (18, .iaload, 19), (19, .if_icmp .ge 35, 22), (22, .aload_n 0, 23), (23, .getfield 25, 26), (26, .sipush 401, 29), (29, .iload_n 1, 30), (30, .imul, 31), (31, .iload_n 3, 32), (32, .iadd, 33), (33, .aload_n 0, 34), (34, .getfield 25, 37), (37, .sipush 401, 40), (40, .iload_n 1, 41), (41, .imul, 42), (42, .iload_n 3, 43), (43, .iadd, 44), (44, .iconst 1, 45), (45, .iadd, 46), (46, .iaload, 47), (47, .iastore, 48), (48, .iinc 3 1, 51), (51, .goto (-39), 54), (54, .aload_n 0, 55), (55, .getfield 31, 58), (58, .iload_n 1, 59), (59, .iload_n 2, 60), (60, .ifCond .ne 7, 63), (63, .iconst 0, 64), (64, .goto 9, 67), (67, .aload_n 0, 68), (68, .getfield 31, 71), (71, .iload_n 1, 72), (72, .iaload, 73), (73, .iastore, 74), (74, .return_, 75)]
def i_Mo_takeJob : zkI := (yX8_takeJob, cX8_takeJob, 4, none, 7, tb_Mo_takeJob, [])
theorem ok_Mo_takeJob : zkOk i_Mo_takeJob := by unfold zkOk; decide +kernel
def tb_Mo_meetDeadlines : List (Nat × Instr × Nat) := [(0, .iconst 0, 1), (1, .istore_n 1, 2), (2, .iload_n 1, 3), (3, .aload_n 0, 4), (4, .getfield 72, 7), (7, .if_icmp .ge 126, 10), (10, .aload_n 0, 11), (11, .getfield 28, 14), (14, .iload_n 1, 15), (15, .iaload, 16), (16, .iconst 1, 17), (17, .isub, 18), (18, .istore_n 2, 19), (19, .iload_n 2, 20), (20, .ifCond .lt 107, 23), (23, .aload_n 0, 24), (24, .getfield 25, 27), (27, .sipush 401, 30), (30, .iload_n 1, 31), (31, .imul, 32), (32, .iload_n 2, 33), (33, .iadd, 34), (34, .iaload, 35), (35, .aload_n 0, 36), (36, .getfield 7, 39), (39, .iconst 4, 40), (40, .iload_n 1, 41), (41, .imul, 42), (42, .iconst 2, 43), (43, .iadd, 44), (44, .iaload, 45), (45, .iadd, 46), (46, .aload_n 0, 47), (47, .getfield 83, 50), (50, .if_icmp .ne 71, 53), (53, .aload_n 0, 54), (54, .getfield 37, 57), (57, .bipush 6, 59), (59, .iload_n 1, 60), (60, .imul, 61), (61, .iconst 1, 62), (62, .iadd, 63), (63, .dup2, 64), (64, .iaload, 65), (65, .iconst 1, 66), (66, .iadd, 67), (67, .iastore, 68), (68, .aload_n 0, 69), (69, .getfield 34, 72), (72, .iload_n 1, 73), (73, .aload_n 0, 74), (74, .getfield 101, 77), (77, .iconst 2, 78), (78, .if_icmp .ne 7, 81), (81, .iconst 1, 82), (82, .goto 9, 85), (85, .aload_n 0, 86), (86, .getfield 34, 89), (89, .iload_n 1, 90), (90, .iaload, 91), (91, .iastore, 92), (92, .aload_n 0, 93), (93, .getfield 101, 96), (96, .iconst 1, 97), (97, .if_icmp .ne 24, 100), (100, .aload_n 0, 101), (101, .getfield 37, 104), (104, .bipush 6, 106), (106, .iload_n 1, 107), (107, .imul, 108), (108, .iconst 2, 109), (109, .iadd, 110), (110, .dup2, 111), (111, .iaload, 112), (112, .iconst 1, 113), (113, .iadd, 114), (114, .iastore, 115), (115, .aload_n 0, 116), (116, .iload_n 1, 117), (117, .iload_n 2, 118), (118, .invokevirtual 163, 121), (121, .iinc 2 (-1), 124), (124, .goto (-105), 127), (127, .iinc 1 1, 130), (130, .goto (-128), 133), (133, .return_, 134)]
def i_Mo_meetDeadlines : zkI := (yX8_meetDeadlines, cX8_meetDeadlines, 3, none, 7, tb_Mo_meetDeadlines, [])
theorem ok_Mo_meetDeadlines : zkOk i_Mo_meetDeadlines := by unfold zkOk; decide +kernel
def tb_Mo_segmentNow : List (Nat × Instr × Nat) := [(0, .iconst 0, 1), (1, .istore_n 3, 2), (2, .iconst 0, 3), (3, .istore 4, 5), (5, .iload 4, 7), (7, .aload_n 0, 8), (8, .getfield 13, 11), (11, .iload_n 1, 12), (12, .iaload, 13), (13, .if_icmp .ge 55, 16), (16, .iload_n 3, 17), (17, .aload_n 0, 18), (18, .iload_n 1, 19), (19, .iload 4, 21), (21, .invokevirtual 79, 24), (24, .iadd, 25), (25, .istore 5, 27), (27, .aload_n 0, 28), (28, .getfield 31, 31), (31, .iload_n 1, 32), (32, .iaload, 33), (33, .iload 5, 35), (35, .if_icmp .ge 24, 38), (38, .iload_n 2, 39), (39, .ifCond .eq 17, 42), (42, .aload_n 0, 43), (43, .getfield 31, 46), (46, .iload_n 1, 47), (47, .iaload, 48), (48, .iload_n 3, 49), (49, .if_icmp .ne 7, 52), (52, .iconst (-1), 53), (53, .goto 5, 56), (56, .iload 4, 58), (58, .ireturn, 59), (59, .iload 5, 61), (61, .istore_n 3, 62), (62, .iinc 4 1, 65), (65, .goto (-60), 68), (68, .iconst (-1), 69), (69, .ireturn, 70)]
def i_Mo_segmentNow : zkI := (yX8_segmentNow, cX8_segmentNow, 6, (some .int), 7, tb_Mo_segmentNow, [])
theorem ok_Mo_segmentNow : zkOk i_Mo_segmentNow := by unfold zkOk; decide +kernel
def tb_Mo_heldBy : List (Nat × Instr × Nat) := [(0, .aload_n 0, 1), (1, .getfield 28, 4), (4, .iload_n 1, 5), (5, .iaload, 6), (6, .ifCond .ne 7, 9), (9, .iconst (-1), 10), (10, .goto 9, 13), (13, .aload_n 0, 14), (14, .iload_n 1, 15), (15, .iconst 1, 16), (16, .invokevirtual 167, 19), (19, .istore_n 2, 20), (20, .iload_n 2, 21), (21, .iconst (-1), 22), (22, .if_icmp .ne 7, 25), (25, .iconst (-1), 26), (26, .goto 9, 29), (29, .aload_n 0, 30), (30, .iload_n 1, 31), (31, .iload_n 2, 32), (32, .invokevirtual 134, 35), (35, .ireturn, 36)]
def i_Mo_heldBy : zkI := (yX8_heldBy, cX8_heldBy, 3, (some .int), 7, tb_Mo_heldBy, [])
theorem ok_Mo_heldBy : zkOk i_Mo_heldBy := by unfold zkOk; decide +kernel
def tb_Mo_activeOf : List (Nat × Instr × Nat) := [(0, .aload_n 0, 1), (1, .iload_n 1, 2), (2, .invokevirtual 171, 5), (5, .istore_n 2, 6), (6, .iload_n 2, 7), (7, .iconst (-1), 8), (8, .if_icmp .ne 11, 11), (11, .aload_n 0, 12), (12, .iload_n 1, 13), (13, .invokevirtual 110, 16), (16, .goto 16, 19), (19, .aload_n 0, 20), (20, .iload_n 1, 21), (21, .invokevirtual 110, 24), (24, .aload_n 0, 25), (25, .iload_n 2, 26), (26, .invokevirtual 142, 29), (29, .invokestatic 137, 32), (32, .ireturn, 33)]
def i_Mo_activeOf : zkI := (yX8_activeOf, cX8_activeOf, 3, (some .int), 7, tb_Mo_activeOf, [])
theorem ok_Mo_activeOf : zkOk i_Mo_activeOf := by unfold zkOk; decide +kernel
def tb_Mo_firstRequest : List (Nat × Instr × Nat) := [(0, .iconst (-1), 1), (1, .istore_n 2, 2), (2, .iconst 0, 3), (3, .istore_n 3, 4), (4, .iload_n 3, 5), (5, .aload_n 0, 6), (6, .getfield 104, 9), (9, .if_icmp .ge 72, 12), (12, .aload_n 0, 13), (13, .getfield 43, 16), (16, .iload_n 3, 17), (17, .iaload, 18), (18, .ifCond .le 19, 21), (21, .aload_n 0, 22), (22, .getfield 19, 25), (25, .iconst 2, 26), (26, .iload_n 3, 27), (27, .imul, 28), (28, .iaload, 29), (29, .iload_n 1, 30), (30, .if_icmp .ge 7, 33), (33, .iconst 1, 34), (34, .goto 4, 37), (37, .iconst 0, 38), (38, .istore 4, 40), (40, .iload 4, 42), (42, .ifCond .eq 31, 45), (45, .iload_n 2, 46), (46, .iconst (-1), 47), (47, .if_icmp .eq 22, 50), (50, .aload_n 0, 51), (51, .getfield 19, 54), (54, .iconst 2, 55), (55, .iload_n 3, 56), (56, .imul, 57), (57, .iaload, 58), (58, .aload_n 0, 59), (59, .getfield 19, 62), (62, .iconst 2, 63), (63, .iload_n 2, 64), (64, .imul, 65), (65, .iaload, 66), (66, .if_icmp .ge 7, 69), (69, .iload_n 3, 70), (70, .goto 4, 73), (73, .iload_n 2, 74), (74, .istore_n 2, 75), (75, .iinc 3 1, 78), (78, .goto (-74), 81), (81, .iload_n 2, 82), (82, .ireturn, 83)]
def i_Mo_firstRequest : zkI := (yX8_firstRequest, cX8_firstRequest, 5, (some .int), 7, tb_Mo_firstRequest, [])
theorem ok_Mo_firstRequest : zkOk i_Mo_firstRequest := by unfold zkOk; decide +kernel
def tb_Mo_isReady : List (Nat × Instr × Nat) := [(0, .aload_n 0, 1), (1, .invokevirtual 124, 4), (4, .ifCond .eq 23, 7), (7, .aload_n 0, 8), (8, .getfield 89, 11), (11, .ifCond .le 16, 14), (14, .aload_n 0, 15), (15, .iload_n 1, 16), (16, .invokevirtual 174, 19), (19, .iconst (-1), 20), (20, .if_icmp .eq 7, 23), (23, .iconst 1, 24), (24, .goto 4, 27), (27, .iconst 0, 28), (28, .ireturn, 29)]
def i_Mo_isReady : zkI := (yX8_isReady, cX8_isReady, 2, (some .boolean), 7, tb_Mo_isReady, [])
theorem ok_Mo_isReady : zkOk i_Mo_isReady := by unfold zkOk; decide +kernel
def tb_Mo_mostUrgent : List (Nat × Instr × Nat) := [(0, .aload_n 0, 1), (1, .aload_n 0, 2), (2, .getfield 83, 5), (5, .iconst 1, 6), (6, .iadd, 7), (7, .invokevirtual 177, 10), (10, .ifCond .eq 8, 13), (13, .bipush 9, 15), (15, .goto 4, 18), (18, .iconst (-1), 19), (19, .istore_n 1, 20), (20, .iload_n 1, 21), (21, .bipush 9, 23), (23, .if_icmp .ne 10, 26), (26, .aload_n 0, 27), (27, .getfield 69, 30), (30, .goto 4, 33), (33, .iconst 0, 34), (34, .istore_n 2, 35), (35, .iconst 0, 36), (36, .istore_n 3, 37), (37, .iload_n 3, 38), (38, .aload_n 0, 39), (39, .getfield 72, 42), (42, .if_icmp .ge 60, 45), (45, .aload_n 0, 46), (46, .getfield 28, 49), (49, .iload_n 3, 50), (50, .iaload, 51), (51, .ifCond .ne 7, 54), (54, .iconst 0, 55), (55, .goto 8, 58), (58, .aload_n 0, 59), (59, .iload_n 3, 60), (60, .invokevirtual 180, 63), (63, .istore 4, 65), (65, .iload 4, 67), (67, .iload_n 2, 68), (68, .if_icmp .gt 23, 71), (71, .iload 4, 73), (73, .iload_n 2, 74), (74, .if_icmp .ne 22, 77), (77, .iload 4, 79), (79, .ifCond .le 17, 82), (82, .aload_n 0, 83), (83, .iload_n 3, 84), (84, .invokevirtual 171, 87), (87, .iconst (-1), 88), (88, .if_icmp .eq 8, 91), (91, .iload_n 3, 92), (92, .istore_n 1, 93), (93, .iload 4, 95), (95, .istore_n 2, 96), (96, .iinc 3 1, 99), (99, .goto (-62), 102), (102, .iload_n 1, 103), (103, .ireturn, 104)]
def i_Mo_mostUrgent : zkI := (yX8_mostUrgent, cX8_mostUrgent, 5, (some .int), 7, tb_Mo_mostUrgent, [])
theorem ok_Mo_mostUrgent : zkOk i_Mo_mostUrgent := by unfold zkOk; decide +kernel
def tb_Mo_runServer : List (Nat × Instr × Nat) := [(0, .aload_n 0, 1), (1, .getfield 92, 4), (4, .ifCond .ne 21, 7), (7, .aload_n 0, 8), (8, .iconst 1, 9), (9, .putfield 92, 12), (12, .aload_n 0, 13), (13, .aload_n 0, 14), (14, .getfield 83, 17), (17, .putfield 183, 20), (20, .aload_n 0, 21), (21, .iconst 0, 22), (22, .putfield 95, 25), (25, .aload_n 0, 26), (26, .dup, 27), (27, .getfield 89, 30), (30, .iconst 1, 31), (31, .isub, 32), (32, .putfield 89, 35), (35, .aload_n 0, 36), (36, .dup, 37), (37, .getfield 95, 40), (40, .iconst 1, 41), (41, .iadd, 42), (42, .putfield 95, 45), (45, .aload_n 0, 46), (46, .aload_n 0, 47), (47, .getfield 83, 50), (50, .iconst 1, 51), (51, .iadd, 52), (52, .invokevirtual 174, 55), (55, .istore_n 1, 56), (56, .aload_n 0, 57), (57, .getfield 43, 60), (60, .iload_n 1, 61), (61, .dup2, 62), (62, .iaload, 63), (63, .iconst 1, 64), (64, .isub, 65), (65, .iastore, 66), (66, .aload_n 0, 67), (67, .getfield 46, 70), (70, .iload_n 1, 71), (71, .aload_n 0, 72), (72, .getfield 43, 75), (75, .iload_n 1, 76), (76, .iaload, 77), (77, .ifCond .ne 12, 80), (80, .aload_n 0, 81), (81, .getfield 83, 84), (84, .iconst 1, 85), (85, .iadd, 86), (86, .goto 4, 89), (89, .iconst (-1), 90), (90, .iastore, 91), (91, .return_, 92)]
def i_Mo_runServer : zkI := (yX8_runServer, cX8_runServer, 2, none, 7, tb_Mo_runServer, [])
theorem ok_Mo_runServer : zkOk i_Mo_runServer := by unfold zkOk; decide +kernel
def tb_Mo_runJob : List (Nat × Instr × Nat) := [(0, .aload_n 0, 1), (1, .getfield 31, 4), (4, .iload_n 1, 5), (5, .dup2, 6), (6, .iaload, 7), (7, .iconst 1, 8), (8, .iadd, 9), (9, .iastore, 10), (10, .aload_n 0, 11), (11, .getfield 31, 14), (14, .iload_n 1, 15), (15, .iaload, 16), (16, .aload_n 0, 17), (17, .iload_n 1, 18), (18, .invokevirtual 131, 21), (21, .if_icmp .ge 5, 24), (24, .iconst 0, 25), (25, .ireturn, 26), (26, .aload_n 0, 27), (27, .getfield 83, 30), (30, .iconst 1, 31), (31, .iadd, 32), (32, .aload_n 0, 33), (33, .getfield 25, 36), (36, .sipush 401, 39), (39, .iload_n 1, 40), (40, .imul, 41), (41, .iaload, 42), (42, .isub, 43), (43, .istore_n 2, 44), (44, .aload_n 0, 45), (45, .getfield 37, 48), (48, .bipush 6, 50), (50, .iload_n 1, 51), (51, .imul, 52), (52, .dup2, 53), (53, .iaload, 54), (54, .iconst 1, 55), (55, .iadd, 56), (56, .iastore, 57), (57, .aload_n 0, 58), (58, .getfield 37, 61), (61, .bipush 6, 63), (63, .iload_n 1, 64), (64, .imul, 65), (65, .iconst 5, 66), (66, .iadd, 67), (67, .aload_n 0, 68), (68, .getfield 37, 71), (71, .bipush 6, 73), (73, .iload_n 1, 74), (74, .imul, 75), (75, .iconst 5, 76), (76, .iadd, 77), (77, .iaload, 78), (78, .iload_n 2, 79), (79, .invokestatic 137, 82), (82, .iastore, 83), (83, .aload_n 0, 84), (84, .getfield 40, 87), (87, .iload_n 1, 88), (88, .dup2, 89), (89, .iaload, 90), (90, .iload_n 2, 91), (91, .iadd, 92), (92, .iastore, 93), (93, .aload_n 0, 94), (94, .iload_n 1, 95), (95, .iconst 0, 96), (96, .invokevirtual 163, 99), (99, .iconst 1, 100), (100, .ireturn, 101)]
def i_Mo_runJob : zkI := (yX8_runJob, cX8_runJob, 3, (some .int), 7, tb_Mo_runJob, [])
theorem ok_Mo_runJob : zkOk i_Mo_runJob := by unfold zkOk; decide +kernel
def tb_Mo_countPreemption : List (Nat × Instr × Nat) := [(0, .aload_n 0, 1), (1, .getfield 83, 4), (4, .ifCond .ne 7, 7), (7, .iconst (-1), 8), (8, .goto 14, 11), (11, .aload_n 0, 12), (12, .getfield 22, 15), (15, .aload_n 0, 16), (16, .getfield 83, 19), (19, .iconst 1, 20), (20, .isub, 21), (21, .iaload, 22), (22, .istore_n 2, 23), (23, .aload_n 0, 24), (24, .iload_n 2, 25), (25, .invokevirtual 121, 28), (28, .ifCond .eq 32, 31), (31, .iload_n 2, 32), (32, .iload_n 1, 33), (33, .if_icmp .eq 27, 36), (36, .aload_n 0, 37), (37, .getfield 31, 40), (40, .iload_n 2, 41), (41, .iaload, 42), (42, .ifCond .le 18, 45), (45, .aload_n 0, 46), (46, .getfield 37, 49), (49, .bipush 6, 51), (51, .iload_n 2, 52), (52, .imul, 53), (53, .iconst 4, 54), (54, .iadd, 55), (55, .dup2, 56), (56, .iaload, 57), (57, .iconst 1, 58), (58, .iadd, 59), (59, .iastore, 60), (60, .return_, 61)]
def i_Mo_countPreemption : zkI := (yX8_countPreemption, cX8_countPreemption, 3, none, 7, tb_Mo_countPreemption, [])
theorem ok_Mo_countPreemption : zkOk i_Mo_countPreemption := by unfold zkOk; decide +kernel
def tb_Mo_endBusy : List (Nat × Instr × Nat) := [(0, .aload_n 0, 1), (1, .getfield 92, 4), (4, .iconst 1, 5), (5, .if_icmp .ne 73, 8), (8, .aload_n 0, 9), (9, .aload_n 0, 10), (10, .getfield 83, 13), (13, .invokevirtual 177, 16), (16, .ifCond .ne 62, 19), (19, .aload_n 0, 20), (20, .iconst 0, 21), (21, .putfield 92, 24), (24, .aload_n 0, 25), (25, .getfield 49, 28), (28, .iconst 2, 29), (29, .aload_n 0, 30), (30, .getfield 98, 33), (33, .imul, 34), (34, .aload_n 0, 35), (35, .getfield 183, 38), (38, .aload_n 0, 39), (39, .getfield 128, 42), (42, .iadd, 43), (43, .aload_n 0, 44), (44, .getfield 83, 47), (47, .invokestatic 137, 50), (50, .iastore, 51), (51, .aload_n 0, 52), (52, .getfield 49, 55), (55, .iconst 2, 56), (56, .aload_n 0, 57), (57, .getfield 98, 60), (60, .imul, 61), (61, .iconst 1, 62), (62, .iadd, 63), (63, .aload_n 0, 64), (64, .getfield 95, 67), (67, .iastore, 68), (68, .aload_n 0, 69), (69, .dup, 70), (70, .getfield 98, 73), (73, .iconst 1, 74), (74, .iadd, 75), (75, .putfield 98, 78), (78, .return_, 79)]
def i_Mo_endBusy : zkI := (yX8_endBusy, cX8_endBusy, 1, none, 7, tb_Mo_endBusy, [])
theorem ok_Mo_endBusy : zkOk i_Mo_endBusy := by unfold zkOk; decide +kernel
def tb_Mo_makeUnit : List (Nat × Instr × Nat) := [(0, .aload_n 0, 1), (1, .invokevirtual 186, 4), (4, .aload_n 0, 5), (5, .invokevirtual 189, 8), (8, .aload_n 0, 9), (9, .invokevirtual 192, 12), (12, .aload_n 0, 13), (13, .invokevirtual 195, 16), (16, .istore_n 1, 17), (17, .aload_n 0, 18), (18, .iload_n 1, 19), (19, .invokevirtual 199, 22), (22, .aload_n 0, 23), (23, .getfield 22, 26), (26, .aload_n 0, 27), (27, .getfield 83, 30), (30, .iload_n 1, 31), (31, .iastore, 32), (32, .iconst 0, 33), (33, .istore_n 2, 34), (34, .iload_n 1, 35), (35, .bipush 9, 37), (37, .if_icmp .ne 10, 40), (40, .aload_n 0, 41), (41, .invokevirtual 203, 44), (44, .goto 14, 47), (47, .iload_n 1, 48), (48, .iconst (-1), 49), (49, .if_icmp .eq 9, 52), (52, .aload_n 0, 53), (53, .iload_n 1, 54), (54, .invokevirtual 206, 57), (57, .istore_n 2, 58), (58, .aload_n 0, 59), (59, .dup, 60), (60, .getfield 83, 63), (63, .iconst 1, 64), (64, .iadd, 65), (65, .putfield 83, 68), (68, .aload_n 0, 69), (69, .invokevirtual 209, 72), (72, .iload_n 2, 73), (73, .ireturn, 74)]
def i_Mo_makeUnit : zkI := (yX8_makeUnit, cX8_makeUnit, 3, (some .int), 7, tb_Mo_makeUnit, [])
theorem ok_Mo_makeUnit : zkOk i_Mo_makeUnit := by unfold zkOk; decide +kernel
def tb_Mo_run : List (Nat × Instr × Nat) := [(0, .aload_n 0, 1), (1, .iconst 0, 2), (2, .putfield 66, 5), (5, .iload_n 1, 6), (6, .iconst 1, 7), (7, .bipush 100, 9), (9, .invokestatic 75, 12), (12, .ifCond .ne 9, 15), (15, .aload_n 0, 16), (16, .iconst 1, 17), (17, .invokevirtual 114, 20), (20, .ireturn, 21), (21, .aload_n 0, 22), (22, .getfield 83, 25), (25, .iload_n 1, 26), (26, .iadd, 27), (27, .sipush 400, 30), (30, .if_icmp .le 9, 33), (33, .aload_n 0, 34), (34, .iconst 2, 35), (35, .invokevirtual 114, 38), (38, .ireturn, 39), (39, .iconst 0, 40), (40, .istore_n 2, 41), (41, .iconst 0, 42), (42, .istore_n 3, 43), (43, .iload_n 3, 44), (44, .iload_n 1, 45), (45, .if_icmp .ge 16, 48), (48, .iload_n 2, 49), (49, .aload_n 0, 50), (50, .invokevirtual 212, 53), (53, .iadd, 54), (54, .istore_n 2, 55), (55, .iinc 3 1, 58), (58, .goto (-15), 61), (61, .iload_n 2, 62), (62, .ireturn, 63)]
def i_Mo_run : zkI := (yX8_run, cX8_run, 4, (some .int), 7, tb_Mo_run, [])
theorem ok_Mo_run : zkOk i_Mo_run := by unfold zkOk; decide +kernel
def tb_Mo_rewind : List (Nat × Instr × Nat) := [(0, .aload_n 0, 1), (1, .iconst 0, 2), (2, .putfield 66, 5), (5, .aload_n 0, 6), (6, .getfield 83, 9), (9, .istore_n 1, 10), (10, .aload_n 0, 11), (11, .invokevirtual 107, 14), (14, .iload_n 1, 15), (15, .ireturn, 16)]
def i_Mo_rewind : zkI := (yX8_rewind, cX8_rewind, 2, (some .int), 7, tb_Mo_rewind, [])
theorem ok_Mo_rewind : zkOk i_Mo_rewind := by unfold zkOk; decide +kernel
def tb_Mo_clock : List (Nat × Instr × Nat) := [(0, .aload_n 0, 1), (1, .iconst 0, 2), (2, .putfield 66, 5), (5, .aload_n 0, 6), (6, .getfield 83, 9), (9, .ireturn, 10)]
def i_Mo_clock : zkI := (yX8_clock, cX8_clock, 1, (some .int), 7, tb_Mo_clock, [])
theorem ok_Mo_clock : zkOk i_Mo_clock := by unfold zkOk; decide +kernel
def tb_Mo_ranAt : List (Nat × Instr × Nat) := [(0, .aload_n 0, 1), (1, .iconst 0, 2), (2, .putfield 66, 5), (5, .iload_n 1, 6), (6, .iconst 0, 7), (7, .aload_n 0, 8), (8, .getfield 83, 11), (11, .iconst 1, 12), (12, .isub, 13), (13, .invokestatic 75, 16), (16, .ifCond .eq 12, 19), (19, .aload_n 0, 20), (20, .getfield 22, 23), (23, .iload_n 1, 24), (24, .iaload, 25), (25, .goto 8, 28), (28, .aload_n 0, 29), (29, .iconst 1, 30), (30, .invokevirtual 114, 33), (33, .ireturn, 34)]
def i_Mo_ranAt : zkI := (yX8_ranAt, cX8_ranAt, 2, (some .int), 7, tb_Mo_ranAt, [])
theorem ok_Mo_ranAt : zkOk i_Mo_ranAt := by unfold zkOk; decide +kernel
def tb_Mo_pending : List (Nat × Instr × Nat) := [(0, .aload_n 0, 1), (1, .iconst 0, 2), (2, .putfield 66, 5), (5, .aload_n 0, 6), (6, .iload_n 1, 7), (7, .invokevirtual 121, 10), (10, .ifCond .eq 12, 13), (13, .aload_n 0, 14), (14, .getfield 28, 17), (17, .iload_n 1, 18), (18, .iaload, 19), (19, .goto 8, 22), (22, .aload_n 0, 23), (23, .iconst 1, 24), (24, .invokevirtual 114, 27), (27, .ireturn, 28)]
def i_Mo_pending : zkI := (yX8_pending, cX8_pending, 2, (some .int), 7, tb_Mo_pending, [])
theorem ok_Mo_pending : zkOk i_Mo_pending := by unfold zkOk; decide +kernel
def tb_Mo_activePriority : List (Nat × Instr × Nat) := [(0, .aload_n 0, 1), (1, .aload_n 0, 2), (2, .iload_n 1, 3), (3, .invokevirtual 121, 6), (6, .ifCond .ne 7, 9), (9, .iconst 1, 10), (10, .goto 17, 13), (13, .aload_n 0, 14), (14, .getfield 28, 17), (17, .iload_n 1, 18), (18, .iaload, 19), (19, .ifCond .ne 7, 22), (22, .iconst 2, 23), (23, .goto 4, 26), (26, .iconst 0, 27), (27, .putfield 66, 30), (30, .aload_n 0, 31), (31, .getfield 66, 34), (34, .ifCond .ne 11, 37), (37, .aload_n 0, 38), (38, .iload_n 1, 39), (39, .invokevirtual 180, 42), (42, .goto 4, 45), (45, .iconst 0, 46), (46, .ireturn, 47)]
def i_Mo_activePriority : zkI := (yX8_activePriority, cX8_activePriority, 2, (some .int), 7, tb_Mo_activePriority, [])
theorem ok_Mo_activePriority : zkOk i_Mo_activePriority := by unfold zkOk; decide +kernel
def tb_Mo_holder : List (Nat × Instr × Nat) := [(0, .aload_n 0, 1), (1, .iconst 0, 2), (2, .putfield 66, 5), (5, .iload_n 1, 6), (6, .iconst 0, 7), (7, .iconst 3, 8), (8, .invokestatic 75, 11), (11, .ifCond .ne 9, 14), (14, .aload_n 0, 15), (15, .iconst 1, 16), (16, .invokevirtual 114, 19), (19, .ireturn, 20), (20, .iconst (-1), 21), (21, .istore_n 2, 22), (22, .iconst 0, 23), (23, .istore_n 3, 24), (24, .iload_n 3, 25), (25, .aload_n 0, 26), (26, .getfield 72, 29), (29, .if_icmp .ge 24, 32), (32, .aload_n 0, 33), (33, .iload_n 3, 34), (34, .invokevirtual 171, 37), (37, .iload_n 1, 38), (38, .if_icmp .ne 7, 41), (41, .iload_n 3, 42), (42, .goto 4, 45), (45, .iload_n 2, 46), (46, .istore_n 2, 47), (47, .iinc 3 1, 50), (50, .goto (-26), 53), (53, .iload_n 2, 54), (54, .ireturn, 55)]
def i_Mo_holder : zkI := (yX8_holder, cX8_holder, 4, (some .int), 7, tb_Mo_holder, [])
theorem ok_Mo_holder : zkOk i_Mo_holder := by unfold zkOk; decide +kernel
def tb_Mo_result : List (Nat × Instr × Nat) := [(0, .aload_n 0, 1), (1, .aload_n 0, 2), (2, .iload_n 1, 3), (3, .invokevirtual 121, 6), (6, .ifCond .ne 7, 9), (9, .iconst 1, 10), (10, .goto 17, 13), (13, .iload_n 2, 14), (14, .iconst 0, 15), (15, .iconst 5, 16), (16, .invokestatic 75, 19), (19, .ifCond .ne 7, 22), (22, .iconst 2, 23), (23, .goto 4, 26), (26, .iconst 0, 27), (27, .putfield 66, 30), (30, .aload_n 0, 31), (31, .getfield 66, 34), (34, .ifCond .ne 17, 37), (37, .aload_n 0, 38), (38, .getfield 37, 41), (41, .bipush 6, 43), (43, .iload_n 1, 44), (44, .imul, 45), (45, .iload_n 2, 46), (46, .iadd, 47), (47, .iaload, 48), (48, .goto 4, 51), (51, .iconst 0, 52), (52, .ireturn, 53)]
def i_Mo_result : zkI := (yX8_result, cX8_result, 3, (some .int), 7, tb_Mo_result, [])
theorem ok_Mo_result : zkOk i_Mo_result := by unfold zkOk; decide +kernel
def tb_Mo_averageResponse : List (Nat × Instr × Nat) := [(0, .aload_n 0, 1), (1, .aload_n 0, 2), (2, .iload_n 1, 3), (3, .invokevirtual 121, 6), (6, .ifCond .ne 7, 9), (9, .iconst 1, 10), (10, .goto 20, 13), (13, .aload_n 0, 14), (14, .getfield 37, 17), (17, .bipush 6, 19), (19, .iload_n 1, 20), (20, .imul, 21), (21, .iaload, 22), (22, .ifCond .ne 7, 25), (25, .iconst 2, 26), (26, .goto 4, 29), (29, .iconst 0, 30), (30, .putfield 66, 33), (33, .aload_n 0, 34), (34, .getfield 66, 37), (37, .ifCond .ne 24, 40), (40, .aload_n 0, 41), (41, .getfield 40, 44), (44, .iload_n 1, 45), (45, .iaload, 46), (46, .i2f, 47), (47, .aload_n 0, 48), (48, .getfield 37, 51), (51, .bipush 6, 53), (53, .iload_n 1, 54), (54, .imul, 55), (55, .iaload, 56), (56, .i2f, 57), (57, .fdiv, 58), (58, .goto 4, 61), (61, .fconst 0, 62), (62, .freturn, 63)]
def i_Mo_averageResponse : zkI := (yX8_averageResponse, cX8_averageResponse, 2, (some .float), 7, tb_Mo_averageResponse, [])
theorem ok_Mo_averageResponse : zkOk i_Mo_averageResponse := by unfold zkOk; decide +kernel
def tb_Mo_balance : List (Nat × Instr × Nat) := [(0, .aload_n 0, 1), (1, .iconst 0, 2), (2, .putfield 66, 5), (5, .aload_n 0, 6), (6, .invokevirtual 124, 9), (9, .ifCond .eq 10, 12), (12, .aload_n 0, 13), (13, .getfield 89, 16), (16, .goto 8, 19), (19, .aload_n 0, 20), (20, .iconst 1, 21), (21, .invokevirtual 114, 24), (24, .ireturn, 25)]
def i_Mo_balance : zkI := (yX8_balance, cX8_balance, 1, (some .int), 7, tb_Mo_balance, [])
theorem ok_Mo_balance : zkOk i_Mo_balance := by unfold zkOk; decide +kernel
def tb_Mo_nextReplenishment : List (Nat × Instr × Nat) := [(0, .aload_n 0, 1), (1, .iconst 0, 2), (2, .putfield 66, 5), (5, .aload_n 0, 6), (6, .invokevirtual 124, 9), (9, .ifCond .ne 9, 12), (12, .aload_n 0, 13), (13, .iconst 1, 14), (14, .invokevirtual 114, 17), (17, .ireturn, 18), (18, .iconst (-1), 19), (19, .istore_n 1, 20), (20, .iconst 0, 21), (21, .istore_n 2, 22), (22, .iload_n 2, 23), (23, .aload_n 0, 24), (24, .getfield 98, 27), (27, .if_icmp .ge 38, 30), (30, .iload_n 1, 31), (31, .iconst (-1), 32), (32, .if_icmp .ne 14, 35), (35, .aload_n 0, 36), (36, .getfield 49, 39), (39, .iconst 2, 40), (40, .iload_n 2, 41), (41, .imul, 42), (42, .iaload, 43), (43, .goto 15, 46), (46, .iload_n 1, 47), (47, .aload_n 0, 48), (48, .getfield 49, 51), (51, .iconst 2, 52), (52, .iload_n 2, 53), (53, .imul, 54), (54, .iaload, 55), (55, .invokestatic 215, 58), (58, .istore_n 1, 59), (59, .iinc 2 1, 62), (62, .goto (-40), 65), (65, .iload_n 1, 66), (66, .iconst (-1), 67), (67, .if_icmp .ne 11, 70), (70, .aload_n 0, 71), (71, .iconst 2, 72), (72, .invokevirtual 114, 75), (75, .goto 4, 78), (78, .iload_n 1, 79), (79, .ireturn, 80)]
def i_Mo_nextReplenishment : zkI := (yX8_nextReplenishment, cX8_nextReplenishment, 3, (some .int), 7, tb_Mo_nextReplenishment, [])
theorem ok_Mo_nextReplenishment : zkOk i_Mo_nextReplenishment := by unfold zkOk; decide +kernel
def tb_Mo_requestResponse : List (Nat × Instr × Nat) := [(0, .aload_n 0, 1), (1, .iload_n 1, 2), (2, .iconst 0, 3), (3, .aload_n 0, 4), (4, .getfield 104, 7), (7, .iconst 1, 8), (8, .isub, 9), (9, .invokestatic 75, 12), (12, .ifCond .ne 7, 15), (15, .iconst 1, 16), (16, .goto 18, 19), (19, .aload_n 0, 20), (20, .getfield 46, 23), (23, .iload_n 1, 24), (24, .iaload, 25), (25, .iconst (-1), 26), (26, .if_icmp .ne 7, 29), (29, .iconst 2, 30), (30, .goto 4, 33), (33, .iconst 0, 34), (34, .putfield 66, 37), (37, .aload_n 0, 38), (38, .getfield 66, 41), (41, .ifCond .ne 21, 44), (44, .aload_n 0, 45), (45, .getfield 46, 48), (48, .iload_n 1, 49), (49, .iaload, 50), (50, .aload_n 0, 51), (51, .getfield 19, 54), (54, .iconst 2, 55), (55, .iload_n 1, 56), (56, .imul, 57), (57, .iaload, 58), (58, .isub, 59), (59, .goto 4, 62), (62, .iconst 0, 63), (63, .ireturn, 64)]
def i_Mo_requestResponse : zkI := (yX8_requestResponse, cX8_requestResponse, 2, (some .int), 7, tb_Mo_requestResponse, [])
theorem ok_Mo_requestResponse : zkOk i_Mo_requestResponse := by unfold zkOk; decide +kernel
def tb_Mo_utilization : List (Nat × Instr × Nat) := [(0, .aload_n 0, 1), (1, .iconst 0, 2), (2, .putfield 66, 5), (5, .iconst 0, 6), (6, .istore_n 1, 7), (7, .iconst 0, 8), (8, .istore_n 2, 9), (9, .iload_n 2, 10), (10, .aload_n 0, 11), (11, .getfield 83, 14), (14, .if_icmp .ge 27, 17), (17, .iload_n 1, 18), (18, .aload_n 0, 19), (19, .getfield 22, 22), (22, .iload_n 2, 23), (23, .iaload, 24), (24, .iconst (-1), 25), (25, .if_icmp .ne 7, 28), (28, .iconst 0, 29), (29, .goto 4, 32), (32, .iconst 1, 33), (33, .iadd, 34), (34, .istore_n 1, 35), (35, .iinc 2 1, 38), (38, .goto (-29), 41), (41, .aload_n 0, 42), (42, .getfield 83, 45), (45, .ifCond .ne 12, 48), (48, .aload_n 0, 49), (49, .iconst 1, 50), (50, .invokevirtual 114, 53), (53, .i2d, 54), (54, .goto 11, 57), (57, .iload_n 1, 58), (58, .i2d, 59), (59, .aload_n 0, 60), (60, .getfield 83, 63), (63, .i2d, 64), (64, .ddiv, 65), (65, .dreturn, 66)]
def i_Mo_utilization : zkI := (yX8_utilization, cX8_utilization, 3, (some .double), 7, tb_Mo_utilization, [])
theorem ok_Mo_utilization : zkOk i_Mo_utilization := by unfold zkOk; decide +kernel
def tb_Mo_append : List (Nat × Instr × Nat) := [(0, .aload_n 0, 1), (1, .iconst 0, 2), (2, .putfield 66, 5), (5, .iload_n 1, 6), (6, .bipush 32, 8), (8, .bipush 126, 10), (10, .invokestatic 75, 13), (13, .ifCond .ne 9, 16), (16, .aload_n 0, 17), (17, .iconst 1, 18), (18, .invokevirtual 114, 21), (21, .ireturn, 22), (22, .aload_n 0, 23), (23, .getfield 218, 26), (26, .bipush 60, 28), (28, .if_icmp .ne 9, 31), (31, .aload_n 0, 32), (32, .iconst 2, 33), (33, .invokevirtual 114, 36), (36, .ireturn, 37), (37, .aload_n 0, 38), (38, .getfield 52, 41), (41, .aload_n 0, 42), (42, .getfield 218, 45), (45, .iload_n 1, 46), (46, .castore, 47), (47, .aload_n 0, 48), (48, .dup, 49), (49, .getfield 218, 52), (52, .iconst 1, 53), (53, .iadd, 54), (54, .putfield 218, 57), (57, .aload_n 0, 58), (58, .getfield 218, 61), (61, .ireturn, 62)]
def i_Mo_append : zkI := (yX8_append, cX8_append, 2, (some .int), 7, tb_Mo_append, [])
theorem ok_Mo_append : zkOk i_Mo_append := by unfold zkOk; decide +kernel
def tb_Mo_sign : List (Nat × Instr × Nat) := [(0, .aload_n 0, 1), (1, .getfield 221, 4), (4, .aload_n 0, 5), (5, .getfield 224, 8), (8, .if_icmp .ge 15, 11), (11, .aload_n 0, 12), (12, .getfield 52, 15), (15, .aload_n 0, 16), (16, .getfield 221, 19), (19, .caload, 20), (20, .goto 4, 23), (23, .iconst (-1), 24), (24, .ireturn, 25)]
def i_Mo_sign : zkI := (yX8_sign, cX8_sign, 1, (some .int), 7, tb_Mo_sign, [])
theorem ok_Mo_sign : zkOk i_Mo_sign := by unfold zkOk; decide +kernel
def tb_Mo_take : List (Nat × Instr × Nat) := [(0, .aload_n 0, 1), (1, .getfield 227, 4), (4, .iconst (-1), 5), (5, .if_icmp .ne 24, 8), (8, .aload_n 0, 9), (9, .invokevirtual 230, 12), (12, .iload_n 1, 13), (13, .if_icmp .ne 16, 16), (16, .aload_n 0, 17), (17, .dup, 18), (18, .getfield 221, 21), (21, .iconst 1, 22), (22, .iadd, 23), (23, .putfield 221, 26), (26, .goto 26, 29), (29, .aload_n 0, 30), (30, .aload_n 0, 31), (31, .getfield 227, 34), (34, .iconst (-1), 35), (35, .if_icmp .ne 10, 38), (38, .aload_n 0, 39), (39, .getfield 221, 42), (42, .goto 7, 45), (45, .aload_n 0, 46), (46, .getfield 227, 49), (49, .putfield 227, 52), (52, .return_, 53)]
def i_Mo_take : zkI := (yX8_take, cX8_take, 2, none, 7, tb_Mo_take, [])
theorem ok_Mo_take : zkOk i_Mo_take := by unfold zkOk; decide +kernel
def tb_Mo_takeAll : List (Nat × Instr × Nat) := [(0, .aload_n 0, 1), (1, .iload_n 1, 2), (2, .invokevirtual 233, 5), (5, .aload_n 0, 6), (6, .iload_n 2, 7), (7, .invokevirtual 233, 10), (10, .aload_n 0, 11), (11, .iload_n 3, 12), (12, .invokevirtual 233, 15), (15, .aload_n 0, 16), (16, .iload 4, 18), (18, .invokevirtual 233, 21), (21, .aload_n 0, 22), (22, .iload 5, 24), (24, .invokevirtual 233, 27), (27, .aload_n 0, 28), (28, .iload 6, 30), (30, .invokevirtual 233, 33), (33, .aload_n 0, 34), (34, .iload 7, 36), (36, .invokevirtual 233, 39), (39, .return_, 40)]
def i_Mo_takeAll : zkI := (yX8_takeAll, cX8_takeAll, 8, none, 7, tb_Mo_takeAll, [])
theorem ok_Mo_takeAll : zkOk i_Mo_takeAll := by unfold zkOk; decide +kernel
def tb_Mo_number : List (Nat × Instr × Nat) := [(0, .aload_n 0, 1), (1, .bipush 32, 3), (3, .invokevirtual 233, 6), (6, .iconst 0, 7), (7, .istore_n 1, 8), (8, .iconst 0, 9), (9, .istore_n 2, 10), (10, .aload_n 0, 11), (11, .getfield 227, 14), (14, .iconst (-1), 15), (15, .if_icmp .ne 59, 18), (18, .iload_n 2, 19), (19, .iconst 3, 20), (20, .if_icmp .ge 54, 23), (23, .aload_n 0, 24), (24, .invokevirtual 230, 27), (27, .bipush 48, 29), (29, .bipush 57, 31), (31, .invokestatic 75, 34), (34, .ifCond .eq 40, 37), (37, .iload_n 2, 38), (38, .ifCond .eq 7, 41), (41, .iload_n 1, 42), (42, .ifCond .le 32, 45), (45, .bipush 10, 47), (47, .iload_n 1, 48), (48, .imul, 49), (49, .aload_n 0, 50), (50, .invokevirtual 230, 53), (53, .iadd, 54), (54, .bipush 48, 56), (56, .isub, 57), (57, .istore_n 1, 58), (58, .iinc 2 1, 61), (61, .aload_n 0, 62), (62, .dup, 63), (63, .getfield 221, 66), (66, .iconst 1, 67), (67, .iadd, 68), (68, .putfield 221, 71), (71, .goto (-61), 74), (74, .aload_n 0, 75), (75, .aload_n 0, 76), (76, .getfield 227, 79), (79, .iconst (-1), 80), (80, .if_icmp .ne 14, 83), (83, .iload_n 2, 84), (84, .ifCond .ne 10, 87), (87, .aload_n 0, 88), (88, .getfield 221, 91), (91, .goto 7, 94), (94, .aload_n 0, 95), (95, .getfield 227, 98), (98, .putfield 227, 101), (101, .iload_n 1, 102), (102, .ireturn, 103)]
def i_Mo_number : zkI := (yX8_number, cX8_number, 3, (some .int), 7, tb_Mo_number, [])
theorem ok_Mo_number : zkOk i_Mo_number := by unfold zkOk; decide +kernel
def tb_Mo_resource : List (Nat × Instr × Nat) := [(0, .aload_n 0, 1), (1, .getfield 221, 4), (4, .iconst 1, 5), (5, .iadd, 6), (6, .aload_n 0, 7), (7, .getfield 224, 10), (10, .if_icmp .ge 37, 13), (13, .aload_n 0, 14), (14, .getfield 52, 17), (17, .aload_n 0, 18), (18, .getfield 221, 21), (21, .caload, 22), (22, .bipush 32, 24), (24, .if_icmp .ne 23, 27), (27, .aload_n 0, 28), (28, .getfield 52, 31), (31, .aload_n 0, 32), (32, .getfield 221, 35), (35, .iconst 1, 36), (36, .iadd, 37), (37, .caload, 38), (38, .bipush 110, 40), (40, .if_icmp .ne 7, 43), (43, .iconst 1, 44), (44, .goto 4, 47), (47, .iconst 0, 48), (48, .istore_n 1, 49), (49, .iload_n 1, 50), (50, .ifCond .ne 8, 53), (53, .aload_n 0, 54), (54, .invokevirtual 237, 57), (57, .ireturn, 58), (58, .aload_n 0, 59), (59, .bipush 32, 61), (61, .invokevirtual 233, 64), (64, .aload_n 0, 65), (65, .bipush 110, 67), (67, .invokevirtual 233, 70), (70, .aload_n 0, 71), (71, .bipush 111, 73), (73, .invokevirtual 233, 76), (76, .aload_n 0, 77), (77, .bipush 110, 79), (79, .invokevirtual 233, 82), (82, .aload_n 0, 83), (83, .bipush 101, 85), (85, .invokevirtual 233, 88), (88, .iconst (-1), 89), (89, .ireturn, 90)]
def i_Mo_resource : zkI := (yX8_resource, cX8_resource, 2, (some .int), 7, tb_Mo_resource, [])
theorem ok_Mo_resource : zkOk i_Mo_resource := by unfold zkOk; decide +kernel
def tb_Mo_policyName : List (Nat × Instr × Nat) := [(0, .aload_n 0, 1), (1, .bipush 32, 3), (3, .invokevirtual 233, 6), (6, .aload_n 0, 7), (7, .getfield 227, 10), (10, .iconst (-1), 11), (11, .if_icmp .ne 10, 14), (14, .aload_n 0, 15), (15, .invokevirtual 230, 18), (18, .goto 4, 21), (21, .iconst (-1), 22), (22, .istore_n 1, 23), (23, .iload_n 1, 24), (24, .bipush 99, 26), (26, .if_icmp .ne 29, 29), (29, .aload_n 0, 30), (30, .bipush 99, 32), (32, .bipush 111, 34), (34, .bipush 110, 36), (36, .bipush 116, 38), (38, .bipush 105, 40), (40, .bipush 110, 42), (42, .bipush 117, 44), (44, .invokevirtual 240, 47), (47, .aload_n 0, 48), (48, .bipush 101, 50), (50, .invokevirtual 233, 53), (53, .iconst 0, 54), (54, .ireturn, 55), (55, .iload_n 1, 56), (56, .bipush 97, 58), (58, .if_icmp .ne 35, 61), (61, .aload_n 0, 62), (62, .bipush 97, 64), (64, .invokevirtual 233, 67), (67, .aload_n 0, 68), (68, .bipush 98, 70), (70, .invokevirtual 233, 73), (73, .aload_n 0, 74), (74, .bipush 111, 76), (76, .invokevirtual 233, 79), (79, .aload_n 0, 80), (80, .bipush 114, 82), (82, .invokevirtual 233, 85), (85, .aload_n 0, 86), (86, .bipush 116, 88), (88, .invokevirtual 233, 91), (91, .iconst 1, 92), (92, .ireturn, 93), (93, .aload_n 0, 94), (94, .bipush 115, 96), (96, .invokevirtual 233, 99), (99, .aload_n 0, 100), (100, .bipush 107, 102), (102, .invokevirtual 233, 105), (105, .aload_n 0, 106), (106, .bipush 105, 108), (108, .invokevirtual 233, 111), (111, .aload_n 0, 112), (112, .bipush 112, 114), (114, .invokevirtual 233, 117), (117, .iconst 2, 118), (118, .ireturn, 119)]
def i_Mo_policyName : zkI := (yX8_policyName, cX8_policyName, 2, (some .int), 7, tb_Mo_policyName, [])
theorem ok_Mo_policyName : zkOk i_Mo_policyName := by unfold zkOk; decide +kernel
def tb_Mo_readNumbers : List (Nat × Instr × Nat) := [(0, .iconst 0, 1), (1, .istore_n 2, 2), (2, .iload_n 2, 3), (3, .iload_n 1, 4), (4, .if_icmp .ge 19, 7), (7, .aload_n 0, 8), (8, .getfield 60, 11), (11, .iload_n 2, 12), (12, .aload_n 0, 13), (13, .invokevirtual 237, 16), (16, .iastore, 17), (17, .iinc 2 1, 20), (20, .goto (-18), 23), (23, .return_, 24)]
def i_Mo_readNumbers : zkI := (yX8_readNumbers, cX8_readNumbers, 3, none, 7, tb_Mo_readNumbers, [])
theorem ok_Mo_readNumbers : zkOk i_Mo_readNumbers := by unfold zkOk; decide +kernel
def tb_Mo_readCommand : List (Nat × Instr × Nat) := [(0, .aload_n 0, 1), (1, .invokevirtual 230, 4), (4, .istore_n 1, 5), (5, .iload_n 1, 6), (6, .bipush 116, 8), (8, .if_icmp .ne 34, 11), (11, .aload_n 0, 12), (12, .bipush 116, 14), (14, .invokevirtual 233, 17), (17, .aload_n 0, 18), (18, .bipush 97, 20), (20, .invokevirtual 233, 23), (23, .aload_n 0, 24), (24, .bipush 115, 26), (26, .invokevirtual 233, 29), (29, .aload_n 0, 30), (30, .bipush 107, 32), (32, .invokevirtual 233, 35), (35, .aload_n 0, 36), (36, .iconst 4, 37), (37, .invokevirtual 244, 40), (40, .iconst 0, 41), (41, .ireturn, 42), (42, .iload_n 1, 43), (43, .bipush 114, 45), (45, .if_icmp .ne 28, 48), (48, .aload_n 0, 49), (49, .bipush 114, 51), (51, .bipush 101, 53), (53, .bipush 113, 55), (55, .bipush 117, 57), (57, .bipush 101, 59), (59, .bipush 115, 61), (61, .bipush 116, 63), (63, .invokevirtual 240, 66), (66, .aload_n 0, 67), (67, .iconst 2, 68), (68, .invokevirtual 244, 71), (71, .iconst 2, 72), (72, .ireturn, 73), (73, .iload_n 1, 74), (74, .bipush 112, 76), (76, .if_icmp .ne 51, 79), (79, .aload_n 0, 80), (80, .bipush 112, 82), (82, .invokevirtual 233, 85), (85, .aload_n 0, 86), (86, .bipush 111, 88), (88, .invokevirtual 233, 91), (91, .aload_n 0, 92), (92, .bipush 108, 94), (94, .invokevirtual 233, 97), (97, .aload_n 0, 98), (98, .bipush 105, 100), (100, .invokevirtual 233, 103), (103, .aload_n 0, 104), (104, .bipush 99, 106), (106, .invokevirtual 233, 109), (109, .aload_n 0, 110), (110, .bipush 121, 112), (112, .invokevirtual 233, 115), (115, .aload_n 0, 116), (116, .getfield 60, 119), (119, .iconst 0, 120), (120, .aload_n 0, 121), (121, .invokevirtual 247, 124), (124, .iastore, 125), (125, .iconst 4, 126), (126, .ireturn, 127), (127, .aload_n 0, 128), (128, .bipush 115, 130), (130, .invokevirtual 233, 133), (133, .aload_n 0, 134), (134, .bipush 101, 136), (136, .invokevirtual 233, 139), (139, .aload_n 0, 140), (140, .getfield 227, 143), (143, .iconst (-1), 144), (144, .if_icmp .ne 74, 147), (147, .aload_n 0, 148), (148, .invokevirtual 230, 151), (151, .bipush 103, 153), (153, .if_icmp .ne 65, 156), (156, .aload_n 0, 157), (157, .bipush 103, 159), (159, .invokevirtual 233, 162), (162, .aload_n 0, 163), (163, .bipush 109, 165), (165, .invokevirtual 233, 168), (168, .aload_n 0, 169), (169, .bipush 101, 171), (171, .invokevirtual 233, 174), (174, .aload_n 0, 175), (175, .bipush 110, 177), (177, .invokevirtual 233, 180), (180, .aload_n 0, 181), (181, .bipush 116, 183), (183, .invokevirtual 233, 186), (186, .aload_n 0, 187), (187, .getfield 60, 190), (190, .iconst 0, 191), (191, .aload_n 0, 192), (192, .invokevirtual 237, 195), (195, .iastore, 196), (196, .aload_n 0, 197), (197, .getfield 60, 200), (200, .iconst 1, 201), (201, .aload_n 0, 202), (202, .invokevirtual 250, 205), (205, .iastore, 206), (206, .aload_n 0, 207), (207, .getfield 60, 210), (210, .iconst 2, 211), (211, .aload_n 0, 212), (212, .invokevirtual 237, 215), (215, .iastore, 216), (216, .iconst 3, 217), (217, .ireturn, 218), (218, .aload_n 0, 219), (219, .bipush 114, 221), (221, .invokevirtual 233, 224), (224, .aload_n 0, 225), (225, .bipush 118, 227), (227, .invokevirtual 233, 230), (230, .aload_n 0, 231), (231, .bipush 101, 233), (233, .invokevirtual 233, 236), (236, .aload_n 0, 237), (237, .bipush 114, 239), (239, .invokevirtual 233, 242), (242, .aload_n 0, 243), (243, .iconst 3, 244), (244, .invokevirtual 244, 247), (247, .iconst 1, 248), (248, .ireturn, 249)]
def i_Mo_readCommand : zkI := (yX8_readCommand, cX8_readCommand, 2, (some .int), 7, tb_Mo_readCommand, [])
theorem ok_Mo_readCommand : zkOk i_Mo_readCommand := by unfold zkOk; decide +kernel
def tb_Mo_doCommand : List (Nat × Instr × Nat) := [(0, .aload_n 0, 1), (1, .getfield 60, 4), (4, .iconst 0, 5), (5, .iaload, 6), (6, .istore_n 2, 7), (7, .aload_n 0, 8), (8, .getfield 60, 11), (11, .iconst 1, 12), (12, .iaload, 13), (13, .istore_n 3, 14), (14, .aload_n 0, 15), (15, .getfield 60, 18), (18, .iconst 2, 19), (19, .iaload, 20), (20, .istore 4, 22), (22, .iload_n 1, 23), (23, .tableswitch 77 0 3 #[29, 44, 61, 68], 52), (52, .aload_n 0, 53), (53, .iload_n 2, 54), (54, .iload_n 3, 55), (55, .iload 4, 57), (57, .aload_n 0, 58), (58, .getfield 60, 61), (61, .iconst 3, 62), (62, .iaload, 63), (63, .invokevirtual 253, 66), (66, .ireturn, 67), (67, .aload_n 0, 68), (68, .iload_n 2, 69), (69, .iload_n 3, 70), (70, .iload 4, 72), (72, .invokevirtual 257, 75), (75, .ifCond .eq 7, 78), (78, .iconst 1, 79), (79, .goto 4, 82), (82, .iconst 0, 83), (83, .ireturn, 84), (84, .aload_n 0, 85), (85, .iload_n 2, 86), (86, .iload_n 3, 87), (87, .invokevirtual 260, 90), (90, .ireturn, 91), (91, .aload_n 0, 92), (92, .iload_n 2, 93), (93, .iload_n 3, 94), (94, .iload 4, 96), (96, .invokevirtual 263, 99), (99, .ireturn, 100), (100, .aload_n 0, 101), (101, .iload_n 2, 102), (102, .invokevirtual 267, 105), (105, .ireturn, 106)]
def i_Mo_doCommand : zkI := (yX8_doCommand, cX8_doCommand, 5, (some .int), 7, tb_Mo_doCommand, [])
theorem ok_Mo_doCommand : zkOk i_Mo_doCommand := by unfold zkOk; decide +kernel
def tb_Mo_configure : List (Nat × Instr × Nat) := [(0, .aload_n 0, 1), (1, .iconst 0, 2), (2, .putfield 66, 5), (5, .aload_n 0, 6), (6, .aload_n 0, 7), (7, .getfield 218, 10), (10, .putfield 224, 13), (13, .aload_n 0, 14), (14, .iconst 0, 15), (15, .putfield 218, 18), (18, .aload_n 0, 19), (19, .iconst 0, 20), (20, .putfield 221, 23), (23, .aload_n 0, 24), (24, .iconst (-1), 25), (25, .putfield 227, 28), (28, .aload_n 0, 29), (29, .invokevirtual 270, 32), (32, .istore_n 1, 33), (33, .aload_n 0, 34), (34, .aload_n 0, 35), (35, .getfield 227, 38), (38, .iconst (-1), 39), (39, .if_icmp .ne 21, 42), (42, .aload_n 0, 43), (43, .getfield 221, 46), (46, .aload_n 0, 47), (47, .getfield 224, 50), (50, .if_icmp .ge 10, 53), (53, .aload_n 0, 54), (54, .getfield 221, 57), (57, .goto 7, 60), (60, .aload_n 0, 61), (61, .getfield 227, 64), (64, .putfield 227, 67), (67, .aload_n 0, 68), (68, .getfield 227, 71), (71, .iconst (-1), 72), (72, .if_icmp .eq 17, 75), (75, .aload_n 0, 76), (76, .aload_n 0, 77), (77, .getfield 227, 80), (80, .putfield 56, 83), (83, .aload_n 0, 84), (84, .iconst 1, 85), (85, .invokevirtual 114, 88), (88, .ireturn, 89), (89, .aload_n 0, 90), (90, .iload_n 1, 91), (91, .invokevirtual 273, 94), (94, .istore_n 2, 95), (95, .aload_n 0, 96), (96, .getfield 66, 99), (99, .ifCond .ne 7, 102), (102, .iload_n 2, 103), (103, .goto 8, 106), (106, .aload_n 0, 107), (107, .iconst 2, 108), (108, .invokevirtual 114, 111), (111, .ireturn, 112)]
def i_Mo_configure : zkI := (yX8_configure, cX8_configure, 3, (some .int), 7, tb_Mo_configure, [])
theorem ok_Mo_configure : zkOk i_Mo_configure := by unfold zkOk; decide +kernel
def tb_Mo_errorPosition : List (Nat × Instr × Nat) := [(0, .aload_n 0, 1), (1, .iconst 0, 2), (2, .putfield 66, 5), (5, .aload_n 0, 6), (6, .getfield 56, 9), (9, .iconst (-1), 10), (10, .if_icmp .ne 11, 13), (13, .aload_n 0, 14), (14, .iconst 1, 15), (15, .invokevirtual 114, 18), (18, .goto 7, 21), (21, .aload_n 0, 22), (22, .getfield 56, 25), (25, .ireturn, 26)]
def i_Mo_errorPosition : zkI := (yX8_errorPosition, cX8_errorPosition, 1, (some .int), 7, tb_Mo_errorPosition, [])
theorem ok_Mo_errorPosition : zkOk i_Mo_errorPosition := by unfold zkOk; decide +kernel
def tb_Mo_pass : List (Nat × Instr × Nat) := [(0, .aload_n 0, 1), (1, .getfield 276, 4), (4, .ifCond .ne 13, 7), (7, .aload_n 0, 8), (8, .getfield 63, 11), (11, .aload_n 0, 12), (12, .getfield 280, 15), (15, .iload_n 1, 16), (16, .iastore, 17), (17, .aload_n 0, 18), (18, .dup, 19), (19, .getfield 280, 22), (22, .iconst 1, 23), (23, .iadd, 24), (24, .putfield 280, 27), (27, .aload_n 0, 28), (28, .getfield 63, 31), (31, .aload_n 0, 32), (32, .getfield 280, 35), (35, .iconst 1, 36), (36, .isub, 37), (37, .iaload, 38), (38, .ireturn, 39)]
def i_Mo_pass : zkI := (yX8_pass, cX8_pass, 2, (some .int), 7, tb_Mo_pass, [])
theorem ok_Mo_pass : zkOk i_Mo_pass := by unfold zkOk; decide +kernel
def tb_Mo_passRow : List (Nat × Instr × Nat) := [(0, .iconst 0, 1), (1, .istore_n 2, 2), (2, .iload_n 2, 3), (3, .aload_n 1, 4), (4, .arraylength, 5), (5, .if_icmp .ge 19, 8), (8, .aload_n 1, 9), (9, .iload_n 2, 10), (10, .aload_n 0, 11), (11, .aload_n 1, 12), (12, .iload_n 2, 13), (13, .iaload, 14), (14, .invokevirtual 283, 17), (17, .iastore, 18), (18, .iinc 2 1, 21), (21, .goto (-19), 24), (24, .return_, 25)]
def i_Mo_passRow : zkI := (yX8_passRow, cX8_passRow, 3, none, 7, tb_Mo_passRow, [])
theorem ok_Mo_passRow : zkOk i_Mo_passRow := by unfold zkOk; decide +kernel
def tb_Mo_passAll : List (Nat × Instr × Nat) := [(0, .aload_n 0, 1), (1, .iload_n 1, 2), (2, .putfield 276, 5), (5, .aload_n 0, 6), (6, .iconst 0, 7), (7, .putfield 280, 10), (10, .aload_n 0, 11), (11, .aload_n 0, 12), (12, .aload_n 0, 13), (13, .getfield 101, 16), (16, .invokevirtual 283, 19), (19, .putfield 101, 22), (22, .aload_n 0, 23), (23, .aload_n 0, 24), (24, .aload_n 0, 25), (25, .getfield 72, 28), (28, .invokevirtual 283, 31), (31, .putfield 72, 34), (34, .aload_n 0, 35), (35, .aload_n 0, 36), (36, .aload_n 0, 37), (37, .getfield 69, 40), (40, .invokevirtual 283, 43), (43, .putfield 69, 46), (46, .aload_n 0, 47), (47, .aload_n 0, 48), (48, .aload_n 0, 49), (49, .getfield 86, 52), (52, .invokevirtual 283, 55), (55, .putfield 86, 58), (58, .aload_n 0, 59), (59, .aload_n 0, 60), (60, .aload_n 0, 61), (61, .getfield 128, 64), (64, .invokevirtual 283, 67), (67, .putfield 128, 70), (70, .aload_n 0, 71), (71, .aload_n 0, 72), (72, .aload_n 0, 73), (73, .getfield 104, 76), (76, .invokevirtual 283, 79), (79, .putfield 104, 82), (82, .aload_n 0, 83), (83, .aload_n 0, 84), (84, .aload_n 0, 85), (85, .getfield 83, 88), (88, .invokevirtual 283, 91), (91, .putfield 83, 94), (94, .aload_n 0, 95), (95, .aload_n 0, 96), (96, .aload_n 0, 97), (97, .getfield 89, 100), (100, .invokevirtual 283, 103), (103, .putfield 89, 106), (106, .aload_n 0, 107), (107, .aload_n 0, 108), (108, .aload_n 0, 109), (109, .getfield 92, 112), (112, .invokevirtual 283, 115), (115, .putfield 92, 118), (118, .aload_n 0, 119), (119, .aload_n 0, 120), (120, .aload_n 0, 121), (121, .getfield 183, 124), (124, .invokevirtual 283, 127), (127, .putfield 183, 130), (130, .aload_n 0, 131), (131, .aload_n 0, 132), (132, .aload_n 0, 133), (133, .getfield 95, 136), (136, .invokevirtual 283, 139), (139, .putfield 95, 142), (142, .aload_n 0, 143), (143, .aload_n 0, 144), (144, .aload_n 0, 145), (145, .getfield 98, 148), (148, .invokevirtual 283, 151), (151, .putfield 98, 154), (154, .aload_n 0, 155), (155, .aload_n 0, 156), (156, .getfield 7, 159), (159, .invokevirtual 286, 162), (162, .aload_n 0, 163), (163, .aload_n 0, 164), (164, .getfield 13, 167), (167, .invokevirtual 286, 170), (170, .aload_n 0, 171), (171, .aload_n 0, 172), (172, .getfield 16, 175), (175, .invokevirtual 286, 178), (178, .aload_n 0, 179), (179, .aload_n 0, 180), (180, .getfield 19, 183), (183, .invokevirtual 286, 186), (186, .aload_n 0, 187), (187, .aload_n 0, 188), (188, .getfield 22, 191), (191, .invokevirtual 286, 194), (194, .aload_n 0, 195), (195, .aload_n 0, 196), (196, .getfield 25, 199), (199, .invokevirtual 286, 202), (202, .aload_n 0, 203), (203, .aload_n 0, 204), (204, .getfield 28, 207), (207, .invokevirtual 286, 210), (210, .aload_n 0, 211), (211, .aload_n 0, 212), (212, .getfield 31, 215), (215, .invokevirtual 286, 218), (218, .aload_n 0, 219), (219, .aload_n 0, 220), (220, .getfield 34, 223), (223, .invokevirtual 286, 226), (226, .aload_n 0, 227), (227, .aload_n 0, 228), (228, .getfield 37, 231), (231, .invokevirtual 286, 234), (234, .aload_n 0, 235), (235, .aload_n 0, 236), (236, .getfield 40, 239), (239, .invokevirtual 286, 242), (242, .aload_n 0, 243), (243, .aload_n 0, 244), (244, .getfield 43, 247), (247, .invokevirtual 286, 250), (250, .aload_n 0, 251), (251, .aload_n 0, 252), (252, .getfield 46, 255), (255, .invokevirtual 286, 258), (258, .aload_n 0, 259), (259, .aload_n 0, 260), (260, .getfield 49, 263), (263, .invokevirtual 286, 266), (266, .return_, 267)]
def i_Mo_passAll : zkI := (yX8_passAll, cX8_passAll, 2, none, 7, tb_Mo_passAll, [])
theorem ok_Mo_passAll : zkOk i_Mo_passAll := by unfold zkOk; decide +kernel
def tb_Mo_snapshot : List (Nat × Instr × Nat) := [(0, .aload_n 0, 1), (1, .iconst 0, 2), (2, .putfield 66, 5), (5, .aload_n 0, 6), (6, .iconst 1, 7), (7, .putfield 290, 10), (10, .aload_n 0, 11), (11, .iconst 0, 12), (12, .invokevirtual 293, 15), (15, .aload_n 0, 16), (16, .getfield 83, 19), (19, .ireturn, 20)]
def i_Mo_snapshot : zkI := (yX8_snapshot, cX8_snapshot, 1, (some .int), 7, tb_Mo_snapshot, [])
theorem ok_Mo_snapshot : zkOk i_Mo_snapshot := by unfold zkOk; decide +kernel
def tb_Mo_restore : List (Nat × Instr × Nat) := [(0, .aload_n 0, 1), (1, .iconst 0, 2), (2, .putfield 66, 5), (5, .aload_n 0, 6), (6, .getfield 290, 9), (9, .ifCond .ne 9, 12), (12, .aload_n 0, 13), (13, .iconst 1, 14), (14, .invokevirtual 114, 17), (17, .ireturn, 18), (18, .aload_n 0, 19), (19, .iconst 1, 20), (20, .invokevirtual 293, 23), (23, .aload_n 0, 24), (24, .getfield 83, 27), (27, .ireturn, 28)]
def i_Mo_restore : zkI := (yX8_restore, cX8_restore, 1, (some .int), 7, tb_Mo_restore, [])
theorem ok_Mo_restore : zkOk i_Mo_restore := by unfold zkOk; decide +kernel
def tb_La_addTask : List (Nat × Instr × Nat) := [(0, .aload 5, 2), (2, .iconst 0, 3), (3, .aload_n 0, 4), (4, .iload_n 1, 5), (5, .iload_n 2, 6), (6, .iload_n 3, 7), (7, .iload 4, 9), (9, .invokevirtual 7, 12), (12, .i2l, 13), (13, .lastore, 14), (14, .goto 15, 17), (17, .astore 6, 19), (19, .iconst 1, 20), (20, .ireturn, 21), (21, .astore 6, 23), (23, .iconst 2, 24), (24, .ireturn, 25), (25, .astore 6, 27), (27, .iconst 3, 28), (28, .ireturn, 29), (29, .iconst 0, 30), (30, .ireturn, 31)]
def i_La_addTask : zkI := (yL_addTask, cL_addTask, 7, (some .int), 9, tb_La_addTask, [(0, 14, 17, 13), (0, 14, 21, 15), (0, 14, 25, 17)])
theorem ok_La_addTask : zkOk i_La_addTask := by unfold zkOk; decide +kernel
def tb_La_addSegment : List (Nat × Instr × Nat) := [(0, .aload 4, 2), (2, .iconst 0, 3), (3, .aload_n 0, 4), (4, .iload_n 1, 5), (5, .iload_n 2, 6), (6, .iload_n 3, 7), (7, .invokevirtual 19, 10), (10, .i2l, 11), (11, .lastore, 12), (12, .goto 15, 15), (15, .astore 5, 17), (17, .iconst 1, 18), (18, .ireturn, 19), (19, .astore 5, 21), (21, .iconst 2, 22), (22, .ireturn, 23), (23, .astore 5, 25), (25, .iconst 3, 26), (26, .ireturn, 27), (27, .iconst 0, 28), (28, .ireturn, 29)]
def i_La_addSegment : zkI := (yL_addSegment, cL_addSegment, 6, (some .int), 9, tb_La_addSegment, [(0, 12, 15, 23), (0, 12, 19, 13), (0, 12, 23, 15)])
theorem ok_La_addSegment : zkOk i_La_addSegment := by unfold zkOk; decide +kernel
def tb_La_setServer : List (Nat × Instr × Nat) := [(0, .aload 4, 2), (2, .iconst 0, 3), (3, .aload_n 0, 4), (4, .iload_n 1, 5), (5, .iload_n 2, 6), (6, .iload_n 3, 7), (7, .invokevirtual 25, 10), (10, .ifCond .eq 7, 13), (13, .lconst 1, 14), (14, .goto 4, 17), (17, .lconst 0, 18), (18, .lastore, 19), (19, .goto 15, 22), (22, .astore 5, 24), (24, .iconst 1, 25), (25, .ireturn, 26), (26, .astore 5, 28), (28, .iconst 2, 29), (29, .ireturn, 30), (30, .astore 5, 32), (32, .iconst 3, 33), (33, .ireturn, 34), (34, .iconst 0, 35), (35, .ireturn, 36)]
def i_La_setServer : zkI := (yL_setServer, cL_setServer, 6, (some .int), 9, tb_La_setServer, [(0, 19, 22, 13), (0, 19, 26, 15), (0, 19, 30, 17)])
theorem ok_La_setServer : zkOk i_La_setServer := by unfold zkOk; decide +kernel
def tb_La_request : List (Nat × Instr × Nat) := [(0, .aload_n 3, 1), (1, .iconst 0, 2), (2, .aload_n 0, 3), (3, .iload_n 1, 4), (4, .iload_n 2, 5), (5, .invokevirtual 29, 8), (8, .i2l, 9), (9, .lastore, 10), (10, .goto 11, 13), (13, .astore 4, 15), (15, .iconst 1, 16), (16, .ireturn, 17), (17, .astore 4, 19), (19, .iconst 2, 20), (20, .ireturn, 21), (21, .iconst 0, 22), (22, .ireturn, 23)]
def i_La_request : zkI := (yL_request, cL_request, 5, (some .int), 9, tb_La_request, [(0, 10, 13, 13), (0, 10, 17, 15)])
theorem ok_La_request : zkOk i_La_request := by unfold zkOk; decide +kernel
def tb_La_setPolicy : List (Nat × Instr × Nat) := [(0, .aload_n 2, 1), (1, .iconst 0, 2), (2, .aload_n 0, 3), (3, .iload_n 1, 4), (4, .invokevirtual 33, 7), (7, .i2l, 8), (8, .lastore, 9), (9, .goto 6, 12), (12, .astore_n 3, 13), (13, .iconst 1, 14), (14, .ireturn, 15), (15, .iconst 0, 16), (16, .ireturn, 17)]
def i_La_setPolicy : zkI := (yL_setPolicy, cL_setPolicy, 4, (some .int), 9, tb_La_setPolicy, [(0, 9, 12, 13)])
theorem ok_La_setPolicy : zkOk i_La_setPolicy := by unfold zkOk; decide +kernel
def tb_La_append : List (Nat × Instr × Nat) := [(0, .aload_n 2, 1), (1, .iconst 0, 2), (2, .aload_n 0, 3), (3, .iload_n 1, 4), (4, .invokevirtual 37, 7), (7, .i2l, 8), (8, .lastore, 9), (9, .goto 9, 12), (12, .astore_n 3, 13), (13, .iconst 1, 14), (14, .ireturn, 15), (15, .astore_n 3, 16), (16, .iconst 2, 17), (17, .ireturn, 18), (18, .iconst 0, 19), (19, .ireturn, 20)]
def i_La_append : zkI := (yL_append, cL_append, 4, (some .int), 9, tb_La_append, [(0, 9, 12, 13), (0, 9, 15, 15)])
theorem ok_La_append : zkOk i_La_append := by unfold zkOk; decide +kernel
def tb_La_configure : List (Nat × Instr × Nat) := [(0, .aload_n 1, 1), (1, .iconst 0, 2), (2, .aload_n 0, 3), (3, .invokevirtual 41, 6), (6, .i2l, 7), (7, .lastore, 8), (8, .goto 9, 11), (11, .astore_n 2, 12), (12, .iconst 1, 13), (13, .ireturn, 14), (14, .astore_n 2, 15), (15, .iconst 2, 16), (16, .ireturn, 17), (17, .iconst 0, 18), (18, .ireturn, 19)]
def i_La_configure : zkI := (yL_configure, cL_configure, 3, (some .int), 9, tb_La_configure, [(0, 8, 11, 13), (0, 8, 14, 15)])
theorem ok_La_configure : zkOk i_La_configure := by unfold zkOk; decide +kernel
def tb_La_errorPosition : List (Nat × Instr × Nat) := [(0, .aload_n 1, 1), (1, .iconst 0, 2), (2, .aload_n 0, 3), (3, .invokevirtual 45, 6), (6, .i2l, 7), (7, .lastore, 8), (8, .goto 6, 11), (11, .astore_n 2, 12), (12, .iconst 1, 13), (13, .ireturn, 14), (14, .iconst 0, 15), (15, .ireturn, 16)]
def i_La_errorPosition : zkI := (yL_errorPosition, cL_errorPosition, 3, (some .int), 9, tb_La_errorPosition, [(0, 8, 11, 48)])
theorem ok_La_errorPosition : zkOk i_La_errorPosition := by unfold zkOk; decide +kernel
def tb_La_task : List (Nat × Instr × Nat) := [(0, .aload_n 3, 1), (1, .iconst 0, 2), (2, .aload_n 0, 3), (3, .iload_n 1, 4), (4, .iload_n 2, 5), (5, .invokevirtual 50, 8), (8, .i2l, 9), (9, .lastore, 10), (10, .goto 11, 13), (13, .astore 4, 15), (15, .iconst 1, 16), (16, .ireturn, 17), (17, .astore 4, 19), (19, .iconst 2, 20), (20, .ireturn, 21), (21, .iconst 0, 22), (22, .ireturn, 23)]
def i_La_task : zkI := (yL_task, cL_task, 5, (some .int), 9, tb_La_task, [(0, 10, 13, 23), (0, 10, 17, 13)])
theorem ok_La_task : zkOk i_La_task := by unfold zkOk; decide +kernel
def tb_La_ceiling : List (Nat × Instr × Nat) := [(0, .aload_n 2, 1), (1, .iconst 0, 2), (2, .aload_n 0, 3), (3, .iload_n 1, 4), (4, .invokevirtual 53, 7), (7, .i2l, 8), (8, .lastore, 9), (9, .goto 6, 12), (12, .astore_n 3, 13), (13, .iconst 1, 14), (14, .ireturn, 15), (15, .iconst 0, 16), (16, .ireturn, 17)]
def i_La_ceiling : zkI := (yL_ceiling, cL_ceiling, 4, (some .int), 9, tb_La_ceiling, [(0, 9, 12, 23)])
theorem ok_La_ceiling : zkOk i_La_ceiling := by unfold zkOk; decide +kernel
def tb_La_blocking : List (Nat × Instr × Nat) := [(0, .aload_n 2, 1), (1, .iconst 0, 2), (2, .aload_n 0, 3), (3, .iload_n 1, 4), (4, .invokevirtual 56, 7), (7, .i2l, 8), (8, .lastore, 9), (9, .goto 6, 12), (12, .astore_n 3, 13), (13, .iconst 1, 14), (14, .ireturn, 15), (15, .iconst 0, 16), (16, .ireturn, 17)]
def i_La_blocking : zkI := (yL_blocking, cL_blocking, 4, (some .int), 9, tb_La_blocking, [(0, 9, 12, 23)])
theorem ok_La_blocking : zkOk i_La_blocking := by unfold zkOk; decide +kernel
def tb_La_bound : List (Nat × Instr × Nat) := [(0, .aload_n 2, 1), (1, .iconst 0, 2), (2, .aload_n 0, 3), (3, .iload_n 1, 4), (4, .invokevirtual 59, 7), (7, .i2l, 8), (8, .lastore, 9), (9, .goto 12, 12), (12, .astore_n 3, 13), (13, .iconst 1, 14), (14, .ireturn, 15), (15, .astore_n 3, 16), (16, .iconst 2, 17), (17, .ireturn, 18), (18, .astore_n 3, 19), (19, .iconst 3, 20), (20, .ireturn, 21), (21, .iconst 0, 22), (22, .ireturn, 23)]
def i_La_bound : zkI := (yL_bound, cL_bound, 4, (some .int), 9, tb_La_bound, [(0, 9, 12, 23), (0, 9, 15, 15), (0, 9, 18, 48)])
theorem ok_La_bound : zkOk i_La_bound := by unfold zkOk; decide +kernel
def tb_La_witness : List (Nat × Instr × Nat) := [(0, .aload_n 2, 1), (1, .iconst 0, 2), (2, .aload_n 0, 3), (3, .iload_n 1, 4), (4, .invokevirtual 62, 7), (7, .i2l, 8), (8, .lastore, 9), (9, .goto 12, 12), (12, .astore_n 3, 13), (13, .iconst 1, 14), (14, .ireturn, 15), (15, .astore_n 3, 16), (16, .iconst 2, 17), (17, .ireturn, 18), (18, .astore_n 3, 19), (19, .iconst 3, 20), (20, .ireturn, 21), (21, .iconst 0, 22), (22, .ireturn, 23)]
def i_La_witness : zkI := (yL_witness, cL_witness, 4, (some .int), 9, tb_La_witness, [(0, 9, 12, 23), (0, 9, 15, 15), (0, 9, 18, 48)])
theorem ok_La_witness : zkOk i_La_witness := by unfold zkOk; decide +kernel
def tb_La_run : List (Nat × Instr × Nat) := [(0, .aload_n 2, 1), (1, .iconst 0, 2), (2, .aload_n 0, 3), (3, .iload_n 1, 4), (4, .invokevirtual 65, 7), (7, .i2l, 8), (8, .lastore, 9), (9, .goto 9, 12), (12, .astore_n 3, 13), (13, .iconst 1, 14), (14, .ireturn, 15), (15, .astore_n 3, 16), (16, .iconst 2, 17), (17, .ireturn, 18), (18, .iconst 0, 19), (19, .ireturn, 20)]
def i_La_run : zkI := (yL_run, cL_run, 4, (some .int), 9, tb_La_run, [(0, 9, 12, 13), (0, 9, 15, 15)])
theorem ok_La_run : zkOk i_La_run := by unfold zkOk; decide +kernel
def tb_La_ranAt : List (Nat × Instr × Nat) := [(0, .aload_n 2, 1), (1, .iconst 0, 2), (2, .aload_n 0, 3), (3, .iload_n 1, 4), (4, .invokevirtual 68, 7), (7, .i2l, 8), (8, .lastore, 9), (9, .goto 6, 12), (12, .astore_n 3, 13), (13, .iconst 1, 14), (14, .ireturn, 15), (15, .iconst 0, 16), (16, .ireturn, 17)]
def i_La_ranAt : zkI := (yL_ranAt, cL_ranAt, 4, (some .int), 9, tb_La_ranAt, [(0, 9, 12, 23)])
theorem ok_La_ranAt : zkOk i_La_ranAt := by unfold zkOk; decide +kernel
def tb_La_pending : List (Nat × Instr × Nat) := [(0, .aload_n 2, 1), (1, .iconst 0, 2), (2, .aload_n 0, 3), (3, .iload_n 1, 4), (4, .invokevirtual 71, 7), (7, .i2l, 8), (8, .lastore, 9), (9, .goto 6, 12), (12, .astore_n 3, 13), (13, .iconst 1, 14), (14, .ireturn, 15), (15, .iconst 0, 16), (16, .ireturn, 17)]
def i_La_pending : zkI := (yL_pending, cL_pending, 4, (some .int), 9, tb_La_pending, [(0, 9, 12, 23)])
theorem ok_La_pending : zkOk i_La_pending := by unfold zkOk; decide +kernel
def tb_La_activePriority : List (Nat × Instr × Nat) := [(0, .aload_n 2, 1), (1, .iconst 0, 2), (2, .aload_n 0, 3), (3, .iload_n 1, 4), (4, .invokevirtual 74, 7), (7, .i2l, 8), (8, .lastore, 9), (9, .goto 9, 12), (12, .astore_n 3, 13), (13, .iconst 1, 14), (14, .ireturn, 15), (15, .astore_n 3, 16), (16, .iconst 2, 17), (17, .ireturn, 18), (18, .iconst 0, 19), (19, .ireturn, 20)]
def i_La_activePriority : zkI := (yL_activePriority, cL_activePriority, 4, (some .int), 9, tb_La_activePriority, [(0, 9, 12, 23), (0, 9, 15, 48)])
theorem ok_La_activePriority : zkOk i_La_activePriority := by unfold zkOk; decide +kernel
def tb_La_holder : List (Nat × Instr × Nat) := [(0, .aload_n 2, 1), (1, .iconst 0, 2), (2, .aload_n 0, 3), (3, .iload_n 1, 4), (4, .invokevirtual 77, 7), (7, .i2l, 8), (8, .lastore, 9), (9, .goto 6, 12), (12, .astore_n 3, 13), (13, .iconst 1, 14), (14, .ireturn, 15), (15, .iconst 0, 16), (16, .ireturn, 17)]
def i_La_holder : zkI := (yL_holder, cL_holder, 4, (some .int), 9, tb_La_holder, [(0, 9, 12, 23)])
theorem ok_La_holder : zkOk i_La_holder := by unfold zkOk; decide +kernel
def tb_La_result : List (Nat × Instr × Nat) := [(0, .aload_n 3, 1), (1, .iconst 0, 2), (2, .aload_n 0, 3), (3, .iload_n 1, 4), (4, .iload_n 2, 5), (5, .invokevirtual 80, 8), (8, .i2l, 9), (9, .lastore, 10), (10, .goto 11, 13), (13, .astore 4, 15), (15, .iconst 1, 16), (16, .ireturn, 17), (17, .astore 4, 19), (19, .iconst 2, 20), (20, .ireturn, 21), (21, .iconst 0, 22), (22, .ireturn, 23)]
def i_La_result : zkI := (yL_result, cL_result, 5, (some .int), 9, tb_La_result, [(0, 10, 13, 23), (0, 10, 17, 13)])
theorem ok_La_result : zkOk i_La_result := by unfold zkOk; decide +kernel
def tb_La_averageResponse : List (Nat × Instr × Nat) := [(0, .aload_n 2, 1), (1, .iconst 0, 2), (2, .aload_n 0, 3), (3, .iload_n 1, 4), (4, .invokevirtual 83, 7), (7, .f2d, 8), (8, .dastore, 9), (9, .goto 9, 12), (12, .astore_n 3, 13), (13, .iconst 1, 14), (14, .ireturn, 15), (15, .astore_n 3, 16), (16, .iconst 2, 17), (17, .ireturn, 18), (18, .iconst 0, 19), (19, .ireturn, 20)]
def i_La_averageResponse : zkI := (yL_averageResponse, cL_averageResponse, 4, (some .int), 9, tb_La_averageResponse, [(0, 9, 12, 23), (0, 9, 15, 87)])
theorem ok_La_averageResponse : zkOk i_La_averageResponse := by unfold zkOk; decide +kernel
def tb_La_balance : List (Nat × Instr × Nat) := [(0, .aload_n 1, 1), (1, .iconst 0, 2), (2, .aload_n 0, 3), (3, .invokevirtual 89, 6), (6, .i2l, 7), (7, .lastore, 8), (8, .goto 6, 11), (11, .astore_n 2, 12), (12, .iconst 1, 13), (13, .ireturn, 14), (14, .iconst 0, 15), (15, .ireturn, 16)]
def i_La_balance : zkI := (yL_balance, cL_balance, 3, (some .int), 9, tb_La_balance, [(0, 8, 11, 15)])
theorem ok_La_balance : zkOk i_La_balance := by unfold zkOk; decide +kernel
def tb_La_nextReplenishment : List (Nat × Instr × Nat) := [(0, .aload_n 1, 1), (1, .iconst 0, 2), (2, .aload_n 0, 3), (3, .invokevirtual 92, 6), (6, .i2l, 7), (7, .lastore, 8), (8, .goto 9, 11), (11, .astore_n 2, 12), (12, .iconst 1, 13), (13, .ireturn, 14), (14, .astore_n 2, 15), (15, .iconst 2, 16), (16, .ireturn, 17), (17, .iconst 0, 18), (18, .ireturn, 19)]
def i_La_nextReplenishment : zkI := (yL_nextReplenishment, cL_nextReplenishment, 3, (some .int), 9, tb_La_nextReplenishment, [(0, 8, 11, 15), (0, 8, 14, 48)])
theorem ok_La_nextReplenishment : zkOk i_La_nextReplenishment := by unfold zkOk; decide +kernel
def tb_La_requestResponse : List (Nat × Instr × Nat) := [(0, .aload_n 2, 1), (1, .iconst 0, 2), (2, .aload_n 0, 3), (3, .iload_n 1, 4), (4, .invokevirtual 95, 7), (7, .i2l, 8), (8, .lastore, 9), (9, .goto 9, 12), (12, .astore_n 3, 13), (13, .iconst 1, 14), (14, .ireturn, 15), (15, .astore_n 3, 16), (16, .iconst 2, 17), (17, .ireturn, 18), (18, .iconst 0, 19), (19, .ireturn, 20)]
def i_La_requestResponse : zkI := (yL_requestResponse, cL_requestResponse, 4, (some .int), 9, tb_La_requestResponse, [(0, 9, 12, 23), (0, 9, 15, 15)])
theorem ok_La_requestResponse : zkOk i_La_requestResponse := by unfold zkOk; decide +kernel
def tb_La_utilization : List (Nat × Instr × Nat) := [(0, .aload_n 1, 1), (1, .iconst 0, 2), (2, .aload_n 0, 3), (3, .invokevirtual 98, 6), (6, .dastore, 7), (7, .goto 6, 10), (10, .astore_n 2, 11), (11, .iconst 1, 12), (12, .ireturn, 13), (13, .iconst 0, 14), (14, .ireturn, 15)]
def i_La_utilization : zkI := (yL_utilization, cL_utilization, 3, (some .int), 9, tb_La_utilization, [(0, 7, 10, 87)])
theorem ok_La_utilization : zkOk i_La_utilization := by unfold zkOk; decide +kernel
def tb_La_restore : List (Nat × Instr × Nat) := [(0, .aload_n 1, 1), (1, .iconst 0, 2), (2, .aload_n 0, 3), (3, .invokevirtual 102, 6), (6, .i2l, 7), (7, .lastore, 8), (8, .goto 6, 11), (11, .astore_n 2, 12), (12, .iconst 1, 13), (13, .ireturn, 14), (14, .iconst 0, 15), (15, .ireturn, 16)]
def i_La_restore : zkI := (yL_restore, cL_restore, 3, (some .int), 9, tb_La_restore, [(0, 8, 11, 15)])
theorem ok_La_restore : zkOk i_La_restore := by unfold zkOk; decide +kernel
end
section
/-! links of the calls -/
def zkLkB (o idx : Nat) (ci : zkI) (st ne : Bool) (n p1 p2 p3 p4 p5 : Nat) : Bool :=
  decide (lw_tbl[p1]? = some (if ne then Cond.methodLinkNest (zkR o) idx (iY ci) RX7 else Cond.methodLink (zkR o) idx (iY ci))) && decide (lw_tbl[p2]? = some (zkHd ci)) && decide (lw_tbl[p3]? = some (Cond.initialized (iY ci).cls)) &&
  decide (lw_tbl[p4]? = some (if st then Cond.static (iY ci) else Cond.instanceMethod (iY ci))) && (st || decide (lw_tbl[p5]? = some (Cond.selects (iY ci).cls (iY ci) (iY ci)))) &&
  decide ((iY ci).cls ≠ "java/lang/invoke/MethodHandle") && decide ((iY ci).cls ≠ "java/lang/invoke/VarHandle") && decide ((parseMethodDescriptor (iY ci).desc).map (fun d => d.parameters.length) = some n) && decide ((iY ci).cls = zkR (iO ci)) &&
  goodWord (Cond.methodLink (zkR o) idx (iY ci)) && goodWord (zkHd ci) && goodWord (Cond.initialized (iY ci).cls) && goodWord (Cond.static (iY ci)) && goodWord (Cond.instanceMethod (iY ci)) && goodWord (Cond.selects (iY ci).cls (iY ci) (iY ci))
theorem zkLk_of {o idx : Nat} {ci : zkI} {st ne : Bool} {n : Nat} (p1 p2 p3 p4 p5 : Nat) (h : zkLkB o idx ci st ne n p1 p2 p3 p4 p5 = true) : zkLk o idx ci st ne n := by
  unfold zkLkB at h
  simp only [Bool.and_eq_true, decide_eq_true_eq] at h
  obtain ⟨⟨⟨⟨⟨⟨⟨⟨⟨⟨⟨⟨⟨⟨h1, h2⟩, h3⟩, h4⟩, h5⟩, h6⟩, h7⟩, h8⟩, h9⟩, g1⟩, g2⟩, g3⟩, g4⟩, g5⟩, g6⟩ := h
  refine ⟨?_, zkGw_in p2 h2 g2, zkGw_in p3 h3 g3, ?_, ⟨h6, h7⟩, h8, h9⟩
  · cases ne
    · exact zkGw_in p1 h1 g1
    · exact zkNw_in p1 h1 rfl
  · cases st
    · refine ⟨zkGw_in p4 h4 g5, zkGw_in p5 ?_ g6⟩
      simpa using h5
    · exact zkGw_in p4 h4 g4
theorem lk_8_24 : zkLk 8 24 i_An_blockingBy true false 3 := zkLk_of 430 432 131 431 0 (by decide +kernel)
theorem lk_8_49 : zkLk 8 49 i_An_blockingOf true false 2 := zkLk_of 427 429 131 428 0 (by decide +kernel)
theorem lk_8_56 : zkLk 8 56 i_An_urgentWorkWithin true false 3 := zkLk_of 436 438 131 437 0 (by decide +kernel)
theorem lk_8_62 : zkLk 8 62 i_An_quotientUp true false 2 := zkLk_of 439 441 131 440 0 (by decide +kernel)
theorem lk_8_65 : zkLk 8 65 i_An_isServerAbove true false 2 := zkLk_of 442 444 131 443 0 (by decide +kernel)
theorem lk_8_84 : zkLk 8 84 i_An_urgentWorkReleasedAt true false 3 := zkLk_of 945 947 131 946 0 (by decide +kernel)
theorem lk_8_87 : zkLk 8 87 i_An_isMultiple true false 2 := zkLk_of 948 950 131 949 0 (by decide +kernel)
theorem lk_8_91 : zkLk 8 91 i_An_boundOf true false 2 := zkLk_of 424 426 131 425 0 (by decide +kernel)
theorem lk_8_97 : zkLk 8 97 i_Cw_isWithin true true 3 := zkLk_of 445 447 109 446 0 (by decide +kernel)
theorem lk_8_101 : zkLk 8 101 i_An_share true false 2 := zkLk_of 455 457 131 456 0 (by decide +kernel)
theorem lk_0_43 : zkLk 0 43 i_Cw_isWithin true true 3 := zkLk_of 519 447 109 446 0 (by decide +kernel)
theorem lk_0_47 : zkLk 0 47 i_Be_startAgain false false 0 := zkLk_of 389 392 110 391 1 (by decide +kernel)
theorem lk_0_55 : zkLk 0 55 i_Rq_removeAll false true 0 := zkLk_of 409 412 112 411 6 (by decide +kernel)
theorem lk_0_64 : zkLk 0 64 i_Ta_startAgain false true 0 := zkLk_of 393 396 113 395 2 (by decide +kernel)
theorem lk_0_66 : zkLk 0 66 i_Se_startAgain false true 0 := zkLk_of 401 404 111 403 4 (by decide +kernel)
theorem lk_0_67 : zkLk 0 67 i_Rq_startAgain false true 0 := zkLk_of 405 408 112 407 5 (by decide +kernel)
theorem lk_0_68 : zkLk 0 68 i_Be_isPriorityOfTask false false 1 := zkLk_of 520 523 110 522 13 (by decide +kernel)
theorem lk_0_72 : zkLk 0 72 i_Se_hasPriority false true 1 := zkLk_of 524 527 111 526 14 (by decide +kernel)
theorem lk_0_75 : zkLk 0 75 i_Ta_begin false true 4 := zkLk_of 528 531 113 530 15 (by decide +kernel)
theorem lk_0_82 : zkLk 0 82 i_Be_hasTask false false 1 := zkLk_of 688 691 110 690 18 (by decide +kernel)
theorem lk_0_88 : zkLk 0 88 i_Ta_addPart false true 2 := zkLk_of 692 695 113 694 19 (by decide +kernel)
theorem lk_0_98 : zkLk 0 98 i_Se_begin false true 3 := zkLk_of 708 711 111 710 21 (by decide +kernel)
theorem lk_0_101 : zkLk 0 101 i_Rq_isFull false true 0 := zkLk_of 724 727 112 726 23 (by decide +kernel)
theorem lk_0_105 : zkLk 0 105 i_Rq_add false true 2 := zkLk_of 728 731 112 730 24 (by decide +kernel)
theorem lk_0_108 : zkLk 0 108 i_Be_makeUnit false false 0 := zkLk_of 964 967 110 966 38 (by decide +kernel)
theorem lk_0_111 : zkLk 0 111 i_Se_replenishAt false true 1 := zkLk_of 968 971 111 970 39 (by decide +kernel)
theorem lk_0_115 : zkLk 0 115 i_Ta_releaseAt false true 1 := zkLk_of 972 975 113 974 40 (by decide +kernel)
theorem lk_0_118 : zkLk 0 118 i_Ta_missAt false true 2 := zkLk_of 980 983 113 982 42 (by decide +kernel)
theorem lk_0_121 : zkLk 0 121 i_Rq_nextToServe false true 1 := zkLk_of 1001 1004 112 1003 47 (by decide +kernel)
theorem lk_0_125 : zkLk 0 125 i_Se_isReady false true 1 := zkLk_of 1005 1008 111 1007 48 (by decide +kernel)
theorem lk_0_129 : zkLk 0 129 i_Be_mostUrgent false false 1 := zkLk_of 1009 1012 110 1011 49 (by decide +kernel)
theorem lk_0_133 : zkLk 0 133 i_Be_notePreemption false false 1 := zkLk_of 1025 1028 110 1027 53 (by decide +kernel)
theorem lk_0_136 : zkLk 0 136 i_Se_runUnit false true 1 := zkLk_of 1033 1036 111 1035 55 (by decide +kernel)
theorem lk_0_139 : zkLk 0 139 i_Rq_serve false true 2 := zkLk_of 1037 1040 112 1039 56 (by decide +kernel)
theorem lk_0_142 : zkLk 0 142 i_Ta_runUnit false true 1 := zkLk_of 1042 1045 113 1044 57 (by decide +kernel)
theorem lk_0_144 : zkLk 0 144 i_Se_endUnit false true 2 := zkLk_of 1059 1062 111 1061 61 (by decide +kernel)
theorem lk_0_153 : zkLk 0 153 i_Jo_isEmpty false true 0 := zkLk_of 1013 1016 114 1015 50 (by decide +kernel)
theorem lk_0_158 : zkLk 0 158 i_Be_urgencyOf false false 1 := zkLk_of 1017 1020 110 1019 51 (by decide +kernel)
theorem lk_0_162 : zkLk 0 162 i_Ta_heldResource false true 0 := zkLk_of 1021 1024 113 1023 52 (by decide +kernel)
theorem lk_0_165 : zkLk 0 165 i_Ta_hasStartedJob false true 0 := zkLk_of 1029 1032 113 1031 54 (by decide +kernel)
theorem lk_0_171 : zkLk 0 171 i_Ta_copyFrom false true 1 := zkLk_of 482 485 113 484 8 (by decide +kernel)
theorem lk_0_175 : zkLk 0 175 i_Se_copyFrom false true 1 := zkLk_of 494 497 111 496 10 (by decide +kernel)
theorem lk_0_178 : zkLk 0 178 i_Rq_copyFrom false true 1 := zkLk_of 499 502 112 501 11 (by decide +kernel)
theorem lk_1_22 : zkLk 1 22 i_Jo_size false false 0 := zkLk_of 996 999 114 998 46 (by decide +kernel)
theorem lk_1_26 : zkLk 1 26 i_Cw_isWithin true true 3 := zkLk_of 1000 447 109 446 0 (by decide +kernel)
theorem lk_2_23 : zkLk 2 23 i_Rd_isFull false false 0 := zkLk_of 762 756 115 755 26 (by decide +kernel)
theorem lk_2_30 : zkLk 2 30 i_Cw_isWithin true true 3 := zkLk_of 842 447 109 446 0 (by decide +kernel)
theorem lk_2_37 : zkLk 2 37 i_Rd_patternOf true false 1 := zkLk_of 774 776 115 775 0 (by decide +kernel)
theorem lk_2_41 : zkLk 2 41 i_Rd_fits false false 1 := zkLk_of 786 789 115 788 29 (by decide +kernel)
theorem lk_2_72 : zkLk 2 72 i_Rd_afterNumber false false 1 := zkLk_of 838 841 115 840 30 (by decide +kernel)
theorem lk_2_76 : zkLk 2 76 i_Rd_afterSign false false 2 := zkLk_of 843 846 115 845 31 (by decide +kernel)
theorem lk_3_28 : zkLk 3 28 i_Rq_isFull false false 0 := zkLk_of 732 727 112 726 23 (by decide +kernel)
theorem lk_3_32 : zkLk 3 32 i_Cw_isWithin true true 3 := zkLk_of 1041 447 109 446 0 (by decide +kernel)
theorem lk_4_32 : zkLk 4 32 i_Se_startAgain false false 0 := zkLk_of 712 404 111 403 4 (by decide +kernel)
theorem lk_4_50 : zkLk 4 50 i_Se_isReady false false 1 := zkLk_of 1063 1008 111 1007 48 (by decide +kernel)
theorem lk_5_47 : zkLk 5 47 i_Ta_startAgain false false 0 := zkLk_of 532 396 113 395 2 (by decide +kernel)
theorem lk_5_50 : zkLk 5 50 i_Jo_removeAll false true 0 := zkLk_of 397 400 114 399 3 (by decide +kernel)
theorem lk_5_69 : zkLk 5 69 i_Jo_add false true 1 := zkLk_of 976 979 114 978 41 (by decide +kernel)
theorem lk_5_73 : zkLk 5 73 i_Jo_placeOf false true 1 := zkLk_of 984 987 114 986 43 (by decide +kernel)
theorem lk_5_77 : zkLk 5 77 i_Ta_removeJob false false 1 := zkLk_of 988 991 113 990 44 (by decide +kernel)
theorem lk_5_80 : zkLk 5 80 i_Jo_removeAt false true 1 := zkLk_of 992 995 114 994 45 (by decide +kernel)
theorem lk_5_83 : zkLk 5 83 i_Jo_firstRelease false true 0 := zkLk_of 1046 1049 114 1048 58 (by decide +kernel)
theorem lk_5_87 : zkLk 5 87 i_Ta_finishJob false false 1 := zkLk_of 1050 1053 113 1052 59 (by decide +kernel)
theorem lk_5_90 : zkLk 5 90 i_Jo_removeFirst false true 0 := zkLk_of 1054 1057 114 1056 60 (by decide +kernel)
theorem lk_5_105 : zkLk 5 105 i_Jo_copyFrom false true 1 := zkLk_of 489 492 114 491 9 (by decide +kernel)
theorem lk_6_30 : zkLk 6 30 i_Be_removeAll false true 0 := zkLk_of 385 388 110 387 0 (by decide +kernel)
theorem lk_6_34 : zkLk 6 34 i_Be_putTask false true 4 := zkLk_of 515 518 110 517 12 (by decide +kernel)
theorem lk_6_38 : zkLk 6 38 i_Cw_accepted true false 1 := zkLk_of 533 535 109 534 0 (by decide +kernel)
theorem lk_6_42 : zkLk 6 42 i_Be_putSegment false true 3 := zkLk_of 684 687 110 686 17 (by decide +kernel)
theorem lk_6_46 : zkLk 6 46 i_Be_putServer false true 3 := zkLk_of 704 707 110 706 20 (by decide +kernel)
theorem lk_6_49 : zkLk 6 49 i_Be_putRequest false true 2 := zkLk_of 720 723 110 722 22 (by decide +kernel)
theorem lk_6_53 : zkLk 6 53 i_Be_putPolicy false true 1 := zkLk_of 740 743 110 742 25 (by decide +kernel)
theorem lk_6_56 : zkLk 6 56 i_Cw_isWithin true false 3 := zkLk_of 751 447 109 446 0 (by decide +kernel)
theorem lk_6_67 : zkLk 6 67 i_Rd_isFull false true 0 := zkLk_of 753 756 115 755 26 (by decide +kernel)
theorem lk_6_76 : zkLk 6 76 i_Rd_put false true 1 := zkLk_of 758 761 115 760 27 (by decide +kernel)
theorem lk_6_80 : zkLk 6 80 i_Rd_takeForm false true 0 := zkLk_of 770 773 115 772 28 (by decide +kernel)
theorem lk_6_88 : zkLk 6 88 i_Cw_perform false false 1 := zkLk_of 849 852 109 851 32 (by decide +kernel)
theorem lk_6_101 : zkLk 6 101 i_Cw_taskAt false false 1 := zkLk_of 889 892 109 891 34 (by decide +kernel)
theorem lk_6_107 : zkLk 6 107 i_Ta_property false true 1 := zkLk_of 895 898 113 897 35 (by decide +kernel)
theorem lk_6_116 : zkLk 6 116 i_Cw_checkedResource true false 1 := zkLk_of 906 908 109 907 0 (by decide +kernel)
theorem lk_6_119 : zkLk 6 119 i_An_blockingOf true true 2 := zkLk_of 917 429 131 428 0 (by decide +kernel)
theorem lk_6_125 : zkLk 6 125 i_Cw_taskWithSegments false false 1 := zkLk_of 925 928 109 927 36 (by decide +kernel)
theorem lk_6_128 : zkLk 6 128 i_An_boundOf true true 2 := zkLk_of 930 426 131 425 0 (by decide +kernel)
theorem lk_6_131 : zkLk 6 131 i_Cw_found true false 1 := zkLk_of 931 933 109 932 0 (by decide +kernel)
theorem lk_6_134 : zkLk 6 134 i_An_witnessOf true true 2 := zkLk_of 942 944 131 943 0 (by decide +kernel)
theorem lk_6_137 : zkLk 6 137 i_An_meetsDeadlines true true 1 := zkLk_of 421 423 131 422 0 (by decide +kernel)
theorem lk_6_141 : zkLk 6 141 i_An_loadOf true true 1 := zkLk_of 452 454 131 453 0 (by decide +kernel)
theorem lk_6_145 : zkLk 6 145 i_An_hyperbolicLoadOf true true 1 := zkLk_of 462 464 131 463 0 (by decide +kernel)
theorem lk_6_155 : zkLk 6 155 i_Be_makeUnits false true 1 := zkLk_of 960 963 110 962 37 (by decide +kernel)
theorem lk_6_158 : zkLk 6 158 i_Be_startAgain false true 0 := zkLk_of 469 392 110 391 1 (by decide +kernel)
theorem lk_6_173 : zkLk 6 173 i_Jo_size false true 0 := zkLk_of 1080 999 114 998 46 (by decide +kernel)
theorem lk_6_178 : zkLk 6 178 i_Jo_isEmpty false true 0 := zkLk_of 1088 1016 114 1015 50 (by decide +kernel)
theorem lk_6_183 : zkLk 6 183 i_Be_urgencyOf false true 1 := zkLk_of 1090 1020 110 1019 51 (by decide +kernel)
theorem lk_6_187 : zkLk 6 187 i_Be_holderOf false true 1 := zkLk_of 1098 1101 110 1100 62 (by decide +kernel)
theorem lk_6_203 : zkLk 6 203 i_Cw_presentServer false false 0 := zkLk_of 1141 1144 109 1143 63 (by decide +kernel)
theorem lk_6_212 : zkLk 6 212 i_Se_nextPlan false true 0 := zkLk_of 1153 1156 111 1155 64 (by decide +kernel)
theorem lk_6_233 : zkLk 6 233 i_Be_usedUnits false true 0 := zkLk_of 1174 1177 110 1176 65 (by decide +kernel)
theorem lk_6_236 : zkLk 6 236 i_Be_copyFrom false true 1 := zkLk_of 478 481 110 480 7 (by decide +kernel)
theorem lk_6_246 : zkLk 6 246 i_Rd_number false true 1 := zkLk_of 853 856 115 855 33 (by decide +kernel)
theorem lk_6_264 : zkLk 6 264 i_Be_hasTask false true 1 := zkLk_of 893 691 110 690 18 (by decide +kernel)
theorem lk_7_75 : zkLk 7 75 i_Mo_isIn true false 3 := zkLk_of 1323 1325 116 1324 0 (by decide +kernel)
theorem lk_7_79 : zkLk 7 79 i_Mo_lengthAt false false 2 := zkLk_of 1374 1377 116 1376 73 (by decide +kernel)
theorem lk_7_107 : zkLk 7 107 i_Mo_restart false false 0 := zkLk_of 1315 1318 116 1317 66 (by decide +kernel)
theorem lk_7_110 : zkLk 7 110 i_Mo_priorityOf false false 1 := zkLk_of 1334 1337 116 1336 69 (by decide +kernel)
theorem lk_7_114 : zkLk 7 114 i_Mo_fail false false 1 := zkLk_of 1326 1329 116 1328 67 (by decide +kernel)
theorem lk_7_117 : zkLk 7 117 i_Mo_isTaken false false 1 := zkLk_of 1330 1333 116 1332 68 (by decide +kernel)
theorem lk_7_121 : zkLk 7 121 i_Mo_isTask false false 1 := zkLk_of 1342 1345 116 1344 70 (by decide +kernel)
theorem lk_7_124 : zkLk 7 124 i_Mo_hasServer false false 0 := zkLk_of 1350 1353 116 1352 71 (by decide +kernel)
theorem lk_7_131 : zkLk 7 131 i_Mo_demandOf false false 1 := zkLk_of 1370 1373 116 1372 72 (by decide +kernel)
theorem lk_7_134 : zkLk 7 134 i_Mo_resourceAt false false 2 := zkLk_of 1386 1389 116 1388 75 (by decide +kernel)
theorem lk_7_142 : zkLk 7 142 i_Mo_ceilingOf false false 1 := zkLk_of 1382 1385 116 1384 74 (by decide +kernel)
theorem lk_7_145 : zkLk 7 145 i_Mo_blockingOf false false 1 := zkLk_of 1395 1398 116 1397 76 (by decide +kernel)
theorem lk_7_148 : zkLk 7 148 i_Mo_periodOf false false 1 := zkLk_of 1411 1414 116 1413 79 (by decide +kernel)
theorem lk_7_151 : zkLk 7 151 i_Mo_quotientUp true false 2 := zkLk_of 1415 1417 116 1416 0 (by decide +kernel)
theorem lk_7_154 : zkLk 7 154 i_Mo_workUpTo false false 2 := zkLk_of 1407 1410 116 1409 78 (by decide +kernel)
theorem lk_7_157 : zkLk 7 157 i_Mo_boundOf false false 1 := zkLk_of 1403 1406 116 1405 77 (by decide +kernel)
theorem lk_7_160 : zkLk 7 160 i_Mo_comes false false 2 := zkLk_of 1422 1425 116 1424 80 (by decide +kernel)
theorem lk_7_163 : zkLk 7 163 i_Mo_takeJob false false 2 := zkLk_of 1458 1461 116 1460 85 (by decide +kernel)
theorem lk_7_167 : zkLk 7 167 i_Mo_segmentNow false false 2 := zkLk_of 1482 1485 116 1484 91 (by decide +kernel)
theorem lk_7_171 : zkLk 7 171 i_Mo_heldBy false false 1 := zkLk_of 1478 1481 116 1480 90 (by decide +kernel)
theorem lk_7_174 : zkLk 7 174 i_Mo_firstRequest false false 1 := zkLk_of 1470 1473 116 1472 88 (by decide +kernel)
theorem lk_7_177 : zkLk 7 177 i_Mo_isReady false false 1 := zkLk_of 1466 1469 116 1468 87 (by decide +kernel)
theorem lk_7_180 : zkLk 7 180 i_Mo_activeOf false false 1 := zkLk_of 1474 1477 116 1476 89 (by decide +kernel)
theorem lk_7_186 : zkLk 7 186 i_Mo_takeReplenishments false false 0 := zkLk_of 1446 1449 116 1448 82 (by decide +kernel)
theorem lk_7_189 : zkLk 7 189 i_Mo_release false false 0 := zkLk_of 1450 1453 116 1452 83 (by decide +kernel)
theorem lk_7_192 : zkLk 7 192 i_Mo_meetDeadlines false false 0 := zkLk_of 1454 1457 116 1456 84 (by decide +kernel)
theorem lk_7_195 : zkLk 7 195 i_Mo_mostUrgent false false 0 := zkLk_of 1462 1465 116 1464 86 (by decide +kernel)
theorem lk_7_199 : zkLk 7 199 i_Mo_countPreemption false false 1 := zkLk_of 1486 1489 116 1488 92 (by decide +kernel)
theorem lk_7_203 : zkLk 7 203 i_Mo_runServer false false 0 := zkLk_of 1490 1493 116 1492 93 (by decide +kernel)
theorem lk_7_206 : zkLk 7 206 i_Mo_runJob false false 1 := zkLk_of 1494 1497 116 1496 94 (by decide +kernel)
theorem lk_7_209 : zkLk 7 209 i_Mo_endBusy false false 0 := zkLk_of 1498 1501 116 1500 95 (by decide +kernel)
theorem lk_7_212 : zkLk 7 212 i_Mo_makeUnit false false 0 := zkLk_of 1442 1445 116 1444 81 (by decide +kernel)
theorem lk_7_230 : zkLk 7 230 i_Mo_sign false false 0 := zkLk_of 1565 1568 116 1567 97 (by decide +kernel)
theorem lk_7_233 : zkLk 7 233 i_Mo_take false false 1 := zkLk_of 1569 1572 116 1571 98 (by decide +kernel)
theorem lk_7_237 : zkLk 7 237 i_Mo_number false false 0 := zkLk_of 1577 1580 116 1579 100 (by decide +kernel)
theorem lk_7_240 : zkLk 7 240 i_Mo_takeAll false false 7 := zkLk_of 1581 1584 116 1583 101 (by decide +kernel)
theorem lk_7_244 : zkLk 7 244 i_Mo_readNumbers false false 1 := zkLk_of 1573 1576 116 1575 99 (by decide +kernel)
theorem lk_7_247 : zkLk 7 247 i_Mo_policyName false false 0 := zkLk_of 1585 1588 116 1587 102 (by decide +kernel)
theorem lk_7_250 : zkLk 7 250 i_Mo_resource false false 0 := zkLk_of 1589 1592 116 1591 103 (by decide +kernel)
theorem lk_7_253 : zkLk 7 253 i_Mo_addTask false false 4 := zkLk_of 1597 1322 116 1320 1321 (by decide +kernel)
theorem lk_7_257 : zkLk 7 257 i_Mo_setServer false false 3 := zkLk_of 1598 1349 116 1347 1348 (by decide +kernel)
theorem lk_7_260 : zkLk 7 260 i_Mo_request false false 2 := zkLk_of 1599 1357 116 1355 1356 (by decide +kernel)
theorem lk_7_263 : zkLk 7 263 i_Mo_addSegment false false 3 := zkLk_of 1600 1341 116 1339 1340 (by decide +kernel)
theorem lk_7_267 : zkLk 7 267 i_Mo_setPolicy false false 1 := zkLk_of 1601 1361 116 1359 1360 (by decide +kernel)
theorem lk_7_270 : zkLk 7 270 i_Mo_readCommand false false 0 := zkLk_of 1561 1564 116 1563 96 (by decide +kernel)
theorem lk_7_273 : zkLk 7 273 i_Mo_doCommand false false 1 := zkLk_of 1593 1596 116 1595 104 (by decide +kernel)
theorem lk_7_283 : zkLk 7 283 i_Mo_pass false false 1 := zkLk_of 1614 1617 116 1616 106 (by decide +kernel)
theorem lk_7_286 : zkLk 7 286 i_Mo_passRow false false 1 := zkLk_of 1618 1621 116 1620 107 (by decide +kernel)
theorem lk_7_293 : zkLk 7 293 i_Mo_passAll false false 1 := zkLk_of 1610 1613 116 1612 105 (by decide +kernel)
theorem lk_9_7 : zkLk 9 7 i_Cw_addTask false false 4 := zkLk_of 511 514 109 512 513 (by decide +kernel)
theorem lk_9_19 : zkLk 9 19 i_Cw_addSegment false false 3 := zkLk_of 680 683 109 681 682 (by decide +kernel)
theorem lk_9_25 : zkLk 9 25 i_Cw_setServer false false 3 := zkLk_of 700 703 109 701 702 (by decide +kernel)
theorem lk_9_29 : zkLk 9 29 i_Cw_request false false 2 := zkLk_of 716 719 109 717 718 (by decide +kernel)
theorem lk_9_33 : zkLk 9 33 i_Cw_setPolicy false false 1 := zkLk_of 736 739 109 737 738 (by decide +kernel)
theorem lk_9_37 : zkLk 9 37 i_Cw_append false false 1 := zkLk_of 747 750 109 748 749 (by decide +kernel)
theorem lk_9_41 : zkLk 9 41 i_Cw_configure false false 0 := zkLk_of 766 769 109 767 768 (by decide +kernel)
theorem lk_9_45 : zkLk 9 45 i_Cw_errorPosition false false 0 := zkLk_of 862 865 109 863 864 (by decide +kernel)
theorem lk_9_50 : zkLk 9 50 i_Cw_task false false 2 := zkLk_of 885 888 109 886 887 (by decide +kernel)
theorem lk_9_53 : zkLk 9 53 i_Cw_ceiling false false 1 := zkLk_of 902 905 109 903 904 (by decide +kernel)
theorem lk_9_56 : zkLk 9 56 i_Cw_blocking false false 1 := zkLk_of 913 916 109 914 915 (by decide +kernel)
theorem lk_9_59 : zkLk 9 59 i_Cw_bound false false 1 := zkLk_of 921 924 109 922 923 (by decide +kernel)
theorem lk_9_62 : zkLk 9 62 i_Cw_witness false false 1 := zkLk_of 938 941 109 939 940 (by decide +kernel)
theorem lk_9_65 : zkLk 9 65 i_Cw_run false false 1 := zkLk_of 954 957 109 955 956 (by decide +kernel)
theorem lk_9_68 : zkLk 9 68 i_Cw_ranAt false false 1 := zkLk_of 1068 1071 109 1069 1070 (by decide +kernel)
theorem lk_9_71 : zkLk 9 71 i_Cw_pending false false 1 := zkLk_of 1076 1079 109 1077 1078 (by decide +kernel)
theorem lk_9_74 : zkLk 9 74 i_Cw_activePriority false false 1 := zkLk_of 1084 1087 109 1085 1086 (by decide +kernel)
theorem lk_9_77 : zkLk 9 77 i_Cw_holder false false 1 := zkLk_of 1094 1097 109 1095 1096 (by decide +kernel)
theorem lk_9_80 : zkLk 9 80 i_Cw_result false false 2 := zkLk_of 1105 1108 109 1106 1107 (by decide +kernel)
theorem lk_9_83 : zkLk 9 83 i_Cw_averageResponse false false 1 := zkLk_of 1127 1130 109 1128 1129 (by decide +kernel)
theorem lk_9_89 : zkLk 9 89 i_Cw_balance false false 0 := zkLk_of 1137 1140 109 1138 1139 (by decide +kernel)
theorem lk_9_92 : zkLk 9 92 i_Cw_nextReplenishment false false 0 := zkLk_of 1149 1152 109 1150 1151 (by decide +kernel)
theorem lk_9_95 : zkLk 9 95 i_Cw_requestResponse false false 1 := zkLk_of 1160 1163 109 1161 1162 (by decide +kernel)
theorem lk_9_98 : zkLk 9 98 i_Cw_utilization false false 0 := zkLk_of 1169 1172 109 1170 1171 (by decide +kernel)
theorem lk_9_102 : zkLk 9 102 i_Cw_restore false false 0 := zkLk_of 1181 1184 109 1182 1183 (by decide +kernel)
theorem lk_9_109 : zkLk 9 109 i_Cw_clear false false 0 := zkLk_of 381 384 109 382 383 (by decide +kernel)
theorem lk_9_112 : zkLk 9 112 i_Mo_clear false false 0 := zkLk_of 1311 1314 116 1312 1313 (by decide +kernel)
theorem lk_9_113 : zkLk 9 113 i_La_addTask true false 6 := zkLk_of 505 507 108 506 0 (by decide +kernel)
theorem lk_9_118 : zkLk 9 118 i_Mo_addTask false false 4 := zkLk_of 1319 1322 116 1320 1321 (by decide +kernel)
theorem lk_9_119 : zkLk 9 119 i_Mo_thrown false false 0 := zkLk_of 1307 1310 116 1308 1309 (by decide +kernel)
theorem lk_9_122 : zkLk 9 122 i_La_addSegment true false 5 := zkLk_of 656 658 108 657 0 (by decide +kernel)
theorem lk_9_125 : zkLk 9 125 i_Mo_addSegment false false 3 := zkLk_of 1338 1341 116 1339 1340 (by decide +kernel)
theorem lk_9_126 : zkLk 9 126 i_La_setServer true false 5 := zkLk_of 697 699 108 698 0 (by decide +kernel)
theorem lk_9_128 : zkLk 9 128 i_Mo_setServer false false 3 := zkLk_of 1346 1349 116 1347 1348 (by decide +kernel)
theorem lk_9_129 : zkLk 9 129 i_La_request true false 4 := zkLk_of 713 715 108 714 0 (by decide +kernel)
theorem lk_9_132 : zkLk 9 132 i_Mo_request false false 2 := zkLk_of 1354 1357 116 1355 1356 (by decide +kernel)
theorem lk_9_133 : zkLk 9 133 i_La_setPolicy true false 3 := zkLk_of 733 735 108 734 0 (by decide +kernel)
theorem lk_9_136 : zkLk 9 136 i_Mo_setPolicy false false 1 := zkLk_of 1358 1361 116 1359 1360 (by decide +kernel)
theorem lk_9_137 : zkLk 9 137 i_La_append true false 3 := zkLk_of 744 746 108 745 0 (by decide +kernel)
theorem lk_9_140 : zkLk 9 140 i_Mo_append false false 1 := zkLk_of 1553 1556 116 1554 1555 (by decide +kernel)
theorem lk_9_141 : zkLk 9 141 i_La_configure true false 2 := zkLk_of 763 765 108 764 0 (by decide +kernel)
theorem lk_9_144 : zkLk 9 144 i_Mo_configure false false 0 := zkLk_of 1557 1560 116 1558 1559 (by decide +kernel)
theorem lk_9_145 : zkLk 9 145 i_La_errorPosition true false 2 := zkLk_of 858 860 108 859 0 (by decide +kernel)
theorem lk_9_147 : zkLk 9 147 i_Mo_errorPosition false false 0 := zkLk_of 1602 1605 116 1603 1604 (by decide +kernel)
theorem lk_9_148 : zkLk 9 148 i_Cw_taskCount false false 0 := zkLk_of 413 416 109 414 415 (by decide +kernel)
theorem lk_9_151 : zkLk 9 151 i_Mo_taskCount false false 0 := zkLk_of 1362 1365 116 1363 1364 (by decide +kernel)
theorem lk_9_152 : zkLk 9 152 i_La_task true false 4 := zkLk_of 882 884 108 883 0 (by decide +kernel)
theorem lk_9_154 : zkLk 9 154 i_Mo_task false false 2 := zkLk_of 1366 1369 116 1367 1368 (by decide +kernel)
theorem lk_9_155 : zkLk 9 155 i_La_ceiling true false 3 := zkLk_of 899 901 108 900 0 (by decide +kernel)
theorem lk_9_157 : zkLk 9 157 i_Mo_ceiling false false 1 := zkLk_of 1378 1381 116 1379 1380 (by decide +kernel)
theorem lk_9_158 : zkLk 9 158 i_La_blocking true false 3 := zkLk_of 910 912 108 911 0 (by decide +kernel)
theorem lk_9_160 : zkLk 9 160 i_Mo_blocking false false 1 := zkLk_of 1391 1394 116 1392 1393 (by decide +kernel)
theorem lk_9_161 : zkLk 9 161 i_La_bound true false 3 := zkLk_of 918 920 108 919 0 (by decide +kernel)
theorem lk_9_163 : zkLk 9 163 i_Mo_bound false false 1 := zkLk_of 1399 1402 116 1400 1401 (by decide +kernel)
theorem lk_9_164 : zkLk 9 164 i_La_witness true false 3 := zkLk_of 935 937 108 936 0 (by decide +kernel)
theorem lk_9_166 : zkLk 9 166 i_Mo_witness false false 1 := zkLk_of 1418 1421 116 1419 1420 (by decide +kernel)
theorem lk_9_167 : zkLk 9 167 i_Cw_isSchedulable false false 0 := zkLk_of 417 420 109 418 419 (by decide +kernel)
theorem lk_9_171 : zkLk 9 171 i_Mo_isSchedulable false false 0 := zkLk_of 1426 1429 116 1427 1428 (by decide +kernel)
theorem lk_9_172 : zkLk 9 172 i_Cw_load false false 0 := zkLk_of 448 451 109 449 450 (by decide +kernel)
theorem lk_9_175 : zkLk 9 175 i_Mo_load false false 0 := zkLk_of 1430 1433 116 1431 1432 (by decide +kernel)
theorem lk_9_176 : zkLk 9 176 i_Cw_hyperbolicLoad false false 0 := zkLk_of 458 461 109 459 460 (by decide +kernel)
theorem lk_9_179 : zkLk 9 179 i_Mo_hyperbolicLoad false false 0 := zkLk_of 1434 1437 116 1435 1436 (by decide +kernel)
theorem lk_9_180 : zkLk 9 180 i_La_run true false 3 := zkLk_of 951 953 108 952 0 (by decide +kernel)
theorem lk_9_182 : zkLk 9 182 i_Mo_run false false 1 := zkLk_of 1438 1441 116 1439 1440 (by decide +kernel)
theorem lk_9_183 : zkLk 9 183 i_Cw_rewind false false 0 := zkLk_of 465 468 109 466 467 (by decide +kernel)
theorem lk_9_186 : zkLk 9 186 i_Mo_rewind false false 0 := zkLk_of 1502 1505 116 1503 1504 (by decide +kernel)
theorem lk_9_187 : zkLk 9 187 i_Cw_clock false false 0 := zkLk_of 470 473 109 471 472 (by decide +kernel)
theorem lk_9_190 : zkLk 9 190 i_Mo_clock false false 0 := zkLk_of 1506 1509 116 1507 1508 (by decide +kernel)
theorem lk_9_191 : zkLk 9 191 i_La_ranAt true false 3 := zkLk_of 1065 1067 108 1066 0 (by decide +kernel)
theorem lk_9_193 : zkLk 9 193 i_Mo_ranAt false false 1 := zkLk_of 1510 1513 116 1511 1512 (by decide +kernel)
theorem lk_9_194 : zkLk 9 194 i_La_pending true false 3 := zkLk_of 1073 1075 108 1074 0 (by decide +kernel)
theorem lk_9_196 : zkLk 9 196 i_Mo_pending false false 1 := zkLk_of 1514 1517 116 1515 1516 (by decide +kernel)
theorem lk_9_197 : zkLk 9 197 i_La_activePriority true false 3 := zkLk_of 1081 1083 108 1082 0 (by decide +kernel)
theorem lk_9_199 : zkLk 9 199 i_Mo_activePriority false false 1 := zkLk_of 1518 1521 116 1519 1520 (by decide +kernel)
theorem lk_9_200 : zkLk 9 200 i_La_holder true false 3 := zkLk_of 1091 1093 108 1092 0 (by decide +kernel)
theorem lk_9_202 : zkLk 9 202 i_Mo_holder false false 1 := zkLk_of 1522 1525 116 1523 1524 (by decide +kernel)
theorem lk_9_203 : zkLk 9 203 i_La_result true false 4 := zkLk_of 1102 1104 108 1103 0 (by decide +kernel)
theorem lk_9_205 : zkLk 9 205 i_Mo_result false false 2 := zkLk_of 1526 1529 116 1527 1528 (by decide +kernel)
theorem lk_9_206 : zkLk 9 206 i_La_averageResponse true false 3 := zkLk_of 1110 1112 108 1111 0 (by decide +kernel)
theorem lk_9_209 : zkLk 9 209 i_Mo_averageResponse false false 1 := zkLk_of 1530 1533 116 1531 1532 (by decide +kernel)
theorem lk_9_210 : zkLk 9 210 i_La_balance true false 2 := zkLk_of 1134 1136 108 1135 0 (by decide +kernel)
theorem lk_9_212 : zkLk 9 212 i_Mo_balance false false 0 := zkLk_of 1534 1537 116 1535 1536 (by decide +kernel)
theorem lk_9_213 : zkLk 9 213 i_La_nextReplenishment true false 2 := zkLk_of 1146 1148 108 1147 0 (by decide +kernel)
theorem lk_9_215 : zkLk 9 215 i_Mo_nextReplenishment false false 0 := zkLk_of 1538 1541 116 1539 1540 (by decide +kernel)
theorem lk_9_216 : zkLk 9 216 i_La_requestResponse true false 3 := zkLk_of 1157 1159 108 1158 0 (by decide +kernel)
theorem lk_9_218 : zkLk 9 218 i_Mo_requestResponse false false 1 := zkLk_of 1545 1548 116 1546 1547 (by decide +kernel)
theorem lk_9_219 : zkLk 9 219 i_La_utilization true false 2 := zkLk_of 1166 1168 108 1167 0 (by decide +kernel)
theorem lk_9_222 : zkLk 9 222 i_Mo_utilization false false 0 := zkLk_of 1549 1552 116 1550 1551 (by decide +kernel)
theorem lk_9_223 : zkLk 9 223 i_Cw_snapshot false false 0 := zkLk_of 474 477 109 475 476 (by decide +kernel)
theorem lk_9_226 : zkLk 9 226 i_Mo_snapshot false false 0 := zkLk_of 1606 1609 116 1607 1608 (by decide +kernel)
theorem lk_9_227 : zkLk 9 227 i_La_restore true false 2 := zkLk_of 1178 1180 108 1179 0 (by decide +kernel)
theorem lk_9_229 : zkLk 9 229 i_Mo_restore false false 0 := zkLk_of 1622 1625 116 1623 1624 (by decide +kernel)
end
section
/-! calls of methods whose end is known; loops; memory -/
def zkRX (E : String) (f : zkM) : zkO → zkM → Prop := fun o m => o = Sum.inr E ∧ m = f
def zkRf (r : zkO) (f : zkM) : zkO → zkM → Prop := fun o m => o = r ∧ m = f
section ZHELP
variable {l : Launch} {G : zkG} {i ci : zkI} {K : zkK} {cu su pc nx : Nat} {ls : List (Option zkV)} {st : List zkV} {mem f : zkM}
theorem m_cs1 {idx d n : Nat} {ne : Bool} {as stk : List zkV} {v : zkV} (hd : (iT i).lookup pc = some (.invokestatic idx, nx)) (hn : nx = pc + 3) (hk : zkLk (iO i) idx ci true ne n) (hc : zkCt l G ci d 0 0 as mem (zkR1 v f)) (hst : stk = as.reverse ++ st) (ha : as.length = n) (hw : (st.map catV).sum ≤ 8) (hf : d + 1 ≤ K.1.frames) (hlo : 40 * d + 119 + iL ci ≤ K.1.locals) (h1 : cu ≤ K.1.cells) (h2 : su ≤ K.1.slots) (k : zkW l G i K cu su nx ls (v :: st) f) : zkW l G i K cu su pc ls stk mem :=
  m_callS hd hn hk hc hst ha hw hf hlo h1 h2 (fun _ _ h => by obtain ⟨e1, e2⟩ := h; cases e1; subst e2; exact k) (fun _ _ h => by obtain ⟨e1, -⟩ := h; cases e1)
theorem m_cs0 {idx d n : Nat} {ne : Bool} {as stk : List zkV} (hd : (iT i).lookup pc = some (.invokestatic idx, nx)) (hn : nx = pc + 3) (hk : zkLk (iO i) idx ci true ne n) (hc : zkCt l G ci d 0 0 as mem (zkR0 f)) (hst : stk = as.reverse ++ st) (ha : as.length = n) (hw : (st.map catV).sum ≤ 8) (hf : d + 1 ≤ K.1.frames) (hlo : 40 * d + 119 + iL ci ≤ K.1.locals) (h1 : cu ≤ K.1.cells) (h2 : su ≤ K.1.slots) (k : zkW l G i K cu su nx ls st f) : zkW l G i K cu su pc ls stk mem :=
  m_callS hd hn hk hc hst ha hw hf hlo h1 h2 (fun _ _ h => by obtain ⟨e1, e2⟩ := h; cases e1; subst e2; exact k) (fun _ _ h => by obtain ⟨e1, -⟩ := h; cases e1)
theorem m_cv1 {idx d n t j : Nat} {ne : Bool} {as stk : List zkV} {v : zkV} (hd : (iT i).lookup pc = some (.invokevirtual idx, nx)) (hn : nx = pc + 3) (hk : zkLk (iO i) idx ci false ne n) (hc : zkCt l G ci d 0 0 (vr t j :: as) mem (zkR1 v f)) (hst : stk = as.reverse ++ vr t j :: st) (hj : j < cnt t) (ht : t < 8) (ho : iO ci = t) (ha : as.length = n) (hw : (st.map catV).sum ≤ 8) (hf : d + 1 ≤ K.1.frames) (hlo : 40 * d + 119 + iL ci ≤ K.1.locals) (h1 : cu ≤ K.1.cells) (h2 : su ≤ K.1.slots) (k : zkW l G i K cu su nx ls (v :: st) f) : zkW l G i K cu su pc ls stk mem :=
  m_callV hd hn hk hc hst hj ht ho ha hw hf hlo h1 h2 (fun _ _ h => by obtain ⟨e1, e2⟩ := h; cases e1; subst e2; exact k) (fun _ _ h => by obtain ⟨e1, -⟩ := h; cases e1)
theorem m_cv0 {idx d n t j : Nat} {ne : Bool} {as stk : List zkV} (hd : (iT i).lookup pc = some (.invokevirtual idx, nx)) (hn : nx = pc + 3) (hk : zkLk (iO i) idx ci false ne n) (hc : zkCt l G ci d 0 0 (vr t j :: as) mem (zkR0 f)) (hst : stk = as.reverse ++ vr t j :: st) (hj : j < cnt t) (ht : t < 8) (ho : iO ci = t) (ha : as.length = n) (hw : (st.map catV).sum ≤ 8) (hf : d + 1 ≤ K.1.frames) (hlo : 40 * d + 119 + iL ci ≤ K.1.locals) (h1 : cu ≤ K.1.cells) (h2 : su ≤ K.1.slots) (k : zkW l G i K cu su nx ls st f) : zkW l G i K cu su pc ls stk mem :=
  m_callV hd hn hk hc hst hj ht ho ha hw hf hlo h1 h2 (fun _ _ h => by obtain ⟨e1, e2⟩ := h; cases e1; subst e2; exact k) (fun _ _ h => by obtain ⟨e1, -⟩ := h; cases e1)
/-- a callee that may throw, its end given by a value -/
theorem m_csf {idx d mc ms n : Nat} {ne : Bool} {as stk : List zkV} {r : zkO} (hd : (iT i).lookup pc = some (.invokestatic idx, nx)) (hn : nx = pc + 3) (hk : zkLk (iO i) idx ci true ne n) (hc : zkCt l G ci d mc ms as mem (zkRf r f)) (hst : stk = as.reverse ++ st) (ha : as.length = n) (hw : (st.map catV).sum ≤ 8) (hf : d + 1 ≤ K.1.frames) (hlo : 40 * d + 119 + iL ci ≤ K.1.locals) (h1 : cu + mc ≤ K.1.cells) (h2 : su + ms ≤ K.1.slots) (kr : ∀ v, r = Sum.inl v → zkW l G i K (cu + mc) (su + ms) nx ls (v.toList ++ st) f) (kx : ∀ E, r = Sum.inr E → zkX l G i K (cu + mc) (su + ms) pc ls E f) : zkW l G i K cu su pc ls stk mem :=
  m_callS hd hn hk hc hst ha hw hf hlo h1 h2 (fun v _ h => by obtain ⟨e1, e2⟩ := h; subst e2; exact kr v e1.symm) (fun E _ h => by obtain ⟨e1, e2⟩ := h; subst e2; exact kx E e1.symm)
theorem m_cvf {idx d mc ms n t j : Nat} {ne : Bool} {as stk : List zkV} {r : zkO} (hd : (iT i).lookup pc = some (.invokevirtual idx, nx)) (hn : nx = pc + 3) (hk : zkLk (iO i) idx ci false ne n) (hc : zkCt l G ci d mc ms (vr t j :: as) mem (zkRf r f)) (hst : stk = as.reverse ++ vr t j :: st) (hj : j < cnt t) (ht : t < 8) (ho : iO ci = t) (ha : as.length = n) (hw : (st.map catV).sum ≤ 8) (hf : d + 1 ≤ K.1.frames) (hlo : 40 * d + 119 + iL ci ≤ K.1.locals) (h1 : cu + mc ≤ K.1.cells) (h2 : su + ms ≤ K.1.slots) (kr : ∀ v, r = Sum.inl v → zkW l G i K (cu + mc) (su + ms) nx ls (v.toList ++ st) f) (kx : ∀ E, r = Sum.inr E → zkX l G i K (cu + mc) (su + ms) pc ls E f) : zkW l G i K cu su pc ls stk mem :=
  m_callV hd hn hk hc hst hj ht ho ha hw hf hlo h1 h2 (fun v _ h => by obtain ⟨e1, e2⟩ := h; subst e2; exact kr v e1.symm) (fun E _ h => by obtain ⟨e1, e2⟩ := h; subst e2; exact kx E e1.symm)
/-- a truth value is written -/
theorem m_pz1 {t j k idx : Nat} (hd : (iT i).lookup pc = some (.putfield idx, nx)) (hn : nx = pc + 3) (hi : idx < 1000) (hf : zkFl (iO i) idx = some (t, k)) (hr : rfo t j k = none) (hfin : (zkT t k).2.2.2 = false) (hty : zkty t k = .boolean) (hj : j < cnt t) (kk : zkW l G i K cu su nx ls st (mset mem t j k 1)) : zkW l G i K cu su pc ls (vi 1 :: vr t j :: st) mem := m_pz (b := true) hd hn hi hf hr hfin hty hj kk
theorem m_pz0 {t j k idx : Nat} (hd : (iT i).lookup pc = some (.putfield idx, nx)) (hn : nx = pc + 3) (hi : idx < 1000) (hf : zkFl (iO i) idx = some (t, k)) (hr : rfo t j k = none) (hfin : (zkT t k).2.2.2 = false) (hty : zkty t k = .boolean) (hj : j < cnt t) (kk : zkW l G i K cu su nx ls st (mset mem t j k 0)) : zkW l G i K cu su pc ls (vi 0 :: vr t j :: st) mem := m_pz (b := false) hd hn hi hf hr hfin hty hj kk
theorem m_pzx {t j k idx : Nat} {x : Int} (hd : (iT i).lookup pc = some (.putfield idx, nx)) (hn : nx = pc + 3) (hi : idx < 1000) (hf : zkFl (iO i) idx = some (t, k)) (hr : rfo t j k = none) (hfin : (zkT t k).2.2.2 = false) (hty : zkty t k = .boolean) (hj : j < cnt t) (hx : x = 0 ∨ x = 1) (kk : zkW l G i K cu su nx ls st (mset mem t j k x)) : zkW l G i K cu su pc ls (vi x :: vr t j :: st) mem := by
  rcases hx with rfl | rfl
  · exact m_pz0 hd hn hi hf hr hfin hty hj kk
  · exact m_pz1 hd hn hi hf hr hfin hty hj kk
end ZHELP
/-- n rounds of a loop -/
def lp {σ : Type} (f : Nat → σ → σ) : Nat → σ → σ
  | 0, s => s
  | n + 1, s => f n (lp f n s)
theorem zk_loop {σ : Type} (P : Nat → σ → Prop) (I : Nat → σ → Prop) (f : Nat → σ → σ) (n : Nat) (s0 : σ) (h0 : I 0 s0) (hI : ∀ j s, j < n → I j s → I (j + 1) (f j s)) (hs : ∀ j s, j < n → I j s → P (j + 1) (f j s) → P j s) (he : I n (lp f n s0) → P n (lp f n s0)) : P 0 s0 := by
  have hi : ∀ j, j ≤ n → I j (lp f j s0) := by
    intro j
    induction j with
    | zero => intro _; exact h0
    | succ j ih => intro hj; exact hI j _ (by omega) (ih (by omega))
  have key : ∀ k j, j + k = n → P j (lp f j s0) := by
    intro k
    induction k with
    | zero => intro j hj; rw [show j = n by omega]; exact he (hi n (Nat.le_refl n))
    | succ k ih => intro j hj; exact hs j _ (by omega) (hi j (by omega)) (ih (j + 1) (by omega))
  exact key n 0 (by omega)
/-- the invariant alone -/
theorem lp_inv {σ : Type} (I : Nat → σ → Prop) (f : Nat → σ → σ) (n : Nat) (s0 : σ) (h0 : I 0 s0) (hI : ∀ j s, j < n → I j s → I (j + 1) (f j s)) : I n (lp f n s0) := by
  have hi : ∀ j, j ≤ n → I j (lp f j s0) := by
    intro j
    induction j with
    | zero => intro _; exact h0
    | succ j ih => intro hj; exact hI j _ (by omega) (ih (by omega))
  exact hi n (Nat.le_refl n)
theorem ms_s (m : zkM) (t i k : Nat) (x : Int) : mset m t i k x t i k = x := by simp [mset]
theorem ms_t {t t' : Nat} (h : t' ≠ t) (m : zkM) (i k : Nat) (x : Int) (i' k' : Nat) : mset m t i k x t' i' k' = m t' i' k' := by simp [mset, h]
theorem ms_i {i i' : Nat} (h : i' ≠ i) (m : zkM) (t k : Nat) (x : Int) (t' k' : Nat) : mset m t i k x t' i' k' = m t' i' k' := by simp [mset, h]
theorem ms_k {k k' : Nat} (h : k' ≠ k) (m : zkM) (t i : Nat) (x : Int) (t' i' : Nat) : mset m t i k x t' i' k' = m t' i' k' := by simp [mset, h]
theorem mrow_s (m : zkM) (t i : Nat) (f : Nat → Int) (k : Nat) : mrow m t i f t i k = f k := by simp [mrow]
theorem mrow_t {t t' : Nat} (h : t' ≠ t) (m : zkM) (i : Nat) (f : Nat → Int) (i' k' : Nat) : mrow m t i f t' i' k' = m t' i' k' := by simp [mrow, h]
theorem mrow_i {i i' : Nat} (h : i' ≠ i) (m : zkM) (t : Nat) (f : Nat → Int) (t' k' : Nat) : mrow m t i f t' i' k' = m t' i' k' := by simp [mrow, h]
section ZNAT
variable {l : Launch} {G : zkG} {i : zkI} {K : zkK} {cu su pc nx : Nat} {ls : List (Option zkV)} {st : List zkV} {mem : zkM}
theorem m_ialn {t j n : Nat} {x : Int} (hd : (iT i).lookup pc = some (.iaload, nx)) (hn : nx = pc + 1) (h8 : 8 ≤ t) (hk : akd t = 0) (hj : j < cnt t) (hx : x = (n : Int)) (h1 : n < aln t) (kk : zkW l G i K cu su nx ls (vi (mem t j n) :: st) mem) : zkW l G i K cu su pc ls (vi x :: vr t j :: st) mem :=
  m_iald hd hn h8 hk hj (by omega) (by omega) (by rw [show x.toNat = n by omega]; exact kk)
theorem m_caln {t j n : Nat} {x : Int} (hd : (iT i).lookup pc = some (.caload, nx)) (hn : nx = pc + 1) (h8 : 8 ≤ t) (hk : akd t = 1) (hj : j < cnt t) (hx : x = (n : Int)) (h1 : n < aln t) (kk : zkW l G i K cu su nx ls (vi (mem t j n) :: st) mem) : zkW l G i K cu su pc ls (vi x :: vr t j :: st) mem :=
  m_cald hd hn h8 hk hj (by omega) (by omega) (by rw [show x.toNat = n by omega]; exact kk)
theorem m_iasn {t j n : Nat} {x y : Int} (hd : (iT i).lookup pc = some (.iastore, nx)) (hn : nx = pc + 1) (h8 : 8 ≤ t) (hk : akd t = 0) (hj : j < cnt t) (hx : x = (n : Int)) (h1 : n < aln t) (kk : zkW l G i K cu su nx ls st (mset mem t j n y)) : zkW l G i K cu su pc ls (vi y :: vi x :: vr t j :: st) mem :=
  m_iast hd hn h8 hk hj (by omega) (by omega) (by rw [show x.toNat = n by omega]; exact kk)
theorem m_casn {t j n : Nat} {x y : Int} (hd : (iT i).lookup pc = some (.castore, nx)) (hn : nx = pc + 1) (h8 : 8 ≤ t) (hk : akd t = 1) (hj : j < cnt t) (hx : x = (n : Int)) (h1 : n < aln t) (hy0 : 0 ≤ y) (hy1 : y < 65536) (kk : zkW l G i K cu su nx ls st (mset mem t j n y)) : zkW l G i K cu su pc ls (vi y :: vi x :: vr t j :: st) mem :=
  m_cast hd hn h8 hk hj (by omega) (by omega) hy0 hy1 (by rw [show x.toNat = n by omega]; exact kk)
theorem m_aaln {j n q : Nat} {x : Int} (hd : (iT i).lookup pc = some (.aaload, nx)) (hn : nx = pc + 1) (hj : j < 2) (hx : x = (n : Int)) (h1 : n < 5) (hq : q = 5 * j + n) (kk : zkW l G i K cu su nx ls (vr 5 q :: st) mem) : zkW l G i K cu su pc ls (vi x :: vr 10 j :: st) mem :=
  m_aald hd hn hj (by omega) (by omega) (by rw [show 5 * j + x.toNat = q by omega]; exact kk)
end ZNAT
section ZDEC
variable {l : Launch} {G : zkG} {i : zkI} {K : zkK} {cu su pc nx : Nat} {ls : List (Option zkV)} {st : List zkV} {mem : zkM}
theorem m_if_eq_d {p : Prop} [Decidable p] {off : Int} {tgt : Nat} (hd : (iT i).lookup pc = some (.ifCond .eq off, nx)) (hn : nx = pc + 3) (ht : (pc : Int) + off = (tgt : Int)) (kt : ¬ p → zkW l G i K cu su tgt ls st mem) (kf : p → zkW l G i K cu su nx ls st mem) : zkW l G i K cu su pc ls (vi (b2i (decide p)) :: st) mem :=
  m_if_eq_b hd hn ht (fun h => kt (of_decide_eq_false h)) (fun h => kf (of_decide_eq_true h))
theorem m_if_ne_d {p : Prop} [Decidable p] {off : Int} {tgt : Nat} (hd : (iT i).lookup pc = some (.ifCond .ne off, nx)) (hn : nx = pc + 3) (ht : (pc : Int) + off = (tgt : Int)) (kt : p → zkW l G i K cu su tgt ls st mem) (kf : ¬ p → zkW l G i K cu su nx ls st mem) : zkW l G i K cu su pc ls (vi (b2i (decide p)) :: st) mem :=
  m_if_ne_b hd hn ht (fun h => kt (of_decide_eq_true h)) (fun h => kf (of_decide_eq_false h))
end ZDEC
section ZX
variable {l : Launch} {G : zkG} {i : zkI} {K : zkK} {cu su pc nx : Nat} {ls : List (Option zkV)} {st : List zkV} {mem : zkM}
theorem m_gix {t j k idx : Nat} {x : Int} (hd : (iT i).lookup pc = some (.getfield idx, nx)) (hn : nx = pc + 3) (hi : idx < 1000) (hf : zkFl (iO i) idx = some (t, k)) (hr : rfo t j k = none) (hj : j < cnt t) (hx : mem t j k = x) (kk : zkW l G i K cu su nx ls (vi x :: st) mem) : zkW l G i K cu su pc ls (vr t j :: st) mem :=
  m_gi hd hn hi hf hr hj (by rw [hx]; exact kk)
theorem m_ialx {t j n : Nat} {x y : Int} (hd : (iT i).lookup pc = some (.iaload, nx)) (hn : nx = pc + 1) (h8 : 8 ≤ t) (hk : akd t = 0) (hj : j < cnt t) (hx : x = (n : Int)) (h1 : n < aln t) (hy : mem t j n = y) (kk : zkW l G i K cu su nx ls (vi y :: st) mem) : zkW l G i K cu su pc ls (vi x :: vr t j :: st) mem :=
  m_ialn hd hn h8 hk hj hx h1 (by rw [hy]; exact kk)
theorem m_calx {t j n : Nat} {x y : Int} (hd : (iT i).lookup pc = some (.caload, nx)) (hn : nx = pc + 1) (h8 : 8 ≤ t) (hk : akd t = 1) (hj : j < cnt t) (hx : x = (n : Int)) (h1 : n < aln t) (hy : mem t j n = y) (kk : zkW l G i K cu su nx ls (vi y :: st) mem) : zkW l G i K cu su pc ls (vi x :: vr t j :: st) mem :=
  m_caln hd hn h8 hk hj hx h1 (by rw [hy]; exact kk)
end ZX
end
section
/-! the reference: what it reads of its configuration -/
def moPr (m : zkM) (i : Nat) : Int := m 30 0 (4 * i)
def moPe (m : zkM) (i : Nat) : Int := m 30 0 (4 * i + 1)
def moLe (m : zkM) (i k : Nat) : Int := m 32 0 (2 * (6 * i + k) + 1)
def moRe (m : zkM) (i k : Nat) : Int := m 32 0 (2 * (6 * i + k))
def moN (m : zkM) : Nat := (m 7 0 2).toNat
def moS (m : zkM) (i : Nat) : Nat := (m 31 0 i).toNat
/-- the configuration is in its bounds -/
def moA (m : zkM) : Prop := (0 ≤ m 7 0 2 ∧ m 7 0 2 ≤ 5) ∧ (∀ i, i < 5 → 0 ≤ m 31 0 i ∧ m 31 0 i ≤ 6) ∧ (∀ i, i < 5 → (0 ≤ m 30 0 (4 * i) ∧ m 30 0 (4 * i) ≤ 9) ∧ (0 ≤ m 30 0 (4 * i + 1) ∧ m 30 0 (4 * i + 1) ≤ 60) ∧ (0 ≤ m 30 0 (4 * i + 2) ∧ m 30 0 (4 * i + 2) ≤ 60) ∧ (0 ≤ m 30 0 (4 * i + 3) ∧ m 30 0 (4 * i + 3) ≤ 60)) ∧ (∀ i : Nat, (i : Int) < m 7 0 2 → 1 ≤ m 30 0 (4 * i + 1)) ∧ (∀ i k, i < 5 → k < 6 → (-1 ≤ moRe m i k ∧ moRe m i k ≤ 3) ∧ (0 ≤ moLe m i k ∧ moLe m i k ≤ 9)) ∧ (0 ≤ m 7 0 6 ∧ m 7 0 6 ≤ 9) ∧ (0 ≤ m 7 0 7 ∧ m 7 0 7 ≤ 9) ∧ (0 ≤ m 7 0 8 ∧ m 7 0 8 ≤ 60) ∧ (0 < m 7 0 6 → 1 ≤ m 7 0 8)
theorem moA_n {m : zkM} (h : moA m) : (moN m : Int) = m 7 0 2 ∧ moN m ≤ 5 := by
  have := h.1
  unfold moN
  omega
theorem moA_s {m : zkM} (h : moA m) {i : Nat} (hi : i < 5) : (moS m i : Int) = m 31 0 i ∧ moS m i ≤ 6 := by
  have := h.2.1 i hi
  unfold moS
  omega
theorem moA_p {m : zkM} (h : moA m) {i : Nat} (hi : i < 5) : 0 ≤ moPr m i ∧ moPr m i ≤ 9 := (h.2.2.1 i hi).1
theorem moA_e {m : zkM} (h : moA m) {i : Nat} (hi : i < 5) : 0 ≤ moPe m i ∧ moPe m i ≤ 60 := (h.2.2.1 i hi).2.1
theorem moA_e1 {m : zkM} (h : moA m) {i : Nat} (hi : i < moN m) : 1 ≤ moPe m i := h.2.2.2.1 i (by have := moA_n h; omega)
theorem moA_r {m : zkM} (h : moA m) {i k : Nat} (hi : i < 5) (hk : k < 6) : (-1 ≤ moRe m i k ∧ moRe m i k ≤ 3) ∧ (0 ≤ moLe m i k ∧ moLe m i k ≤ 9) := h.2.2.2.2.1 i k hi hk
theorem dt {p : Prop} [Decidable p] (h : p) : decide p = true := decide_eq_true h
theorem df {p : Prop} [Decidable p] (h : ¬ p) : decide p = false := decide_eq_false h
set_option maxRecDepth 10000 in
theorem c_isIn {l : Launch} {G : zkG} {mem : zkM} (hl : l.stackTraces = false) {x a b : Int} (hx : inR x) (ha : inR a) (hb : inR b) : zkCt l G i_Mo_isIn 0 0 0 [vi x, vi a, vi b] mem (zkR1 (vi (b2i (decide (a ≤ x ∧ x ≤ b)))) mem) := by
  refine zkCt_of hl ok_Mo_isIn (by decide +kernel) rfl rfl (List.forall_mem_cons.mpr ⟨rfl, (List.forall_mem_cons.mpr ⟨rfl, (List.forall_mem_cons.mpr ⟨rfl, fun _ h => nomatch h⟩)⟩)⟩) (Nat.le_of_ble_eq_true rfl) ?_
  refine m_iload_n rfl rfl rfl ?_
  refine m_iload_n rfl rfl rfl ?_
  refine m_icmp_lt (tgt := 14) rfl rfl rfl (by omega) (by omega) (fun c2 => ?_) (fun c2 => ?_)
  · refine m_iconst rfl rfl ?_
    refine m_z0 rfl rfl rfl (Nat.le_of_ble_eq_true rfl) (Nat.le_of_ble_eq_true rfl) ?_
    first | exact ⟨by rw [dt (by omega)], rfl⟩ | exact ⟨by rw [df (by omega)], rfl⟩
  · refine m_iload_n rfl rfl rfl ?_
    refine m_iload_n rfl rfl rfl ?_
    refine m_icmp_gt (tgt := 14) rfl rfl rfl (by omega) (by omega) (fun c7 => ?_) (fun c7 => ?_)
    · refine m_iconst rfl rfl ?_
      refine m_z0 rfl rfl rfl (Nat.le_of_ble_eq_true rfl) (Nat.le_of_ble_eq_true rfl) ?_
      first | exact ⟨by rw [dt (by omega)], rfl⟩ | exact ⟨by rw [df (by omega)], rfl⟩
    · refine m_iconst rfl rfl ?_
      refine m_goto (tgt := 15) rfl rfl rfl ?_
      refine m_z1 rfl rfl rfl (Nat.le_of_ble_eq_true rfl) (Nat.le_of_ble_eq_true rfl) ?_
      first | exact ⟨by rw [dt (by omega)], rfl⟩ | exact ⟨by rw [df (by omega)], rfl⟩

set_option maxRecDepth 10000 in
theorem c_hasServer {l : Launch} {G : zkG} {mem : zkM} (hl : l.stackTraces = false) (hx : inR (mem 7 0 6)) : zkCt l G i_Mo_hasServer 0 0 0 [vr 7 0] mem (zkR1 (vi (b2i (decide (0 < mem 7 0 6)))) mem) := by
  refine zkCt_of hl ok_Mo_hasServer (by decide +kernel) rfl rfl (List.forall_mem_cons.mpr ⟨rfl, fun _ h => nomatch h⟩) (Nat.le_of_ble_eq_true rfl) ?_
  refine m_aload_n rfl rfl rfl ?_
  refine m_gix (k := 6) (x := mem 7 _ 6) rfl rfl (Nat.le_of_ble_eq_true rfl) rfl rfl (by first | decide | assumption | (simp only [cnt]; omega)) rfl ?_
  refine m_if_le (tgt := 11) rfl rfl rfl (by omega) (fun c4 => ?_) (fun c4 => ?_)
  · refine m_iconst rfl rfl ?_
    refine m_z0 rfl rfl rfl (Nat.le_of_ble_eq_true rfl) (Nat.le_of_ble_eq_true rfl) ?_
    first | exact ⟨by rw [dt (by omega)], rfl⟩ | exact ⟨by rw [df (by omega)], rfl⟩
  · refine m_iconst rfl rfl ?_
    refine m_goto (tgt := 12) rfl rfl rfl ?_
    refine m_z1 rfl rfl rfl (Nat.le_of_ble_eq_true rfl) (Nat.le_of_ble_eq_true rfl) ?_
    first | exact ⟨by rw [dt (by omega)], rfl⟩ | exact ⟨by rw [df (by omega)], rfl⟩

set_option maxRecDepth 10000 in
theorem c_isTask {l : Launch} {G : zkG} {mem : zkM} (hl : l.stackTraces = false) {x : Int} (hx : inR x) (hm : 0 ≤ mem 7 0 2 ∧ mem 7 0 2 ≤ 5) : zkCt l G i_Mo_isTask 1 0 0 [vr 7 0, vi x] mem (zkR1 (vi (b2i (decide (0 ≤ x ∧ x ≤ mem 7 0 2 - 1)))) mem) := by
  refine zkCt_of hl ok_Mo_isTask (by decide +kernel) rfl rfl (List.forall_mem_cons.mpr ⟨rfl, (List.forall_mem_cons.mpr ⟨rfl, fun _ h => nomatch h⟩)⟩) (Nat.le_of_ble_eq_true rfl) ?_
  refine m_iload_n rfl rfl rfl ?_
  refine m_iconst rfl rfl ?_
  refine m_aload_n rfl rfl rfl ?_
  refine m_gix (k := 2) (x := mem 7 _ 2) rfl rfl (Nat.le_of_ble_eq_true rfl) rfl rfl (by first | decide | assumption | (simp only [cnt]; omega)) rfl ?_
  refine m_iconst rfl rfl ?_
  refine m_isub rfl rfl ?_
  refine m_cs1 rfl rfl lk_7_75 (c_isIn hl (by omega) (by omega) (by omega)) rfl rfl (Nat.le_of_ble_eq_true rfl) (Nat.le_of_ble_eq_true rfl) (Nat.le_of_ble_eq_true rfl) (Nat.le_of_ble_eq_true rfl) (Nat.le_of_ble_eq_true rfl) ?_
  refine m_zret rfl rfl rfl (Nat.le_of_ble_eq_true rfl) (Nat.le_of_ble_eq_true rfl) ?_
  exact ⟨rfl, rfl⟩

set_option maxRecDepth 10000 in
theorem c_thrown {l : Launch} {G : zkG} {mem : zkM} (hl : l.stackTraces = false) : zkCt l G i_Mo_thrown 0 0 0 [vr 7 0] mem (zkR1 (vi (mem 7 0 0)) mem) := by
  refine zkCt_of hl ok_Mo_thrown (by decide +kernel) rfl rfl (List.forall_mem_cons.mpr ⟨rfl, fun _ h => nomatch h⟩) (Nat.le_of_ble_eq_true rfl) ?_
  refine m_aload_n rfl rfl rfl ?_
  refine m_gix (k := 0) (x := mem 7 _ 0) rfl rfl (Nat.le_of_ble_eq_true rfl) rfl rfl (by first | decide | assumption | (simp only [cnt]; omega)) rfl ?_
  refine m_iret rfl rfl rfl (Nat.le_of_ble_eq_true rfl) (Nat.le_of_ble_eq_true rfl) ?_
  exact ⟨rfl, rfl⟩

set_option maxRecDepth 10000 in
theorem c_fail {l : Launch} {G : zkG} {mem : zkM} (hl : l.stackTraces = false) {x : Int} : zkCt l G i_Mo_fail 0 0 0 [vr 7 0, vi x] mem (zkR1 (vi 0) (mset mem 7 0 0 x)) := by
  refine zkCt_of hl ok_Mo_fail (by decide +kernel) rfl rfl (List.forall_mem_cons.mpr ⟨rfl, (List.forall_mem_cons.mpr ⟨rfl, fun _ h => nomatch h⟩)⟩) (Nat.le_of_ble_eq_true rfl) ?_
  refine m_aload_n rfl rfl rfl ?_
  refine m_iload_n rfl rfl rfl ?_
  refine m_pi (k := 0) rfl rfl (Nat.le_of_ble_eq_true rfl) rfl rfl rfl rfl (by first | decide | assumption | (simp only [cnt]; omega)) ?_
  refine m_iconst rfl rfl ?_
  refine m_iret rfl rfl rfl (Nat.le_of_ble_eq_true rfl) (Nat.le_of_ble_eq_true rfl) ?_
  exact ⟨rfl, rfl⟩

set_option maxRecDepth 10000 in
theorem c_priorityOf {l : Launch} {G : zkG} {mem : zkM} (hl : l.stackTraces = false) {x : Int} {i : Nat} (hx : x = i) (hi : i < 5) : zkCt l G i_Mo_priorityOf 0 0 0 [vr 7 0, vi x] mem (zkR1 (vi (moPr mem i)) mem) := by
  refine zkCt_of hl ok_Mo_priorityOf (by decide +kernel) rfl rfl (List.forall_mem_cons.mpr ⟨rfl, (List.forall_mem_cons.mpr ⟨rfl, fun _ h => nomatch h⟩)⟩) (Nat.le_of_ble_eq_true rfl) ?_
  refine m_aload_n rfl rfl rfl ?_
  refine m_gr (k := 3) rfl rfl (Nat.le_of_ble_eq_true rfl) rfl rfl (by first | decide | assumption | (simp only [cnt]; omega)) ?_
  refine m_iconst rfl rfl ?_
  refine m_iload_n rfl rfl rfl ?_
  refine m_imul rfl rfl ?_
  refine m_ialx (n := 4 * i) (y := mem 30 _ (4 * i)) rfl rfl (Nat.le_of_ble_eq_true rfl) rfl (by first | decide | assumption | (simp only [cnt]; omega)) (by omega) (by simp only [aln]; omega) rfl ?_
  refine m_iret rfl rfl rfl (Nat.le_of_ble_eq_true rfl) (Nat.le_of_ble_eq_true rfl) ?_
  exact ⟨rfl, rfl⟩

set_option maxRecDepth 10000 in
theorem c_periodOf {l : Launch} {G : zkG} {mem : zkM} (hl : l.stackTraces = false) {x : Int} {i : Nat} (hx : x = i) (hi : i < 5) : zkCt l G i_Mo_periodOf 0 0 0 [vr 7 0, vi x] mem (zkR1 (vi (moPe mem i)) mem) := by
  refine zkCt_of hl ok_Mo_periodOf (by decide +kernel) rfl rfl (List.forall_mem_cons.mpr ⟨rfl, (List.forall_mem_cons.mpr ⟨rfl, fun _ h => nomatch h⟩)⟩) (Nat.le_of_ble_eq_true rfl) ?_
  refine m_aload_n rfl rfl rfl ?_
  refine m_gr (k := 3) rfl rfl (Nat.le_of_ble_eq_true rfl) rfl rfl (by first | decide | assumption | (simp only [cnt]; omega)) ?_
  refine m_iconst rfl rfl ?_
  refine m_iload_n rfl rfl rfl ?_
  refine m_imul rfl rfl ?_
  refine m_iconst rfl rfl ?_
  refine m_iadd rfl rfl ?_
  refine m_ialx (n := 4 * i + 1) (y := mem 30 _ (4 * i + 1)) rfl rfl (Nat.le_of_ble_eq_true rfl) rfl (by first | decide | assumption | (simp only [cnt]; omega)) (by omega) (by simp only [aln]; omega) rfl ?_
  refine m_iret rfl rfl rfl (Nat.le_of_ble_eq_true rfl) (Nat.le_of_ble_eq_true rfl) ?_
  exact ⟨rfl, rfl⟩

set_option maxRecDepth 10000 in
theorem c_lengthAt {l : Launch} {G : zkG} {mem : zkM} (hl : l.stackTraces = false) {x y : Int} {i k : Nat} (hx : x = i) (hy : y = k) (hi : i < 5) (hk : k < 6) : zkCt l G i_Mo_lengthAt 0 0 0 [vr 7 0, vi x, vi y] mem (zkR1 (vi (moLe mem i k)) mem) := by
  refine zkCt_of hl ok_Mo_lengthAt (by decide +kernel) rfl rfl (List.forall_mem_cons.mpr ⟨rfl, (List.forall_mem_cons.mpr ⟨rfl, (List.forall_mem_cons.mpr ⟨rfl, fun _ h => nomatch h⟩)⟩)⟩) (Nat.le_of_ble_eq_true rfl) ?_
  refine m_aload_n rfl rfl rfl ?_
  refine m_gr (k := 5) rfl rfl (Nat.le_of_ble_eq_true rfl) rfl rfl (by first | decide | assumption | (simp only [cnt]; omega)) ?_
  refine m_iconst rfl rfl ?_
  refine m_bipush rfl rfl (by decide) ?_
  refine m_iload_n rfl rfl rfl ?_
  refine m_imul rfl rfl ?_
  refine m_iload_n rfl rfl rfl ?_
  refine m_iadd rfl rfl ?_
  refine m_imul rfl rfl ?_
  refine m_iconst rfl rfl ?_
  refine m_iadd rfl rfl ?_
  refine m_ialx (n := 2 * (6 * i + k) + 1) (y := mem 32 _ (2 * (6 * i + k) + 1)) rfl rfl (Nat.le_of_ble_eq_true rfl) rfl (by first | decide | assumption | (simp only [cnt]; omega)) (by omega) (by simp only [aln]; omega) rfl ?_
  refine m_iret rfl rfl rfl (Nat.le_of_ble_eq_true rfl) (Nat.le_of_ble_eq_true rfl) ?_
  exact ⟨rfl, rfl⟩

set_option maxRecDepth 10000 in
theorem c_resourceAt {l : Launch} {G : zkG} {mem : zkM} (hl : l.stackTraces = false) {x y : Int} {i k : Nat} (hx : x = i) (hy : y = k) (hi : i < 5) (hk : k < 6) : zkCt l G i_Mo_resourceAt 0 0 0 [vr 7 0, vi x, vi y] mem (zkR1 (vi (moRe mem i k)) mem) := by
  refine zkCt_of hl ok_Mo_resourceAt (by decide +kernel) rfl rfl (List.forall_mem_cons.mpr ⟨rfl, (List.forall_mem_cons.mpr ⟨rfl, (List.forall_mem_cons.mpr ⟨rfl, fun _ h => nomatch h⟩)⟩)⟩) (Nat.le_of_ble_eq_true rfl) ?_
  refine m_aload_n rfl rfl rfl ?_
  refine m_gr (k := 5) rfl rfl (Nat.le_of_ble_eq_true rfl) rfl rfl (by first | decide | assumption | (simp only [cnt]; omega)) ?_
  refine m_iconst rfl rfl ?_
  refine m_bipush rfl rfl (by decide) ?_
  refine m_iload_n rfl rfl rfl ?_
  refine m_imul rfl rfl ?_
  refine m_iload_n rfl rfl rfl ?_
  refine m_iadd rfl rfl ?_
  refine m_imul rfl rfl ?_
  refine m_ialx (n := 2 * (6 * i + k)) (y := mem 32 _ (2 * (6 * i + k))) rfl rfl (Nat.le_of_ble_eq_true rfl) rfl (by first | decide | assumption | (simp only [cnt]; omega)) (by omega) (by simp only [aln]; omega) rfl ?_
  refine m_iret rfl rfl rfl (Nat.le_of_ble_eq_true rfl) (Nat.le_of_ble_eq_true rfl) ?_
  exact ⟨rfl, rfl⟩

def moDe (m : zkM) (i : Nat) : Int := lp (fun k s => s + moLe m i k) (moS m i) 0
theorem moDe_b {m : zkM} (h : moA m) {i : Nat} (hi : i < 5) : 0 ≤ moDe m i ∧ moDe m i ≤ 54 := by
  have h2 := moA_s h hi
  have := lp_inv (fun j s => 0 ≤ s ∧ s ≤ 9 * (j : Int)) (fun k s => s + moLe m i k) (moS m i) (0 : Int) (by omega) (fun j s hj hs => by
    have := (moA_r h hi (k := j) (by omega)).2
    omega)
  unfold moDe
  omega
set_option maxRecDepth 10000 in
theorem c_demandOf {l : Launch} {G : zkG} {mem : zkM} (hl : l.stackTraces = false) {x : Int} {i : Nat} (hA : moA mem) (hx : x = i) (hi : i < 5) : zkCt l G i_Mo_demandOf 1 0 0 [vr 7 0, vi x] mem (zkR1 (vi (moDe mem i)) mem) := by
  refine zkCt_of hl ok_Mo_demandOf (by decide +kernel) rfl rfl (List.forall_mem_cons.mpr ⟨rfl, (List.forall_mem_cons.mpr ⟨rfl, fun _ h => nomatch h⟩)⟩) (Nat.le_of_ble_eq_true rfl) ?_
  subst hx
  have hs := moA_s hA hi
  refine m_iconst rfl rfl ?_
  refine m_istore_n rfl rfl (Nat.le_of_ble_eq_true rfl) rfl ?_
  refine m_iconst rfl rfl ?_
  refine m_istore_n rfl rfl (Nat.le_of_ble_eq_true rfl) rfl ?_
  refine zk_loop (P := fun (j : Nat) (s : Int) => zkW l G i_Mo_demandOf _ 0 0 4 [some (vr 7 0), some (vi i), some (vi s), some (vi j)] [] mem) (I := fun j s => 0 ≤ s ∧ s ≤ 9 * (j : Int)) (fun k s => s + moLe mem i k) (moS mem i) 0 (by omega) (fun j s hj hI => ?_) (fun j s hj hI hk => ?_) (fun hI => ?_)
  · have := (moA_r hA hi (k := j) (by omega)).2
    omega
  · refine m_iload_n rfl rfl rfl ?_
    refine m_aload_n rfl rfl rfl ?_
    refine m_gr (k := 4) rfl rfl (Nat.le_of_ble_eq_true rfl) rfl rfl (by first | decide | assumption | (simp only [cnt]; omega)) ?_
    refine m_iload_n rfl rfl rfl ?_
    refine m_ialx (n := i) (y := mem 31 _ (i)) rfl rfl (Nat.le_of_ble_eq_true rfl) rfl (by first | decide | assumption | (simp only [cnt]; omega)) (by omega) (by simp only [aln]; omega) rfl ?_
    refine m_icmp_ge (tgt := 29) rfl rfl rfl (by omega) (by omega) (fun c11 => ?_) (fun c11 => ?_)
    · exfalso; omega
    · refine m_iload_n rfl rfl rfl ?_
      refine m_aload_n rfl rfl rfl ?_
      refine m_iload_n rfl rfl rfl ?_
      refine m_iload_n rfl rfl rfl ?_
      refine m_cv1 rfl rfl lk_7_79 (c_lengthAt hl (i := _) (k := _) rfl rfl (by omega) (by omega)) rfl (by first | decide | assumption | (simp only [cnt]; omega)) (Nat.le_of_ble_eq_true rfl) rfl rfl (Nat.le_of_ble_eq_true rfl) (Nat.le_of_ble_eq_true rfl) (Nat.le_of_ble_eq_true rfl) (Nat.le_of_ble_eq_true rfl) (Nat.le_of_ble_eq_true rfl) ?_
      refine m_iadd rfl rfl ?_
      refine m_istore_n rfl rfl (Nat.le_of_ble_eq_true rfl) rfl ?_
      refine m_iinc rfl rfl rfl (Nat.le_of_ble_eq_true rfl) rfl ?_
      refine m_goto (tgt := 4) rfl rfl rfl ?_
      exact hk
  · refine m_iload_n rfl rfl rfl ?_
    refine m_aload_n rfl rfl rfl ?_
    refine m_gr (k := 4) rfl rfl (Nat.le_of_ble_eq_true rfl) rfl rfl (by first | decide | assumption | (simp only [cnt]; omega)) ?_
    refine m_iload_n rfl rfl rfl ?_
    refine m_ialx (n := i) (y := mem 31 _ (i)) rfl rfl (Nat.le_of_ble_eq_true rfl) rfl (by first | decide | assumption | (simp only [cnt]; omega)) (by omega) (by simp only [aln]; omega) rfl ?_
    refine m_icmp_ge (tgt := 29) rfl rfl rfl (by omega) (by omega) (fun c11 => ?_) (fun c11 => ?_)
    · refine m_iload_n rfl rfl rfl ?_
      refine m_iret rfl rfl rfl (Nat.le_of_ble_eq_true rfl) (Nat.le_of_ble_eq_true rfl) ?_
      exact ⟨rfl, rfl⟩
    · exfalso; omega

theorem zk_fg {l : Launch} {G : zkG} {i : zkI} {K : zkK} {cu su pc : Nat} {ls : List (Option zkV)} {st : List zkV} {mem : zkM} (n : Nat) (k : zkW l G i K cu su pc (ls.set n none) st mem) : zkW l G i K cu su pc ls st mem := by
  intro p e s m args below meth c C H locs a hP hS hl
  refine k p e s m args below meth c C H locs a hP hS ⟨hl.1, hl.2.1, fun x v hx => hl.2.2 x v ?_⟩
  rw [List.getElem?_set] at hx
  split at hx
  · split at hx <;> cases hx
  · exact hx
def moTk (m : zkM) (p : Int) : Bool := lp (fun k s => s || decide (moPr m k = p)) (moN m) false
set_option maxRecDepth 10000 in
theorem c_isTaken {l : Launch} {G : zkG} {mem : zkM} (hl : l.stackTraces = false) {p : Int} (hA : moA mem) (hp : inR p) : zkCt l G i_Mo_isTaken 1 0 0 [vr 7 0, vi p] mem (zkR1 (vi (b2i (moTk mem p))) mem) := by
  refine zkCt_of hl ok_Mo_isTaken (by decide +kernel) rfl rfl (List.forall_mem_cons.mpr ⟨rfl, (List.forall_mem_cons.mpr ⟨rfl, fun _ h => nomatch h⟩)⟩) (Nat.le_of_ble_eq_true rfl) ?_
  have hn := moA_n hA
  refine m_iconst rfl rfl ?_
  refine m_istore_n rfl rfl (Nat.le_of_ble_eq_true rfl) rfl ?_
  refine m_iconst rfl rfl ?_
  refine m_istore_n rfl rfl (Nat.le_of_ble_eq_true rfl) rfl ?_
  refine zk_loop (P := fun (j : Nat) (s : Bool) => zkW l G i_Mo_isTaken _ 0 0 4 [some (vr 7 0), some (vi p), some (vi (b2i s)), some (vi j)] [] mem) (I := fun _ _ => True) (fun k s => s || decide (moPr mem k = p)) (moN mem) false trivial (fun _ _ _ _ => trivial) (fun j s hj _ hk => ?_) (fun _ => ?_)
  · have hp2 := moA_p hA (i := j) (by omega)
    refine m_iload_n rfl rfl rfl ?_
    refine m_aload_n rfl rfl rfl ?_
    refine m_gix (k := 2) (x := mem 7 _ 2) rfl rfl (Nat.le_of_ble_eq_true rfl) rfl rfl (by first | decide | assumption | (simp only [cnt]; omega)) rfl ?_
    refine m_icmp_ge (tgt := 37) rfl rfl rfl (by omega) (by omega) (fun c9 => ?_) (fun c9 => ?_)
    · exfalso; omega
    · refine m_iload_n rfl rfl rfl ?_
      refine m_if_ne_b (tgt := 25) rfl rfl rfl (fun c13 => ?_) (fun c13 => ?_)
      · refine m_iconst rfl rfl ?_
        refine m_goto (tgt := 30) rfl rfl rfl ?_
        refine m_istore_n rfl rfl (Nat.le_of_ble_eq_true rfl) rfl ?_
        refine m_iinc rfl rfl rfl (Nat.le_of_ble_eq_true rfl) rfl ?_
        refine m_goto (tgt := 4) rfl rfl rfl ?_
        first | (subst c13; rw [dt c22] at hk; exact hk) | (subst c13; rw [df c22] at hk; exact hk) | (subst c13; exact hk)
      · refine m_aload_n rfl rfl rfl ?_
        refine m_iload_n rfl rfl rfl ?_
        refine m_cv1 rfl rfl lk_7_110 (c_priorityOf hl (i := _) rfl (by omega)) rfl (by first | decide | assumption | (simp only [cnt]; omega)) (Nat.le_of_ble_eq_true rfl) rfl rfl (Nat.le_of_ble_eq_true rfl) (Nat.le_of_ble_eq_true rfl) (Nat.le_of_ble_eq_true rfl) (Nat.le_of_ble_eq_true rfl) (Nat.le_of_ble_eq_true rfl) ?_
        refine m_iload_n rfl rfl rfl ?_
        refine m_icmp_ne (tgt := 29) rfl rfl rfl (by omega) (by omega) (fun c22 => ?_) (fun c22 => ?_)
        · refine m_iconst rfl rfl ?_
          refine m_istore_n rfl rfl (Nat.le_of_ble_eq_true rfl) rfl ?_
          refine m_iinc rfl rfl rfl (Nat.le_of_ble_eq_true rfl) rfl ?_
          refine m_goto (tgt := 4) rfl rfl rfl ?_
          first | (subst c13; rw [dt c22] at hk; exact hk) | (subst c13; rw [df c22] at hk; exact hk) | (subst c13; exact hk)
        · refine m_iconst rfl rfl ?_
          refine m_goto (tgt := 30) rfl rfl rfl ?_
          refine m_istore_n rfl rfl (Nat.le_of_ble_eq_true rfl) rfl ?_
          refine m_iinc rfl rfl rfl (Nat.le_of_ble_eq_true rfl) rfl ?_
          refine m_goto (tgt := 4) rfl rfl rfl ?_
          first | (subst c13; rw [dt c22] at hk; exact hk) | (subst c13; rw [df c22] at hk; exact hk) | (subst c13; exact hk)
  · refine m_iload_n rfl rfl rfl ?_
    refine m_aload_n rfl rfl rfl ?_
    refine m_gix (k := 2) (x := mem 7 _ 2) rfl rfl (Nat.le_of_ble_eq_true rfl) rfl rfl (by first | decide | assumption | (simp only [cnt]; omega)) rfl ?_
    refine m_icmp_ge (tgt := 37) rfl rfl rfl (by omega) (by omega) (fun c9 => ?_) (fun c9 => ?_)
    · refine m_iload_n rfl rfl rfl ?_
      refine m_zret rfl rfl rfl (Nat.le_of_ble_eq_true rfl) (Nat.le_of_ble_eq_true rfl) ?_
      exact ⟨rfl, rfl⟩
    · exfalso; omega

def moCi (m : zkM) (r : Int) (i : Nat) (s : Int) : Int := lp (fun k s => if moRe m i k = r then max s (moPr m i) else s) (moS m i) s
def moCe (m : zkM) (r : Int) : Int := lp (fun i s => moCi m r i s) (moN m) 0
theorem moCi_b {m : zkM} (h : moA m) (r : Int) {i : Nat} (hi : i < 5) {s : Int} (hs : 0 ≤ s ∧ s ≤ 9) : 0 ≤ moCi m r i s ∧ moCi m r i s ≤ 9 := by
  unfold moCi
  refine lp_inv (fun _ s => 0 ≤ s ∧ s ≤ 9) _ _ s hs (fun j s hj hs => ?_)
  have := moA_p h hi
  split <;> omega
theorem moCe_b {m : zkM} (h : moA m) (r : Int) : 0 ≤ moCe m r ∧ moCe m r ≤ 9 := by
  have hn := moA_n h
  exact lp_inv (fun _ s => 0 ≤ s ∧ s ≤ 9) (fun i s => moCi m r i s) (moN m) (0 : Int) (by omega) (fun j s hj hs => moCi_b h r (by omega) hs)
set_option maxRecDepth 10000 in
theorem c_ceilingOf {l : Launch} {G : zkG} {mem : zkM} (hl : l.stackTraces = false) {r : Int} (hA : moA mem) (hr : inR r) : zkCt l G i_Mo_ceilingOf 1 0 0 [vr 7 0, vi r] mem (zkR1 (vi (moCe mem r)) mem) := by
  refine zkCt_of hl ok_Mo_ceilingOf (by decide +kernel) rfl rfl (List.forall_mem_cons.mpr ⟨rfl, (List.forall_mem_cons.mpr ⟨rfl, fun _ h => nomatch h⟩)⟩) (Nat.le_of_ble_eq_true rfl) ?_
  have hn := moA_n hA
  refine m_iconst rfl rfl ?_
  refine m_istore_n rfl rfl (Nat.le_of_ble_eq_true rfl) rfl ?_
  refine m_iconst rfl rfl ?_
  refine m_istore_n rfl rfl (Nat.le_of_ble_eq_true rfl) rfl ?_
  refine zk_loop (P := fun (j : Nat) (s : Int) => zkW l G i_Mo_ceilingOf _ 0 0 4 [some (vr 7 0), some (vi r), some (vi s), some (vi j), none] [] mem) (I := fun _ s => 0 ≤ s ∧ s ≤ 9) (fun i s => moCi mem r i s) (moN mem) 0 (by omega) (fun j s hj hI => moCi_b hA r (by omega) hI) (fun j s hj hI hk => ?_) (fun _ => ?_)
  · have hs := moA_s hA (i := j) (by omega)
    have hp := moA_p hA (i := j) (by omega)
    refine m_iload_n rfl rfl rfl ?_
    refine m_aload_n rfl rfl rfl ?_
    refine m_gix (k := 2) (x := mem 7 _ 2) rfl rfl (Nat.le_of_ble_eq_true rfl) rfl rfl (by first | decide | assumption | (simp only [cnt]; omega)) rfl ?_
    refine m_icmp_ge (tgt := 63) rfl rfl rfl (by omega) (by omega) (fun c9 => ?_) (fun c9 => ?_)
    · exfalso; omega
    · refine m_iconst rfl rfl ?_
      refine m_istore rfl rfl (Nat.le_of_ble_eq_true rfl) rfl ?_
      refine zk_loop (P := fun (k : Nat) (s : Int) => zkW l G i_Mo_ceilingOf _ 0 0 15 [some (vr 7 0), some (vi r), some (vi s), some (vi j), some (vi k)] [] mem) (I := fun _ s => 0 ≤ s ∧ s ≤ 9) (fun k s => if moRe mem j k = r then max s (moPr mem j) else s) (moS mem j) s hI (fun k s hk hI => ?_) (fun k s hk hI hq => ?_) (fun _ => ?_)
      · split <;> omega
      · have hr2 := (moA_r hA (i := j) (k := k) (by omega) (by omega)).1
        refine m_iload rfl rfl rfl ?_
        refine m_aload_n rfl rfl rfl ?_
        refine m_gr (k := 4) rfl rfl (Nat.le_of_ble_eq_true rfl) rfl rfl (by first | decide | assumption | (simp only [cnt]; omega)) ?_
        refine m_iload_n rfl rfl rfl ?_
        refine m_ialx (n := j) (y := mem 31 _ (j)) rfl rfl (Nat.le_of_ble_eq_true rfl) rfl (by first | decide | assumption | (simp only [cnt]; omega)) (by omega) (by simp only [aln]; omega) rfl ?_
        refine m_icmp_ge (tgt := 57) rfl rfl rfl (by omega) (by omega) (fun c23 => ?_) (fun c23 => ?_)
        · exfalso; omega
        · refine m_aload_n rfl rfl rfl ?_
          refine m_iload_n rfl rfl rfl ?_
          refine m_iload rfl rfl rfl ?_
          refine m_cv1 rfl rfl lk_7_134 (c_resourceAt hl (i := _) (k := _) rfl rfl (by omega) (by omega)) rfl (by first | decide | assumption | (simp only [cnt]; omega)) (Nat.le_of_ble_eq_true rfl) rfl rfl (Nat.le_of_ble_eq_true rfl) (Nat.le_of_ble_eq_true rfl) (Nat.le_of_ble_eq_true rfl) (Nat.le_of_ble_eq_true rfl) (Nat.le_of_ble_eq_true rfl) ?_
          refine m_iload_n rfl rfl rfl ?_
          refine m_icmp_ne (tgt := 49) rfl rfl rfl (by omega) (by omega) (fun c34 => ?_) (fun c34 => ?_)
          · refine m_iload_n rfl rfl rfl ?_
            refine m_istore_n rfl rfl (Nat.le_of_ble_eq_true rfl) rfl ?_
            refine m_iinc rfl rfl rfl (Nat.le_of_ble_eq_true rfl) rfl ?_
            refine m_goto (tgt := 15) rfl rfl rfl ?_
            first | (rw [if_pos c34] at hq; exact hq) | (rw [if_neg c34] at hq; exact hq)
          · refine m_iload_n rfl rfl rfl ?_
            refine m_aload_n rfl rfl rfl ?_
            refine m_iload_n rfl rfl rfl ?_
            refine m_cv1 rfl rfl lk_7_110 (c_priorityOf hl (i := _) rfl (by omega)) rfl (by first | decide | assumption | (simp only [cnt]; omega)) (Nat.le_of_ble_eq_true rfl) rfl rfl (Nat.le_of_ble_eq_true rfl) (Nat.le_of_ble_eq_true rfl) (Nat.le_of_ble_eq_true rfl) (Nat.le_of_ble_eq_true rfl) (Nat.le_of_ble_eq_true rfl) ?_
            refine m_max rfl rfl (by decide +kernel) (by omega) (by omega) (Nat.le_of_ble_eq_true rfl) (Nat.le_of_ble_eq_true rfl) (Nat.le_of_ble_eq_true rfl) (Nat.le_of_ble_eq_true rfl) ?_
            refine m_goto (tgt := 50) rfl rfl rfl ?_
            refine m_istore_n rfl rfl (Nat.le_of_ble_eq_true rfl) rfl ?_
            refine m_iinc rfl rfl rfl (Nat.le_of_ble_eq_true rfl) rfl ?_
            refine m_goto (tgt := 15) rfl rfl rfl ?_
            first | (rw [if_pos c34] at hq; exact hq) | (rw [if_neg c34] at hq; exact hq)
      · refine m_iload rfl rfl rfl ?_
        refine m_aload_n rfl rfl rfl ?_
        refine m_gr (k := 4) rfl rfl (Nat.le_of_ble_eq_true rfl) rfl rfl (by first | decide | assumption | (simp only [cnt]; omega)) ?_
        refine m_iload_n rfl rfl rfl ?_
        refine m_ialx (n := j) (y := mem 31 _ (j)) rfl rfl (Nat.le_of_ble_eq_true rfl) rfl (by first | decide | assumption | (simp only [cnt]; omega)) (by omega) (by simp only [aln]; omega) rfl ?_
        refine m_icmp_ge (tgt := 57) rfl rfl rfl (by omega) (by omega) (fun c23 => ?_) (fun c23 => ?_)
        · refine m_iinc rfl rfl rfl (Nat.le_of_ble_eq_true rfl) rfl ?_
          refine m_goto (tgt := 4) rfl rfl rfl ?_
          refine zk_fg 4 ?_
          exact hk
        · exfalso; omega
  · refine m_iload_n rfl rfl rfl ?_
    refine m_aload_n rfl rfl rfl ?_
    refine m_gix (k := 2) (x := mem 7 _ 2) rfl rfl (Nat.le_of_ble_eq_true rfl) rfl rfl (by first | decide | assumption | (simp only [cnt]; omega)) rfl ?_
    refine m_icmp_ge (tgt := 63) rfl rfl rfl (by omega) (by omega) (fun c9 => ?_) (fun c9 => ?_)
    · refine m_iload_n rfl rfl rfl ?_
      refine m_iret rfl rfl rfl (Nat.le_of_ble_eq_true rfl) (Nat.le_of_ble_eq_true rfl) ?_
      exact ⟨rfl, rfl⟩
    · exfalso; omega

def moBf (m : zkM) (i o k : Nat) (s : Int) : Int := if moRe m o k ≠ -1 ∧ moPr m i ≤ moCe m (moRe m o k) then max s (moLe m o k - 1) else s
def moBi (m : zkM) (i o : Nat) (s : Int) : Int := lp (fun k s => moBf m i o k s) (if moPr m o < moPr m i then moS m o else 0) s
def moBl (m : zkM) (i : Nat) : Int := lp (fun o s => moBi m i o s) (moN m) 0
theorem moBf_b {m : zkM} (h : moA m) (i : Nat) {o k : Nat} (ho : o < 5) (hk : k < 6) {s : Int} (hs : 0 ≤ s ∧ s ≤ 8) : 0 ≤ moBf m i o k s ∧ moBf m i o k s ≤ 8 := by
  have := (moA_r h ho hk).2
  unfold moBf
  split <;> omega
theorem moBi_b {m : zkM} (h : moA m) (i : Nat) {o : Nat} (ho : o < 5) {s : Int} (hs : 0 ≤ s ∧ s ≤ 8) : 0 ≤ moBi m i o s ∧ moBi m i o s ≤ 8 := by
  have h2 := moA_s h ho
  unfold moBi
  refine lp_inv (fun _ s => 0 ≤ s ∧ s ≤ 8) _ _ s hs (fun j s hj hs => moBf_b h i ho ?_ hs)
  split at hj <;> omega
theorem moBl_b {m : zkM} (h : moA m) (i : Nat) : 0 ≤ moBl m i ∧ moBl m i ≤ 8 := by
  have hn := moA_n h
  exact lp_inv (fun _ s => 0 ≤ s ∧ s ≤ 8) (fun o s => moBi m i o s) (moN m) (0 : Int) (by omega) (fun j s hj hs => moBi_b h i (by omega) hs)
set_option maxRecDepth 10000 in
theorem c_blockingOf {l : Launch} {G : zkG} {mem : zkM} (hl : l.stackTraces = false) {x : Int} {i : Nat} (hA : moA mem) (hx : x = i) (hi : i < 5) : zkCt l G i_Mo_blockingOf 2 0 0 [vr 7 0, vi x] mem (zkR1 (vi (moBl mem i)) mem) := by
  refine zkCt_of hl ok_Mo_blockingOf (by decide +kernel) rfl rfl (List.forall_mem_cons.mpr ⟨rfl, (List.forall_mem_cons.mpr ⟨rfl, fun _ h => nomatch h⟩)⟩) (Nat.le_of_ble_eq_true rfl) ?_
  subst hx
  have hn := moA_n hA
  have hpi := moA_p hA hi
  refine m_iconst rfl rfl ?_
  refine m_istore_n rfl rfl (Nat.le_of_ble_eq_true rfl) rfl ?_
  refine m_iconst rfl rfl ?_
  refine m_istore_n rfl rfl (Nat.le_of_ble_eq_true rfl) rfl ?_
  refine zk_loop (P := fun (j : Nat) (s : Int) => zkW l G i_Mo_blockingOf _ 0 0 4 [some (vr 7 0), some (vi i), some (vi s), some (vi j), none, none, none] [] mem) (I := fun _ s => 0 ≤ s ∧ s ≤ 8) (fun o s => moBi mem i o s) (moN mem) 0 (by omega) (fun j s hj hI => moBi_b hA i (by omega) hI) (fun j s hj hI hk => ?_) (fun _ => ?_)
  · have hs := moA_s hA (i := j) (by omega)
    have hp := moA_p hA (i := j) (by omega)
    refine m_iload_n rfl rfl rfl ?_
    refine m_aload_n rfl rfl rfl ?_
    refine m_gix (k := 2) (x := mem 7 _ 2) rfl rfl (Nat.le_of_ble_eq_true rfl) rfl rfl (by first | decide | assumption | (simp only [cnt]; omega)) rfl ?_
    refine m_icmp_ge (tgt := 110) rfl rfl rfl (by omega) (by omega) (fun c9 => ?_) (fun c9 => ?_)
    · exfalso; omega
    · refine m_iconst rfl rfl ?_
      refine m_istore rfl rfl (Nat.le_of_ble_eq_true rfl) rfl ?_
      unfold moBi at hk
      refine zk_loop (P := fun (k : Nat) (s : Int) => zkW l G i_Mo_blockingOf _ 0 0 15 [some (vr 7 0), some (vi i), some (vi s), some (vi j), some (vi k), none, none] [] mem) (I := fun _ s => 0 ≤ s ∧ s ≤ 8) (fun k s => moBf mem i j k s) (if moPr mem j < moPr mem i then moS mem j else 0) s hI (fun k s hk hI => moBf_b hA i (by omega) (by split at hk <;> omega) hI) (fun k s hk2 hI hq => ?_) (fun _ => ?_)
      · have hlt : moPr mem j < moPr mem i ∧ k < moS mem j := by split at hk2 <;> omega
        have hr2 := moA_r hA (i := j) (k := k) (by omega) (by omega)
        have hce := moCe_b hA (moRe mem j k)
        unfold moBf at hq
        refine m_iload rfl rfl rfl ?_
        refine m_aload_n rfl rfl rfl ?_
        refine m_gr (k := 4) rfl rfl (Nat.le_of_ble_eq_true rfl) rfl rfl (by first | decide | assumption | (simp only [cnt]; omega)) ?_
        refine m_iload_n rfl rfl rfl ?_
        refine m_ialx (n := j) (y := mem 31 _ (j)) rfl rfl (Nat.le_of_ble_eq_true rfl) rfl (by first | decide | assumption | (simp only [cnt]; omega)) (by omega) (by simp only [aln]; omega) rfl ?_
        refine m_icmp_ge (tgt := 104) rfl rfl rfl (by omega) (by omega) (fun c23 => ?_) (fun c23 => ?_)
        · exfalso; omega
        · refine m_aload_n rfl rfl rfl ?_
          refine m_iload_n rfl rfl rfl ?_
          refine m_cv1 rfl rfl lk_7_110 (c_priorityOf hl (i := _) rfl (by omega)) rfl (by first | decide | assumption | (simp only [cnt]; omega)) (Nat.le_of_ble_eq_true rfl) rfl rfl (Nat.le_of_ble_eq_true rfl) (Nat.le_of_ble_eq_true rfl) (Nat.le_of_ble_eq_true rfl) (Nat.le_of_ble_eq_true rfl) (Nat.le_of_ble_eq_true rfl) ?_
          refine m_aload_n rfl rfl rfl ?_
          refine m_iload_n rfl rfl rfl ?_
          refine m_cv1 rfl rfl lk_7_110 (c_priorityOf hl (i := _) rfl (by omega)) rfl (by first | decide | assumption | (simp only [cnt]; omega)) (Nat.le_of_ble_eq_true rfl) rfl rfl (Nat.le_of_ble_eq_true rfl) (Nat.le_of_ble_eq_true rfl) (Nat.le_of_ble_eq_true rfl) (Nat.le_of_ble_eq_true rfl) (Nat.le_of_ble_eq_true rfl) ?_
          refine m_icmp_ge (tgt := 104) rfl rfl rfl (by omega) (by omega) (fun c36 => ?_) (fun c36 => ?_)
          · exfalso; omega
          · refine m_aload_n rfl rfl rfl ?_
            refine m_iload_n rfl rfl rfl ?_
            refine m_iload rfl rfl rfl ?_
            refine m_cv1 rfl rfl lk_7_134 (c_resourceAt hl (i := _) (k := _) rfl rfl (by omega) (by omega)) rfl (by first | decide | assumption | (simp only [cnt]; omega)) (Nat.le_of_ble_eq_true rfl) rfl rfl (Nat.le_of_ble_eq_true rfl) (Nat.le_of_ble_eq_true rfl) (Nat.le_of_ble_eq_true rfl) (Nat.le_of_ble_eq_true rfl) (Nat.le_of_ble_eq_true rfl) ?_
            refine m_istore rfl rfl (Nat.le_of_ble_eq_true rfl) rfl ?_
            refine m_iload rfl rfl rfl ?_
            refine m_iconst rfl rfl ?_
            refine m_icmp_eq (tgt := 72) rfl rfl rfl (by omega) (by omega) (fun c51 => ?_) (fun c51 => ?_)
            · refine m_iconst rfl rfl ?_
              refine m_istore rfl rfl (Nat.le_of_ble_eq_true rfl) rfl ?_
              refine m_iload rfl rfl rfl ?_
              refine m_if_eq (tgt := 96) rfl rfl rfl (by omega) (fun c77 => ?_) (fun c77 => ?_)
              · refine m_iload_n rfl rfl rfl ?_
                refine m_istore_n rfl rfl (Nat.le_of_ble_eq_true rfl) rfl ?_
                refine m_iinc rfl rfl rfl (Nat.le_of_ble_eq_true rfl) rfl ?_
                refine m_goto (tgt := 15) rfl rfl rfl ?_
                refine zk_fg 5 ?_
                refine zk_fg 6 ?_
                first | (rw [if_pos (by omega)] at hq; exact hq) | (rw [if_neg (by omega)] at hq; exact hq)
              · exfalso; omega
            · refine m_aload_n rfl rfl rfl ?_
              refine m_iload rfl rfl rfl ?_
              refine m_cv1 rfl rfl lk_7_142 (c_ceilingOf hl hA (by omega)) rfl (by first | decide | assumption | (simp only [cnt]; omega)) (Nat.le_of_ble_eq_true rfl) rfl rfl (Nat.le_of_ble_eq_true rfl) (Nat.le_of_ble_eq_true rfl) (Nat.le_of_ble_eq_true rfl) (Nat.le_of_ble_eq_true rfl) (Nat.le_of_ble_eq_true rfl) ?_
              refine m_aload_n rfl rfl rfl ?_
              refine m_iload_n rfl rfl rfl ?_
              refine m_cv1 rfl rfl lk_7_110 (c_priorityOf hl (i := _) rfl (by omega)) rfl (by first | decide | assumption | (simp only [cnt]; omega)) (Nat.le_of_ble_eq_true rfl) rfl rfl (Nat.le_of_ble_eq_true rfl) (Nat.le_of_ble_eq_true rfl) (Nat.le_of_ble_eq_true rfl) (Nat.le_of_ble_eq_true rfl) (Nat.le_of_ble_eq_true rfl) ?_
              refine m_icmp_lt (tgt := 72) rfl rfl rfl (by omega) (by omega) (fun c65 => ?_) (fun c65 => ?_)
              · refine m_iconst rfl rfl ?_
                refine m_istore rfl rfl (Nat.le_of_ble_eq_true rfl) rfl ?_
                refine m_iload rfl rfl rfl ?_
                refine m_if_eq (tgt := 96) rfl rfl rfl (by omega) (fun c77 => ?_) (fun c77 => ?_)
                · refine m_iload_n rfl rfl rfl ?_
                  refine m_istore_n rfl rfl (Nat.le_of_ble_eq_true rfl) rfl ?_
                  refine m_iinc rfl rfl rfl (Nat.le_of_ble_eq_true rfl) rfl ?_
                  refine m_goto (tgt := 15) rfl rfl rfl ?_
                  refine zk_fg 5 ?_
                  refine zk_fg 6 ?_
                  first | (rw [if_pos (by omega)] at hq; exact hq) | (rw [if_neg (by omega)] at hq; exact hq)
                · exfalso; omega
              · refine m_iconst rfl rfl ?_
                refine m_goto (tgt := 73) rfl rfl rfl ?_
                refine m_istore rfl rfl (Nat.le_of_ble_eq_true rfl) rfl ?_
                refine m_iload rfl rfl rfl ?_
                refine m_if_eq (tgt := 96) rfl rfl rfl (by omega) (fun c77 => ?_) (fun c77 => ?_)
                · exfalso; omega
                · refine m_iload_n rfl rfl rfl ?_
                  refine m_aload_n rfl rfl rfl ?_
                  refine m_iload_n rfl rfl rfl ?_
                  refine m_iload rfl rfl rfl ?_
                  refine m_cv1 rfl rfl lk_7_79 (c_lengthAt hl (i := _) (k := _) rfl rfl (by omega) (by omega)) rfl (by first | decide | assumption | (simp only [cnt]; omega)) (Nat.le_of_ble_eq_true rfl) rfl rfl (Nat.le_of_ble_eq_true rfl) (Nat.le_of_ble_eq_true rfl) (Nat.le_of_ble_eq_true rfl) (Nat.le_of_ble_eq_true rfl) (Nat.le_of_ble_eq_true rfl) ?_
                  refine m_iconst rfl rfl ?_
                  refine m_isub rfl rfl ?_
                  refine m_max rfl rfl (by decide +kernel) (by omega) (by omega) (Nat.le_of_ble_eq_true rfl) (Nat.le_of_ble_eq_true rfl) (Nat.le_of_ble_eq_true rfl) (Nat.le_of_ble_eq_true rfl) ?_
                  refine m_goto (tgt := 97) rfl rfl rfl ?_
                  refine m_istore_n rfl rfl (Nat.le_of_ble_eq_true rfl) rfl ?_
                  refine m_iinc rfl rfl rfl (Nat.le_of_ble_eq_true rfl) rfl ?_
                  refine m_goto (tgt := 15) rfl rfl rfl ?_
                  refine zk_fg 5 ?_
                  refine zk_fg 6 ?_
                  first | (rw [if_pos (by omega)] at hq; exact hq) | (rw [if_neg (by omega)] at hq; exact hq)
      · have hN : (if moPr mem j < moPr mem i then moS mem j else 0) ≤ 6 := by split <;> omega
        refine m_iload rfl rfl rfl ?_
        refine m_aload_n rfl rfl rfl ?_
        refine m_gr (k := 4) rfl rfl (Nat.le_of_ble_eq_true rfl) rfl rfl (by first | decide | assumption | (simp only [cnt]; omega)) ?_
        refine m_iload_n rfl rfl rfl ?_
        refine m_ialx (n := j) (y := mem 31 _ (j)) rfl rfl (Nat.le_of_ble_eq_true rfl) rfl (by first | decide | assumption | (simp only [cnt]; omega)) (by omega) (by simp only [aln]; omega) rfl ?_
        refine m_icmp_ge (tgt := 104) rfl rfl rfl (by omega) (by omega) (fun c23 => ?_) (fun c23 => ?_)
        · refine m_iinc rfl rfl rfl (Nat.le_of_ble_eq_true rfl) rfl ?_
          refine m_goto (tgt := 4) rfl rfl rfl ?_
          refine zk_fg 4 ?_
          exact hk
        · refine m_aload_n rfl rfl rfl ?_
          refine m_iload_n rfl rfl rfl ?_
          refine m_cv1 rfl rfl lk_7_110 (c_priorityOf hl (i := _) rfl (by omega)) rfl (by first | decide | assumption | (simp only [cnt]; omega)) (Nat.le_of_ble_eq_true rfl) rfl rfl (Nat.le_of_ble_eq_true rfl) (Nat.le_of_ble_eq_true rfl) (Nat.le_of_ble_eq_true rfl) (Nat.le_of_ble_eq_true rfl) (Nat.le_of_ble_eq_true rfl) ?_
          refine m_aload_n rfl rfl rfl ?_
          refine m_iload_n rfl rfl rfl ?_
          refine m_cv1 rfl rfl lk_7_110 (c_priorityOf hl (i := _) rfl (by omega)) rfl (by first | decide | assumption | (simp only [cnt]; omega)) (Nat.le_of_ble_eq_true rfl) rfl rfl (Nat.le_of_ble_eq_true rfl) (Nat.le_of_ble_eq_true rfl) (Nat.le_of_ble_eq_true rfl) (Nat.le_of_ble_eq_true rfl) (Nat.le_of_ble_eq_true rfl) ?_
          refine m_icmp_ge (tgt := 104) rfl rfl rfl (by omega) (by omega) (fun c36 => ?_) (fun c36 => ?_)
          · refine m_iinc rfl rfl rfl (Nat.le_of_ble_eq_true rfl) rfl ?_
            refine m_goto (tgt := 4) rfl rfl rfl ?_
            refine zk_fg 4 ?_
            exact hk
          · exfalso
            split at c23 <;> omega
  · refine m_iload_n rfl rfl rfl ?_
    refine m_aload_n rfl rfl rfl ?_
    refine m_gix (k := 2) (x := mem 7 _ 2) rfl rfl (Nat.le_of_ble_eq_true rfl) rfl rfl (by first | decide | assumption | (simp only [cnt]; omega)) rfl ?_
    refine m_icmp_ge (tgt := 110) rfl rfl rfl (by omega) (by omega) (fun c9 => ?_) (fun c9 => ?_)
    · refine m_iload_n rfl rfl rfl ?_
      refine m_iret rfl rfl rfl (Nat.le_of_ble_eq_true rfl) (Nat.le_of_ble_eq_true rfl) ?_
      exact ⟨rfl, rfl⟩
    · exfalso; omega

theorem mul_b {a b A B : Int} (ha : 0 ≤ a ∧ a ≤ A) (hb : 0 ≤ b ∧ b ≤ B) : 0 ≤ a * b ∧ a * b ≤ A * B :=
  ⟨Int.mul_nonneg ha.1 hb.1, Int.mul_le_mul ha.2 hb.2 hb.1 (by omega)⟩
def moQ (a b : Int) : Int := (a + b - 1) / b
theorem moQ_b {a b : Int} (ha : 0 ≤ a) (hb : 1 ≤ b) : 0 ≤ moQ a b ∧ moQ a b ≤ a + b - 1 := ⟨Int.ediv_nonneg (by omega) (by omega), Int.ediv_le_self b (by omega)⟩
set_option maxRecDepth 10000 in
theorem c_quotientUp {l : Launch} {G : zkG} {mem : zkM} (hl : l.stackTraces = false) {a b : Int} (ha : 0 ≤ a ∧ a ≤ 100000) (hb : 1 ≤ b ∧ b ≤ 100000) : zkCt l G i_Mo_quotientUp 0 0 0 [vi a, vi b] mem (zkR1 (vi (moQ a b)) mem) := by
  refine zkCt_of hl ok_Mo_quotientUp (by decide +kernel) rfl rfl (List.forall_mem_cons.mpr ⟨rfl, (List.forall_mem_cons.mpr ⟨rfl, fun _ h => nomatch h⟩)⟩) (Nat.le_of_ble_eq_true rfl) ?_
  refine m_iload_n rfl rfl rfl ?_
  refine m_iload_n rfl rfl rfl ?_
  refine m_iadd rfl rfl ?_
  refine m_iconst rfl rfl ?_
  refine m_isub rfl rfl ?_
  refine m_iload_n rfl rfl rfl ?_
  refine m_idiv rfl rfl (by omega) (by omega) (by omega) (by omega) ?_
  refine m_iret rfl rfl rfl (Nat.le_of_ble_eq_true rfl) (Nat.le_of_ble_eq_true rfl) ?_
  exact ⟨rfl, rfl⟩

def moWf (m : zkM) (i : Nat) (r : Int) (o : Nat) (s : Int) : Int := s + (if moPr m i < moPr m o then moDe m o * moQ r (moPe m o) else 0)
def moWk (m : zkM) (i : Nat) (r : Int) : Int := lp (moWf m i r) (moN m) (moBl m i + moDe m i) + (if moPr m i < m 7 0 6 then m 7 0 7 * moQ r (m 7 0 8) else 0)
theorem moWf_b {m : zkM} (h : moA m) (i : Nat) {r : Int} (hr : 0 ≤ r ∧ r ≤ 1001) {j : Nat} (hj : j < moN m) {s : Int} (hs : 0 ≤ s ∧ s ≤ 62 + 57294 * (j : Int)) : 0 ≤ moWf m i r j s ∧ moWf m i r j s ≤ 62 + 57294 * ((j + 1 : Nat) : Int) := by
  have hn := moA_n h
  have h1 := moDe_b h (i := j) (by omega)
  have h2 := moA_e h (i := j) (by omega)
  have h3 := moA_e1 h hj
  have h4 := moQ_b hr.1 h3
  have h5 := mul_b h1 (B := 1061) (b := moQ r (moPe m j)) (by omega)
  unfold moWf
  split <;> omega
theorem moWs_b {m : zkM} (h : moA m) (i : Nat) (hi : i < 5) {r : Int} (hr : 0 ≤ r ∧ r ≤ 1001) : 0 ≤ (if moPr m i < m 7 0 6 then m 7 0 7 * moQ r (m 7 0 8) else 0) ∧ (if moPr m i < m 7 0 6 then m 7 0 7 * moQ r (m 7 0 8) else 0) ≤ 9549 := by
  obtain ⟨-, -, -, -, -, h6, h7, h8, h9⟩ := id h
  have hp := moA_p h hi
  split
  · next hq =>
    have h4 := moQ_b (b := m 7 0 8) hr.1 (by omega)
    have h5 := mul_b h7 (B := 1061) (b := moQ r (m 7 0 8)) (by omega)
    omega
  · omega
theorem moWl_b {m : zkM} (h : moA m) (i : Nat) (hi : i < 5) {r : Int} (hr : 0 ≤ r ∧ r ≤ 1001) : 0 ≤ lp (moWf m i r) (moN m) (moBl m i + moDe m i) ∧ lp (moWf m i r) (moN m) (moBl m i + moDe m i) ≤ 300000 := by
  have hn := moA_n h
  have h1 := moBl_b h i
  have h2 := moDe_b h hi
  have := lp_inv (fun j s => 0 ≤ s ∧ s ≤ 62 + 57294 * (j : Int)) (moWf m i r) (moN m) (moBl m i + moDe m i) (by omega) (fun j s hj hs => moWf_b h i hr hj hs)
  omega
theorem moWk_b {m : zkM} (h : moA m) (i : Nat) (hi : i < 5) {r : Int} (hr : 0 ≤ r ∧ r ≤ 1001) : 0 ≤ moWk m i r ∧ moWk m i r ≤ 400000 := by
  have h1 := moWl_b h i hi hr
  have h2 := moWs_b h i hi hr
  unfold moWk
  omega
set_option maxRecDepth 10000 in
theorem c_workUpTo {l : Launch} {G : zkG} {mem : zkM} (hl : l.stackTraces = false) {x r : Int} {i : Nat} (hA : moA mem) (hx : x = i) (hi : i < 5) (hr : 0 ≤ r ∧ r ≤ 1001) : zkCt l G i_Mo_workUpTo 3 0 0 [vr 7 0, vi x, vi r] mem (zkR1 (vi (moWk mem i r)) mem) := by
  refine zkCt_of hl ok_Mo_workUpTo (by decide +kernel) rfl rfl (List.forall_mem_cons.mpr ⟨rfl, (List.forall_mem_cons.mpr ⟨rfl, (List.forall_mem_cons.mpr ⟨rfl, fun _ h => nomatch h⟩)⟩)⟩) (Nat.le_of_ble_eq_true rfl) ?_
  subst hx
  have hn := moA_n hA
  have hpi := moA_p hA hi
  have hbl := moBl_b hA i
  have hde := moDe_b hA hi
  obtain ⟨-, -, -, -, -, g6, g7, g8, g9⟩ := id hA
  refine m_aload_n rfl rfl rfl ?_
  refine m_iload_n rfl rfl rfl ?_
  refine m_cv1 rfl rfl lk_7_145 (c_blockingOf hl hA (i := _) rfl (by omega)) rfl (by first | decide | assumption | (simp only [cnt]; omega)) (Nat.le_of_ble_eq_true rfl) rfl rfl (Nat.le_of_ble_eq_true rfl) (Nat.le_of_ble_eq_true rfl) (Nat.le_of_ble_eq_true rfl) (Nat.le_of_ble_eq_true rfl) (Nat.le_of_ble_eq_true rfl) ?_
  refine m_aload_n rfl rfl rfl ?_
  refine m_iload_n rfl rfl rfl ?_
  refine m_cv1 rfl rfl lk_7_131 (c_demandOf hl hA (i := _) rfl (by omega)) rfl (by first | decide | assumption | (simp only [cnt]; omega)) (Nat.le_of_ble_eq_true rfl) rfl rfl (Nat.le_of_ble_eq_true rfl) (Nat.le_of_ble_eq_true rfl) (Nat.le_of_ble_eq_true rfl) (Nat.le_of_ble_eq_true rfl) (Nat.le_of_ble_eq_true rfl) ?_
  refine m_iadd rfl rfl ?_
  refine m_istore_n rfl rfl (Nat.le_of_ble_eq_true rfl) rfl ?_
  refine m_iconst rfl rfl ?_
  refine m_istore rfl rfl (Nat.le_of_ble_eq_true rfl) rfl ?_
  refine zk_loop (P := fun (j : Nat) (s : Int) => zkW l G i_Mo_workUpTo _ 0 0 15 [some (vr 7 0), some (vi i), some (vi r), some (vi s), some (vi j)] [] mem) (I := fun j s => 0 ≤ s ∧ s ≤ 62 + 57294 * (j : Int)) (moWf mem i r) (moN mem) (moBl mem i + moDe mem i) (by omega) (fun j s hj hI => moWf_b hA i hr hj hI) (fun j s hj hI hk => ?_) (fun hI => ?_)
  · have hp := moA_p hA (i := j) (by omega)
    have he := moA_e hA (i := j) (by omega)
    have he1 := moA_e1 hA hj
    unfold moWf at hk
    refine m_iload rfl rfl rfl ?_
    refine m_aload_n rfl rfl rfl ?_
    refine m_gix (k := 2) (x := mem 7 _ 2) rfl rfl (Nat.le_of_ble_eq_true rfl) rfl rfl (by first | decide | assumption | (simp only [cnt]; omega)) rfl ?_
    refine m_icmp_ge (tgt := 68) rfl rfl rfl (by omega) (by omega) (fun c21 => ?_) (fun c21 => ?_)
    · exfalso; omega
    · refine m_iload_n rfl rfl rfl ?_
      refine m_aload_n rfl rfl rfl ?_
      refine m_iload rfl rfl rfl ?_
      refine m_cv1 rfl rfl lk_7_110 (c_priorityOf hl (i := _) rfl (by omega)) rfl (by first | decide | assumption | (simp only [cnt]; omega)) (Nat.le_of_ble_eq_true rfl) rfl rfl (Nat.le_of_ble_eq_true rfl) (Nat.le_of_ble_eq_true rfl) (Nat.le_of_ble_eq_true rfl) (Nat.le_of_ble_eq_true rfl) (Nat.le_of_ble_eq_true rfl) ?_
      refine m_aload_n rfl rfl rfl ?_
      refine m_iload_n rfl rfl rfl ?_
      refine m_cv1 rfl rfl lk_7_110 (c_priorityOf hl (i := _) rfl (by omega)) rfl (by first | decide | assumption | (simp only [cnt]; omega)) (Nat.le_of_ble_eq_true rfl) rfl rfl (Nat.le_of_ble_eq_true rfl) (Nat.le_of_ble_eq_true rfl) (Nat.le_of_ble_eq_true rfl) (Nat.le_of_ble_eq_true rfl) (Nat.le_of_ble_eq_true rfl) ?_
      refine m_icmp_le (tgt := 59) rfl rfl rfl (by omega) (by omega) (fun c36 => ?_) (fun c36 => ?_)
      · refine m_iconst rfl rfl ?_
        refine m_iadd rfl rfl ?_
        refine m_istore_n rfl rfl (Nat.le_of_ble_eq_true rfl) rfl ?_
        refine m_iinc rfl rfl rfl (Nat.le_of_ble_eq_true rfl) rfl ?_
        refine m_goto (tgt := 15) rfl rfl rfl ?_
        first | (rw [if_pos (by omega)] at hk; exact hk) | (rw [if_neg (by omega)] at hk; exact hk)
      · refine m_aload_n rfl rfl rfl ?_
        refine m_iload rfl rfl rfl ?_
        refine m_cv1 rfl rfl lk_7_131 (c_demandOf hl hA (i := _) rfl (by omega)) rfl (by first | decide | assumption | (simp only [cnt]; omega)) (Nat.le_of_ble_eq_true rfl) rfl rfl (Nat.le_of_ble_eq_true rfl) (Nat.le_of_ble_eq_true rfl) (Nat.le_of_ble_eq_true rfl) (Nat.le_of_ble_eq_true rfl) (Nat.le_of_ble_eq_true rfl) ?_
        refine m_iload_n rfl rfl rfl ?_
        refine m_aload_n rfl rfl rfl ?_
        refine m_iload rfl rfl rfl ?_
        refine m_cv1 rfl rfl lk_7_148 (c_periodOf hl (i := _) rfl (by omega)) rfl (by first | decide | assumption | (simp only [cnt]; omega)) (Nat.le_of_ble_eq_true rfl) rfl rfl (Nat.le_of_ble_eq_true rfl) (Nat.le_of_ble_eq_true rfl) (Nat.le_of_ble_eq_true rfl) (Nat.le_of_ble_eq_true rfl) (Nat.le_of_ble_eq_true rfl) ?_
        refine m_cs1 rfl rfl lk_7_151 (c_quotientUp hl (by omega) (by omega)) rfl rfl (Nat.le_of_ble_eq_true rfl) (Nat.le_of_ble_eq_true rfl) (Nat.le_of_ble_eq_true rfl) (Nat.le_of_ble_eq_true rfl) (Nat.le_of_ble_eq_true rfl) ?_
        refine m_imul rfl rfl ?_
        refine m_goto (tgt := 60) rfl rfl rfl ?_
        refine m_iadd rfl rfl ?_
        refine m_istore_n rfl rfl (Nat.le_of_ble_eq_true rfl) rfl ?_
        refine m_iinc rfl rfl rfl (Nat.le_of_ble_eq_true rfl) rfl ?_
        refine m_goto (tgt := 15) rfl rfl rfl ?_
        first | (rw [if_pos (by omega)] at hk; exact hk) | (rw [if_neg (by omega)] at hk; exact hk)
  · refine m_iload rfl rfl rfl ?_
    refine m_aload_n rfl rfl rfl ?_
    refine m_gix (k := 2) (x := mem 7 _ 2) rfl rfl (Nat.le_of_ble_eq_true rfl) rfl rfl (by first | decide | assumption | (simp only [cnt]; omega)) rfl ?_
    refine m_icmp_ge (tgt := 68) rfl rfl rfl (by omega) (by omega) (fun c21 => ?_) (fun c21 => ?_)
    · refine m_iload_n rfl rfl rfl ?_
      refine m_aload_n rfl rfl rfl ?_
      refine m_gix (k := 6) (x := mem 7 _ 6) rfl rfl (Nat.le_of_ble_eq_true rfl) rfl rfl (by first | decide | assumption | (simp only [cnt]; omega)) rfl ?_
      refine m_aload_n rfl rfl rfl ?_
      refine m_iload_n rfl rfl rfl ?_
      refine m_cv1 rfl rfl lk_7_110 (c_priorityOf hl (i := _) rfl (by omega)) rfl (by first | decide | assumption | (simp only [cnt]; omega)) (Nat.le_of_ble_eq_true rfl) rfl rfl (Nat.le_of_ble_eq_true rfl) (Nat.le_of_ble_eq_true rfl) (Nat.le_of_ble_eq_true rfl) (Nat.le_of_ble_eq_true rfl) (Nat.le_of_ble_eq_true rfl) ?_
      refine m_icmp_le (tgt := 97) rfl rfl rfl (by omega) (by omega) (fun c78 => ?_) (fun c78 => ?_)
      · refine m_iconst rfl rfl ?_
        refine m_iadd rfl rfl ?_
        refine m_iret rfl rfl rfl (Nat.le_of_ble_eq_true rfl) (Nat.le_of_ble_eq_true rfl) ?_
        unfold moWk
        first | (rw [if_pos (by omega)]; exact ⟨rfl, rfl⟩) | (rw [if_neg (by omega)]; exact ⟨rfl, rfl⟩)
      · refine m_aload_n rfl rfl rfl ?_
        refine m_gix (k := 7) (x := mem 7 _ 7) rfl rfl (Nat.le_of_ble_eq_true rfl) rfl rfl (by first | decide | assumption | (simp only [cnt]; omega)) rfl ?_
        refine m_iload_n rfl rfl rfl ?_
        refine m_aload_n rfl rfl rfl ?_
        refine m_gix (k := 8) (x := mem 7 _ 8) rfl rfl (Nat.le_of_ble_eq_true rfl) rfl rfl (by first | decide | assumption | (simp only [cnt]; omega)) rfl ?_
        refine m_cs1 rfl rfl lk_7_151 (c_quotientUp hl (by omega) (by omega)) rfl rfl (Nat.le_of_ble_eq_true rfl) (Nat.le_of_ble_eq_true rfl) (Nat.le_of_ble_eq_true rfl) (Nat.le_of_ble_eq_true rfl) (Nat.le_of_ble_eq_true rfl) ?_
        refine m_imul rfl rfl ?_
        refine m_goto (tgt := 98) rfl rfl rfl ?_
        refine m_iadd rfl rfl ?_
        refine m_iret rfl rfl rfl (Nat.le_of_ble_eq_true rfl) (Nat.le_of_ble_eq_true rfl) ?_
        unfold moWk
        first | (rw [if_pos (by omega)]; exact ⟨rfl, rfl⟩) | (rw [if_neg (by omega)]; exact ⟨rfl, rfl⟩)
    · exfalso; omega

def moBdf (m : zkM) (i : Nat) : Nat → Int → Int
  | 0, _ => -1
  | k + 1, r => if moWk m i r = r then r else moBdf m i k (r + 1)
def moBd (m : zkM) (i : Nat) : Int := moBdf m i 1000 1
theorem moBdf_b {m : zkM} {i : Nat} : ∀ (k : Nat) (r : Int), 1 ≤ r → r + k = 1001 → -1 ≤ moBdf m i k r ∧ moBdf m i k r ≤ 1000 ∧ moBdf m i k r ≠ 0
  | 0, _, _, _ => by unfold moBdf; omega
  | k + 1, r, h1, h2 => by
    unfold moBdf
    split
    · omega
    · exact moBdf_b k (r + 1) (by omega) (by omega)
theorem moBd_b (m : zkM) (i : Nat) : -1 ≤ moBd m i ∧ moBd m i ≤ 1000 ∧ moBd m i ≠ 0 := moBdf_b 1000 1 (by omega) (by omega)
set_option maxRecDepth 10000 in
theorem w_boundOf {l : Launch} {G : zkG} {mem : zkM} (hl : l.stackTraces = false) {i : Nat} (hA : moA mem) (hi : i < 5) : ∀ (k : Nat) (r : Int), 1 ≤ r → r + k = 1001 → zkW l G i_Mo_boundOf (zkKm G 4 0 0 (zkR1 (vi (moBdf mem i k r)) mem)) 0 0 2 [some (vr 7 0), some (vi i), some (vi r)] [] mem := by
  intro k
  induction k with
  | zero =>
    intro r h1 h2
    refine m_iload_n rfl rfl rfl ?_
    refine m_sipush rfl rfl (by decide) ?_
    refine m_icmp_gt (tgt := 25) rfl rfl rfl (by omega) (by omega) (fun c6 => ?_) (fun c6 => ?_)
    · refine m_iload_n rfl rfl rfl ?_
      refine m_sipush rfl rfl (by decide) ?_
      refine m_icmp_le (tgt := 36) rfl rfl rfl (by omega) (by omega) (fun c29 => ?_) (fun c29 => ?_)
      · exfalso; omega
      · refine m_iconst rfl rfl ?_
        refine m_goto (tgt := 37) rfl rfl rfl ?_
        refine m_iret rfl rfl rfl (Nat.le_of_ble_eq_true rfl) (Nat.le_of_ble_eq_true rfl) ?_
        exact ⟨rfl, rfl⟩
    · exfalso; omega
  | succ k ih =>
    intro r h1 h2
    have hw := moWk_b hA i hi (r := r) (by omega)
    refine m_iload_n rfl rfl rfl ?_
    refine m_sipush rfl rfl (by decide) ?_
    refine m_icmp_gt (tgt := 25) rfl rfl rfl (by omega) (by omega) (fun c6 => ?_) (fun c6 => ?_)
    · exfalso; omega
    · refine m_aload_n rfl rfl rfl ?_
      refine m_iload_n rfl rfl rfl ?_
      refine m_iload_n rfl rfl rfl ?_
      refine m_cv1 rfl rfl lk_7_154 (c_workUpTo hl hA (i := _) rfl (by omega) (by omega)) rfl (by first | decide | assumption | (simp only [cnt]; omega)) (Nat.le_of_ble_eq_true rfl) rfl rfl (Nat.le_of_ble_eq_true rfl) (Nat.le_of_ble_eq_true rfl) (Nat.le_of_ble_eq_true rfl) (Nat.le_of_ble_eq_true rfl) (Nat.le_of_ble_eq_true rfl) ?_
      refine m_iload_n rfl rfl rfl ?_
      refine m_icmp_eq (tgt := 25) rfl rfl rfl (by omega) (by omega) (fun c16 => ?_) (fun c16 => ?_)
      · refine m_iload_n rfl rfl rfl ?_
        refine m_sipush rfl rfl (by decide) ?_
        refine m_icmp_le (tgt := 36) rfl rfl rfl (by omega) (by omega) (fun c29 => ?_) (fun c29 => ?_)
        · refine m_iload_n rfl rfl rfl ?_
          refine m_iret rfl rfl rfl (Nat.le_of_ble_eq_true rfl) (Nat.le_of_ble_eq_true rfl) ?_
          unfold moBdf
          rw [if_pos c16]
          exact ⟨rfl, rfl⟩
        · exfalso; omega
      · refine m_iinc rfl rfl rfl (Nat.le_of_ble_eq_true rfl) rfl ?_
        refine m_goto (tgt := 2) rfl rfl rfl ?_
        have h3 := ih (r + 1) (by omega) (by omega)
        unfold moBdf
        rw [if_neg c16]
        exact h3

set_option maxRecDepth 10000 in
theorem c_boundOf {l : Launch} {G : zkG} {mem : zkM} (hl : l.stackTraces = false) {x : Int} {i : Nat} (hA : moA mem) (hx : x = i) (hi : i < 5) : zkCt l G i_Mo_boundOf 4 0 0 [vr 7 0, vi x] mem (zkR1 (vi (moBd mem i)) mem) := by
  refine zkCt_of hl ok_Mo_boundOf (by decide +kernel) rfl rfl (List.forall_mem_cons.mpr ⟨rfl, (List.forall_mem_cons.mpr ⟨rfl, fun _ h => nomatch h⟩)⟩) (Nat.le_of_ble_eq_true rfl) ?_
  subst hx
  refine m_iconst rfl rfl ?_
  refine m_istore_n rfl rfl (Nat.le_of_ble_eq_true rfl) rfl ?_
  exact w_boundOf hl hA hi 1000 1 (by omega) (by omega)

def moCf (m : zkM) (i : Nat) (t : Int) (o : Nat) (s : Int) : Int := s + (if moPr m i < moPr m o ∧ t % moPe m o = 0 then moDe m o else 0)
def moCm (m : zkM) (i : Nat) (t : Int) : Int := lp (moCf m i t) (moN m) 0 + (if moPr m i < m 7 0 6 ∧ t % m 7 0 8 = 0 then m 7 0 7 else 0)
theorem moCf_b {m : zkM} (h : moA m) (i : Nat) (t : Int) {j : Nat} (hj : j < moN m) {s : Int} (hs : 0 ≤ s ∧ s ≤ 54 * (j : Int)) : 0 ≤ moCf m i t j s ∧ moCf m i t j s ≤ 54 * ((j + 1 : Nat) : Int) := by
  have hn := moA_n h
  have h1 := moDe_b h (i := j) (by omega)
  unfold moCf
  split <;> omega
theorem moCm_b {m : zkM} (h : moA m) (i : Nat) (t : Int) : 0 ≤ moCm m i t ∧ moCm m i t ≤ 279 := by
  have hn := moA_n h
  have h7 := h.2.2.2.2.2.2.1
  have := lp_inv (fun j s => 0 ≤ s ∧ s ≤ 54 * (j : Int)) (moCf m i t) (moN m) (0 : Int) (by omega) (fun j s hj hs => moCf_b h i t hj hs)
  unfold moCm
  split <;> omega
set_option maxRecDepth 10000 in
theorem c_comes {l : Launch} {G : zkG} {mem : zkM} (hl : l.stackTraces = false) {x t : Int} {i : Nat} (hA : moA mem) (hx : x = i) (hi : i < 5) (ht : 0 ≤ t ∧ t ≤ 1000) : zkCt l G i_Mo_comes 2 0 0 [vr 7 0, vi x, vi t] mem (zkR1 (vi (moCm mem i t)) mem) := by
  refine zkCt_of hl ok_Mo_comes (by decide +kernel) rfl rfl (List.forall_mem_cons.mpr ⟨rfl, (List.forall_mem_cons.mpr ⟨rfl, (List.forall_mem_cons.mpr ⟨rfl, fun _ h => nomatch h⟩)⟩)⟩) (Nat.le_of_ble_eq_true rfl) ?_
  subst hx
  have hn := moA_n hA
  have hpi := moA_p hA hi
  obtain ⟨-, -, -, -, -, g6, g7, g8, g9⟩ := id hA
  refine m_iconst rfl rfl ?_
  refine m_istore_n rfl rfl (Nat.le_of_ble_eq_true rfl) rfl ?_
  refine m_iconst rfl rfl ?_
  refine m_istore rfl rfl (Nat.le_of_ble_eq_true rfl) rfl ?_
  refine zk_loop (P := fun (j : Nat) (s : Int) => zkW l G i_Mo_comes _ 0 0 5 [some (vr 7 0), some (vi i), some (vi t), some (vi s), some (vi j)] [] mem) (I := fun j s => 0 ≤ s ∧ s ≤ 54 * (j : Int)) (moCf mem i t) (moN mem) 0 (by omega) (fun j s hj hI => moCf_b hA i t hj hI) (fun j s hj hI hk => ?_) (fun hI => ?_)
  · have hp := moA_p hA (i := j) (by omega)
    have he := moA_e hA (i := j) (by omega)
    have he1 := moA_e1 hA hj
    have hm := Int.emod_nonneg t (b := moPe mem j) (by omega)
    have hm2 := Int.emod_lt_of_pos t (b := moPe mem j) (by omega)
    unfold moCf at hk
    refine m_iload rfl rfl rfl ?_
    refine m_aload_n rfl rfl rfl ?_
    refine m_gix (k := 2) (x := mem 7 _ 2) rfl rfl (Nat.le_of_ble_eq_true rfl) rfl rfl (by first | decide | assumption | (simp only [cnt]; omega)) rfl ?_
    refine m_icmp_ge (tgt := 58) rfl rfl rfl (by omega) (by omega) (fun c11 => ?_) (fun c11 => ?_)
    · exfalso; omega
    · refine m_iload_n rfl rfl rfl ?_
      refine m_aload_n rfl rfl rfl ?_
      refine m_iload rfl rfl rfl ?_
      refine m_cv1 rfl rfl lk_7_110 (c_priorityOf hl (i := _) rfl (by omega)) rfl (by first | decide | assumption | (simp only [cnt]; omega)) (Nat.le_of_ble_eq_true rfl) rfl rfl (Nat.le_of_ble_eq_true rfl) (Nat.le_of_ble_eq_true rfl) (Nat.le_of_ble_eq_true rfl) (Nat.le_of_ble_eq_true rfl) (Nat.le_of_ble_eq_true rfl) ?_
      refine m_aload_n rfl rfl rfl ?_
      refine m_iload_n rfl rfl rfl ?_
      refine m_cv1 rfl rfl lk_7_110 (c_priorityOf hl (i := _) rfl (by omega)) rfl (by first | decide | assumption | (simp only [cnt]; omega)) (Nat.le_of_ble_eq_true rfl) rfl rfl (Nat.le_of_ble_eq_true rfl) (Nat.le_of_ble_eq_true rfl) (Nat.le_of_ble_eq_true rfl) (Nat.le_of_ble_eq_true rfl) (Nat.le_of_ble_eq_true rfl) ?_
      refine m_icmp_le (tgt := 49) rfl rfl rfl (by omega) (by omega) (fun c26 => ?_) (fun c26 => ?_)
      · refine m_iconst rfl rfl ?_
        refine m_iadd rfl rfl ?_
        refine m_istore_n rfl rfl (Nat.le_of_ble_eq_true rfl) rfl ?_
        refine m_iinc rfl rfl rfl (Nat.le_of_ble_eq_true rfl) rfl ?_
        refine m_goto (tgt := 5) rfl rfl rfl ?_
        first | (rw [if_pos (by omega)] at hk; exact hk) | (rw [if_neg (by omega)] at hk; exact hk)
      · refine m_iload_n rfl rfl rfl ?_
        refine m_aload_n rfl rfl rfl ?_
        refine m_iload rfl rfl rfl ?_
        refine m_cv1 rfl rfl lk_7_148 (c_periodOf hl (i := _) rfl (by omega)) rfl (by first | decide | assumption | (simp only [cnt]; omega)) (Nat.le_of_ble_eq_true rfl) rfl rfl (Nat.le_of_ble_eq_true rfl) (Nat.le_of_ble_eq_true rfl) (Nat.le_of_ble_eq_true rfl) (Nat.le_of_ble_eq_true rfl) (Nat.le_of_ble_eq_true rfl) ?_
        refine m_irem rfl rfl (by omega) (by omega) (by omega) (by omega) ?_
        refine m_if_ne (tgt := 49) rfl rfl rfl (by omega) (fun c37 => ?_) (fun c37 => ?_)
        · refine m_iconst rfl rfl ?_
          refine m_iadd rfl rfl ?_
          refine m_istore_n rfl rfl (Nat.le_of_ble_eq_true rfl) rfl ?_
          refine m_iinc rfl rfl rfl (Nat.le_of_ble_eq_true rfl) rfl ?_
          refine m_goto (tgt := 5) rfl rfl rfl ?_
          first | (rw [if_pos (by omega)] at hk; exact hk) | (rw [if_neg (by omega)] at hk; exact hk)
        · refine m_aload_n rfl rfl rfl ?_
          refine m_iload rfl rfl rfl ?_
          refine m_cv1 rfl rfl lk_7_131 (c_demandOf hl hA (i := _) rfl (by omega)) rfl (by first | decide | assumption | (simp only [cnt]; omega)) (Nat.le_of_ble_eq_true rfl) rfl rfl (Nat.le_of_ble_eq_true rfl) (Nat.le_of_ble_eq_true rfl) (Nat.le_of_ble_eq_true rfl) (Nat.le_of_ble_eq_true rfl) (Nat.le_of_ble_eq_true rfl) ?_
          refine m_goto (tgt := 50) rfl rfl rfl ?_
          refine m_iadd rfl rfl ?_
          refine m_istore_n rfl rfl (Nat.le_of_ble_eq_true rfl) rfl ?_
          refine m_iinc rfl rfl rfl (Nat.le_of_ble_eq_true rfl) rfl ?_
          refine m_goto (tgt := 5) rfl rfl rfl ?_
          first | (rw [if_pos (by omega)] at hk; exact hk) | (rw [if_neg (by omega)] at hk; exact hk)
  · refine m_iload rfl rfl rfl ?_
    refine m_aload_n rfl rfl rfl ?_
    refine m_gix (k := 2) (x := mem 7 _ 2) rfl rfl (Nat.le_of_ble_eq_true rfl) rfl rfl (by first | decide | assumption | (simp only [cnt]; omega)) rfl ?_
    refine m_icmp_ge (tgt := 58) rfl rfl rfl (by omega) (by omega) (fun c11 => ?_) (fun c11 => ?_)
    · refine m_iload_n rfl rfl rfl ?_
      refine m_aload_n rfl rfl rfl ?_
      refine m_gix (k := 6) (x := mem 7 _ 6) rfl rfl (Nat.le_of_ble_eq_true rfl) rfl rfl (by first | decide | assumption | (simp only [cnt]; omega)) rfl ?_
      refine m_aload_n rfl rfl rfl ?_
      refine m_iload_n rfl rfl rfl ?_
      refine m_cv1 rfl rfl lk_7_110 (c_priorityOf hl (i := _) rfl (by omega)) rfl (by first | decide | assumption | (simp only [cnt]; omega)) (Nat.le_of_ble_eq_true rfl) rfl rfl (Nat.le_of_ble_eq_true rfl) (Nat.le_of_ble_eq_true rfl) (Nat.le_of_ble_eq_true rfl) (Nat.le_of_ble_eq_true rfl) (Nat.le_of_ble_eq_true rfl) ?_
      refine m_icmp_le (tgt := 87) rfl rfl rfl (by omega) (by omega) (fun c68 => ?_) (fun c68 => ?_)
      · refine m_iconst rfl rfl ?_
        refine m_iadd rfl rfl ?_
        refine m_iret rfl rfl rfl (Nat.le_of_ble_eq_true rfl) (Nat.le_of_ble_eq_true rfl) ?_
        unfold moCm
        first | (rw [if_pos (by omega)]; exact ⟨rfl, rfl⟩) | (rw [if_neg (by omega)]; exact ⟨rfl, rfl⟩)
      · have hm := Int.emod_nonneg t (b := mem 7 0 8) (by omega)
        have hm2 := Int.emod_lt_of_pos t (b := mem 7 0 8) (by omega)
        refine m_iload_n rfl rfl rfl ?_
        refine m_aload_n rfl rfl rfl ?_
        refine m_gix (k := 8) (x := mem 7 _ 8) rfl rfl (Nat.le_of_ble_eq_true rfl) rfl rfl (by first | decide | assumption | (simp only [cnt]; omega)) rfl ?_
        refine m_irem rfl rfl (by omega) (by omega) (by omega) (by omega) ?_
        refine m_if_ne (tgt := 87) rfl rfl rfl (by omega) (fun c77 => ?_) (fun c77 => ?_)
        · refine m_iconst rfl rfl ?_
          refine m_iadd rfl rfl ?_
          refine m_iret rfl rfl rfl (Nat.le_of_ble_eq_true rfl) (Nat.le_of_ble_eq_true rfl) ?_
          unfold moCm
          first | (rw [if_pos (by omega)]; exact ⟨rfl, rfl⟩) | (rw [if_neg (by omega)]; exact ⟨rfl, rfl⟩)
        · refine m_aload_n rfl rfl rfl ?_
          refine m_gix (k := 7) (x := mem 7 _ 7) rfl rfl (Nat.le_of_ble_eq_true rfl) rfl rfl (by first | decide | assumption | (simp only [cnt]; omega)) rfl ?_
          refine m_goto (tgt := 88) rfl rfl rfl ?_
          refine m_iadd rfl rfl ?_
          refine m_iret rfl rfl rfl (Nat.le_of_ble_eq_true rfl) (Nat.le_of_ble_eq_true rfl) ?_
          unfold moCm
          first | (rw [if_pos (by omega)]; exact ⟨rfl, rfl⟩) | (rw [if_neg (by omega)]; exact ⟨rfl, rfl⟩)
    · exfalso; omega
end
section
/-! the reference: restart, clear, the configuration's methods -/
def moT (m : zkM) (x : Int) : zkM := mset m 7 0 0 x
def moR1 (t : Nat) (s : zkM) : zkM := mset (mset (mset (mset s 36 0 t 0) 37 0 t 0) 38 0 t 0) 40 0 t 0
def moR2 (k : Nat) (s : zkM) : zkM := mset s 39 0 k 0
def moR3 (r : Nat) (s : zkM) : zkM := mset (mset s 41 0 r (s 33 0 (2 * r + 1))) 42 0 r (-1)
def moRm (s : zkM) : zkM := mset (mset (mset (mset s 7 0 19 (s 7 0 7)) 7 0 20 0) 7 0 22 0) 7 0 26 0
def moRs (m : zkM) : zkM := lp moR3 12 (moRm (lp moR2 30 (lp moR1 5 (mset m 7 0 11 0))))
set_option maxRecDepth 10000 in
theorem c_restart {l : Launch} {G : zkG} {mem : zkM} (hl : l.stackTraces = false) : zkCt l G i_Mo_restart 0 0 0 [vr 7 0] mem (zkR0 (moRs mem)) := by
  refine zkCt_of hl ok_Mo_restart (by decide +kernel) rfl rfl (List.forall_mem_cons.mpr ⟨rfl, fun _ h => nomatch h⟩) (Nat.le_of_ble_eq_true rfl) ?_
  refine m_aload_n rfl rfl rfl ?_
  refine m_iconst rfl rfl ?_
  refine m_pi (k := 11) rfl rfl (Nat.le_of_ble_eq_true rfl) rfl rfl rfl rfl (by first | decide | assumption | (simp only [cnt]; omega)) ?_
  refine m_iconst rfl rfl ?_
  refine m_istore_n rfl rfl (Nat.le_of_ble_eq_true rfl) rfl ?_
  refine zk_loop (P := fun (j : Nat) (s : zkM) => zkW l G i_Mo_restart _ 0 0 7 [some (vr 7 0), some (vi j)] [] s) (I := fun _ _ => True) moR1 5 _ trivial (fun _ _ _ _ => trivial) (fun j s hj _ hk => ?_) (fun _ => ?_)
  · refine m_iload_n rfl rfl rfl ?_
    refine m_iconst rfl rfl ?_
    refine m_icmp_ge (tgt := 46) rfl rfl rfl (by omega) (by omega) (fun c9 => ?_) (fun c9 => ?_)
    · exfalso; omega
    · refine m_aload_n rfl rfl rfl ?_
      refine m_gr (k := 14) rfl rfl (Nat.le_of_ble_eq_true rfl) rfl rfl (by first | decide | assumption | (simp only [cnt]; omega)) ?_
      refine m_iload_n rfl rfl rfl ?_
      refine m_iconst rfl rfl ?_
      refine m_iasn (n := j) rfl rfl (Nat.le_of_ble_eq_true rfl) rfl (by first | decide | assumption | (simp only [cnt]; omega)) (by omega) (by simp only [aln]; omega) ?_
      refine m_aload_n rfl rfl rfl ?_
      refine m_gr (k := 15) rfl rfl (Nat.le_of_ble_eq_true rfl) rfl rfl (by first | decide | assumption | (simp only [cnt]; omega)) ?_
      refine m_iload_n rfl rfl rfl ?_
      refine m_iconst rfl rfl ?_
      refine m_iasn (n := j) rfl rfl (Nat.le_of_ble_eq_true rfl) rfl (by first | decide | assumption | (simp only [cnt]; omega)) (by omega) (by simp only [aln]; omega) ?_
      refine m_aload_n rfl rfl rfl ?_
      refine m_gr (k := 16) rfl rfl (Nat.le_of_ble_eq_true rfl) rfl rfl (by first | decide | assumption | (simp only [cnt]; omega)) ?_
      refine m_iload_n rfl rfl rfl ?_
      refine m_iconst rfl rfl ?_
      refine m_iasn (n := j) rfl rfl (Nat.le_of_ble_eq_true rfl) rfl (by first | decide | assumption | (simp only [cnt]; omega)) (by omega) (by simp only [aln]; omega) ?_
      refine m_aload_n rfl rfl rfl ?_
      refine m_gr (k := 18) rfl rfl (Nat.le_of_ble_eq_true rfl) rfl rfl (by first | decide | assumption | (simp only [cnt]; omega)) ?_
      refine m_iload_n rfl rfl rfl ?_
      refine m_iconst rfl rfl ?_
      refine m_iasn (n := j) rfl rfl (Nat.le_of_ble_eq_true rfl) rfl (by first | decide | assumption | (simp only [cnt]; omega)) (by omega) (by simp only [aln]; omega) ?_
      refine m_iinc rfl rfl rfl (Nat.le_of_ble_eq_true rfl) rfl ?_
      refine m_goto (tgt := 7) rfl rfl rfl ?_
      exact hk
  · refine m_iload_n rfl rfl rfl ?_
    refine m_iconst rfl rfl ?_
    refine m_icmp_ge (tgt := 46) rfl rfl rfl (by omega) (by omega) (fun c9 => ?_) (fun c9 => ?_)
    · refine m_iconst rfl rfl ?_
      refine m_istore_n rfl rfl (Nat.le_of_ble_eq_true rfl) rfl ?_
      refine zk_loop (P := fun (j : Nat) (s : zkM) => zkW l G i_Mo_restart _ 0 0 48 [some (vr 7 0), some (vi j)] [] s) (I := fun _ _ => True) moR2 30 _ trivial (fun _ _ _ _ => trivial) (fun j s hj _ hk => ?_) (fun _ => ?_)
      · refine m_iload_n rfl rfl rfl ?_
        refine m_bipush rfl rfl (by decide) ?_
        refine m_icmp_ge (tgt := 67) rfl rfl rfl (by omega) (by omega) (fun c51 => ?_) (fun c51 => ?_)
        · exfalso; omega
        · refine m_aload_n rfl rfl rfl ?_
          refine m_gr (k := 17) rfl rfl (Nat.le_of_ble_eq_true rfl) rfl rfl (by first | decide | assumption | (simp only [cnt]; omega)) ?_
          refine m_iload_n rfl rfl rfl ?_
          refine m_iconst rfl rfl ?_
          refine m_iasn (n := j) rfl rfl (Nat.le_of_ble_eq_true rfl) rfl (by first | decide | assumption | (simp only [cnt]; omega)) (by omega) (by simp only [aln]; omega) ?_
          refine m_iinc rfl rfl rfl (Nat.le_of_ble_eq_true rfl) rfl ?_
          refine m_goto (tgt := 48) rfl rfl rfl ?_
          exact hk
      · refine m_iload_n rfl rfl rfl ?_
        refine m_bipush rfl rfl (by decide) ?_
        refine m_icmp_ge (tgt := 67) rfl rfl rfl (by omega) (by omega) (fun c51 => ?_) (fun c51 => ?_)
        · refine m_aload_n rfl rfl rfl ?_
          refine m_aload_n rfl rfl rfl ?_
          refine m_gi (k := 7) rfl rfl (Nat.le_of_ble_eq_true rfl) rfl rfl (by first | decide | assumption | (simp only [cnt]; omega)) ?_
          refine m_pi (k := 19) rfl rfl (Nat.le_of_ble_eq_true rfl) rfl rfl rfl rfl (by first | decide | assumption | (simp only [cnt]; omega)) ?_
          refine m_aload_n rfl rfl rfl ?_
          refine m_iconst rfl rfl ?_
          refine m_pi (k := 20) rfl rfl (Nat.le_of_ble_eq_true rfl) rfl rfl rfl rfl (by first | decide | assumption | (simp only [cnt]; omega)) ?_
          refine m_aload_n rfl rfl rfl ?_
          refine m_iconst rfl rfl ?_
          refine m_pi (k := 22) rfl rfl (Nat.le_of_ble_eq_true rfl) rfl rfl rfl rfl (by first | decide | assumption | (simp only [cnt]; omega)) ?_
          refine m_aload_n rfl rfl rfl ?_
          refine m_iconst rfl rfl ?_
          refine m_pi (k := 26) rfl rfl (Nat.le_of_ble_eq_true rfl) rfl rfl rfl rfl (by first | decide | assumption | (simp only [cnt]; omega)) ?_
          refine m_iconst rfl rfl ?_
          refine m_istore_n rfl rfl (Nat.le_of_ble_eq_true rfl) rfl ?_
          refine zk_loop (P := fun (j : Nat) (s : zkM) => zkW l G i_Mo_restart _ 0 0 92 [some (vr 7 0), some (vi j)] [] s) (I := fun _ _ => True) moR3 12 _ trivial (fun _ _ _ _ => trivial) (fun j s hj _ hk => ?_) (fun _ => ?_)
          · refine m_iload_n rfl rfl rfl ?_
            refine m_bipush rfl rfl (by decide) ?_
            refine m_icmp_ge (tgt := 127) rfl rfl rfl (by omega) (by omega) (fun c95 => ?_) (fun c95 => ?_)
            · exfalso; omega
            · refine m_aload_n rfl rfl rfl ?_
              refine m_gr (k := 23) rfl rfl (Nat.le_of_ble_eq_true rfl) rfl rfl (by first | decide | assumption | (simp only [cnt]; omega)) ?_
              refine m_iload_n rfl rfl rfl ?_
              refine m_aload_n rfl rfl rfl ?_
              refine m_gr (k := 10) rfl rfl (Nat.le_of_ble_eq_true rfl) rfl rfl (by first | decide | assumption | (simp only [cnt]; omega)) ?_
              refine m_iconst rfl rfl ?_
              refine m_iload_n rfl rfl rfl ?_
              refine m_imul rfl rfl ?_
              refine m_iconst rfl rfl ?_
              refine m_iadd rfl rfl ?_
              refine m_ialx (n := 2 * j + 1) (y := s 33 _ (2 * j + 1)) rfl rfl (Nat.le_of_ble_eq_true rfl) rfl (by first | decide | assumption | (simp only [cnt]; omega)) (by omega) (by simp only [aln]; omega) rfl ?_
              refine m_iasn (n := j) rfl rfl (Nat.le_of_ble_eq_true rfl) rfl (by first | decide | assumption | (simp only [cnt]; omega)) (by omega) (by simp only [aln]; omega) ?_
              refine m_aload_n rfl rfl rfl ?_
              refine m_gr (k := 24) rfl rfl (Nat.le_of_ble_eq_true rfl) rfl rfl (by first | decide | assumption | (simp only [cnt]; omega)) ?_
              refine m_iload_n rfl rfl rfl ?_
              refine m_iconst rfl rfl ?_
              refine m_iasn (n := j) rfl rfl (Nat.le_of_ble_eq_true rfl) rfl (by first | decide | assumption | (simp only [cnt]; omega)) (by omega) (by simp only [aln]; omega) ?_
              refine m_iinc rfl rfl rfl (Nat.le_of_ble_eq_true rfl) rfl ?_
              refine m_goto (tgt := 92) rfl rfl rfl ?_
              exact hk
          · refine m_iload_n rfl rfl rfl ?_
            refine m_bipush rfl rfl (by decide) ?_
            refine m_icmp_ge (tgt := 127) rfl rfl rfl (by omega) (by omega) (fun c95 => ?_) (fun c95 => ?_)
            · refine m_vret rfl rfl rfl (Nat.le_of_ble_eq_true rfl) (Nat.le_of_ble_eq_true rfl) ?_
              exact ⟨rfl, rfl⟩
            · exfalso; omega
        · exfalso; omega
    · exfalso; omega

def moClear (m : zkM) : Int × zkM := (m 7 0 2, moRs (mset (mset (mset (mset (mset (mset m 7 0 0 0) 7 0 1 0) 7 0 2 0) 7 0 6 0) 7 0 7 0) 7 0 9 0))
set_option maxRecDepth 10000 in
theorem c_moclear {l : Launch} {G : zkG} {mem : zkM} (hl : l.stackTraces = false) : zkCt l G i_Mo_clear 1 0 0 [vr 7 0] mem (zkR1 (vi (moClear mem).1) (moClear mem).2) := by
  refine zkCt_of hl ok_Mo_clear (by decide +kernel) rfl rfl (List.forall_mem_cons.mpr ⟨rfl, fun _ h => nomatch h⟩) (Nat.le_of_ble_eq_true rfl) ?_
  refine m_aload_n rfl rfl rfl ?_
  refine m_iconst rfl rfl ?_
  refine m_pi (k := 0) rfl rfl (Nat.le_of_ble_eq_true rfl) rfl rfl rfl rfl (by first | decide | assumption | (simp only [cnt]; omega)) ?_
  refine m_aload_n rfl rfl rfl ?_
  refine m_gix (k := 2) (x := mem 7 _ 2) rfl rfl (Nat.le_of_ble_eq_true rfl) rfl rfl (by first | decide | assumption | (simp only [cnt]; omega)) rfl ?_
  refine m_istore_n rfl rfl (Nat.le_of_ble_eq_true rfl) rfl ?_
  refine m_aload_n rfl rfl rfl ?_
  refine m_iconst rfl rfl ?_
  refine m_pi (k := 1) rfl rfl (Nat.le_of_ble_eq_true rfl) rfl rfl rfl rfl (by first | decide | assumption | (simp only [cnt]; omega)) ?_
  refine m_aload_n rfl rfl rfl ?_
  refine m_iconst rfl rfl ?_
  refine m_pi (k := 2) rfl rfl (Nat.le_of_ble_eq_true rfl) rfl rfl rfl rfl (by first | decide | assumption | (simp only [cnt]; omega)) ?_
  refine m_aload_n rfl rfl rfl ?_
  refine m_iconst rfl rfl ?_
  refine m_pi (k := 6) rfl rfl (Nat.le_of_ble_eq_true rfl) rfl rfl rfl rfl (by first | decide | assumption | (simp only [cnt]; omega)) ?_
  refine m_aload_n rfl rfl rfl ?_
  refine m_iconst rfl rfl ?_
  refine m_pi (k := 7) rfl rfl (Nat.le_of_ble_eq_true rfl) rfl rfl rfl rfl (by first | decide | assumption | (simp only [cnt]; omega)) ?_
  refine m_aload_n rfl rfl rfl ?_
  refine m_iconst rfl rfl ?_
  refine m_pi (k := 9) rfl rfl (Nat.le_of_ble_eq_true rfl) rfl rfl rfl rfl (by first | decide | assumption | (simp only [cnt]; omega)) ?_
  refine m_aload_n rfl rfl rfl ?_
  refine m_cv0 rfl rfl lk_7_107 (c_restart hl) rfl (by first | decide | assumption | (simp only [cnt]; omega)) (Nat.le_of_ble_eq_true rfl) rfl rfl (Nat.le_of_ble_eq_true rfl) (Nat.le_of_ble_eq_true rfl) (Nat.le_of_ble_eq_true rfl) (Nat.le_of_ble_eq_true rfl) (Nat.le_of_ble_eq_true rfl) ?_
  refine m_iload_n rfl rfl rfl ?_
  refine m_iret rfl rfl rfl (Nat.le_of_ble_eq_true rfl) (Nat.le_of_ble_eq_true rfl) ?_
  exact ⟨rfl, rfl⟩

def moAddTask (m : zkM) (p pe dl of : Int) : Int × zkM :=
  if ¬ (1 ≤ p ∧ p ≤ 9) ∨ ¬ (1 ≤ pe ∧ pe ≤ 60) ∨ ¬ (1 ≤ dl ∧ dl ≤ pe) ∨ ¬ (0 ≤ of ∧ of ≤ 60) then (0, mset (mset m 7 0 0 0) 7 0 0 1)
  else if m 7 0 11 ≠ 0 ∨ m 7 0 2 = 5 then (0, mset (mset m 7 0 0 0) 7 0 0 2)
  else if moTk m p = true ∨ m 7 0 6 = p then (0, mset (mset m 7 0 0 0) 7 0 0 3)
  else (m 7 0 2 + 1 - 1, mset (mset (mset (mset (mset (mset (mset m 7 0 0 0) 30 0 (4 * moN m) p) 30 0 (4 * moN m + 1) pe) 30 0 (4 * moN m + 2) dl) 30 0 (4 * moN m + 3) of) 31 0 (moN m) 0) 7 0 2 (m 7 0 2 + 1))
set_option maxRecDepth 10000 in
theorem c_moaddTask {l : Launch} {G : zkG} {mem : zkM} (hl : l.stackTraces = false) {p pe dl of : Int} (hA : moA mem) (hp : inR p) (hpe : inR pe) (hdl : inR dl) (hof : inR of) (hck : inR (mem 7 0 11)) : zkCt l G i_Mo_addTask 2 0 0 [vr 7 0, vi p, vi pe, vi dl, vi of] mem (zkR1 (vi (moAddTask mem p pe dl of).1) (moAddTask mem p pe dl of).2) := by
  refine zkCt_of hl ok_Mo_addTask (by decide +kernel) rfl rfl (List.forall_mem_cons.mpr ⟨rfl, (List.forall_mem_cons.mpr ⟨rfl, (List.forall_mem_cons.mpr ⟨rfl, (List.forall_mem_cons.mpr ⟨rfl, (List.forall_mem_cons.mpr ⟨rfl, fun _ h => nomatch h⟩)⟩)⟩)⟩)⟩) (Nat.le_of_ble_eq_true rfl) ?_
  have hn := moA_n hA
  obtain ⟨-, -, -, -, -, g6, g7, g8, g9⟩ := id hA
  refine m_aload_n rfl rfl rfl ?_
  refine m_iconst rfl rfl ?_
  refine m_pi (k := 0) rfl rfl (Nat.le_of_ble_eq_true rfl) rfl rfl rfl rfl (by first | decide | assumption | (simp only [cnt]; omega)) ?_
  refine m_iload_n rfl rfl rfl ?_
  refine m_iconst rfl rfl ?_
  refine m_bipush rfl rfl (by decide) ?_
  refine m_cs1 rfl rfl lk_7_75 (c_isIn hl (by omega) (by omega) (by omega)) rfl rfl (Nat.le_of_ble_eq_true rfl) (Nat.le_of_ble_eq_true rfl) (Nat.le_of_ble_eq_true rfl) (Nat.le_of_ble_eq_true rfl) (Nat.le_of_ble_eq_true rfl) ?_
  refine m_if_eq_d (tgt := 45) rfl rfl rfl (fun c12 => ?_) (fun c12 => ?_)
  · refine m_aload_n rfl rfl rfl ?_
    refine m_iconst rfl rfl ?_
    refine m_cv1 rfl rfl lk_7_114 (c_fail hl) rfl (by first | decide | assumption | (simp only [cnt]; omega)) (Nat.le_of_ble_eq_true rfl) rfl rfl (Nat.le_of_ble_eq_true rfl) (Nat.le_of_ble_eq_true rfl) (Nat.le_of_ble_eq_true rfl) (Nat.le_of_ble_eq_true rfl) (Nat.le_of_ble_eq_true rfl) ?_
    refine m_iret rfl rfl rfl (Nat.le_of_ble_eq_true rfl) (Nat.le_of_ble_eq_true rfl) ?_
    unfold moAddTask
    rw [if_pos (by omega)]
    exact ⟨rfl, rfl⟩
  · refine m_iload_n rfl rfl rfl ?_
    refine m_iconst rfl rfl ?_
    refine m_bipush rfl rfl (by decide) ?_
    refine m_cs1 rfl rfl lk_7_75 (c_isIn hl (by omega) (by omega) (by omega)) rfl rfl (Nat.le_of_ble_eq_true rfl) (Nat.le_of_ble_eq_true rfl) (Nat.le_of_ble_eq_true rfl) (Nat.le_of_ble_eq_true rfl) (Nat.le_of_ble_eq_true rfl) ?_
    refine m_if_eq_d (tgt := 45) rfl rfl rfl (fun c22 => ?_) (fun c22 => ?_)
    · refine m_aload_n rfl rfl rfl ?_
      refine m_iconst rfl rfl ?_
      refine m_cv1 rfl rfl lk_7_114 (c_fail hl) rfl (by first | decide | assumption | (simp only [cnt]; omega)) (Nat.le_of_ble_eq_true rfl) rfl rfl (Nat.le_of_ble_eq_true rfl) (Nat.le_of_ble_eq_true rfl) (Nat.le_of_ble_eq_true rfl) (Nat.le_of_ble_eq_true rfl) (Nat.le_of_ble_eq_true rfl) ?_
      refine m_iret rfl rfl rfl (Nat.le_of_ble_eq_true rfl) (Nat.le_of_ble_eq_true rfl) ?_
      unfold moAddTask
      rw [if_pos (by omega)]
      exact ⟨rfl, rfl⟩
    · refine m_iload_n rfl rfl rfl ?_
      refine m_iconst rfl rfl ?_
      refine m_iload_n rfl rfl rfl ?_
      refine m_cs1 rfl rfl lk_7_75 (c_isIn hl (by omega) (by omega) (by omega)) rfl rfl (Nat.le_of_ble_eq_true rfl) (Nat.le_of_ble_eq_true rfl) (Nat.le_of_ble_eq_true rfl) (Nat.le_of_ble_eq_true rfl) (Nat.le_of_ble_eq_true rfl) ?_
      refine m_if_eq_d (tgt := 45) rfl rfl rfl (fun c31 => ?_) (fun c31 => ?_)
      · refine m_aload_n rfl rfl rfl ?_
        refine m_iconst rfl rfl ?_
        refine m_cv1 rfl rfl lk_7_114 (c_fail hl) rfl (by first | decide | assumption | (simp only [cnt]; omega)) (Nat.le_of_ble_eq_true rfl) rfl rfl (Nat.le_of_ble_eq_true rfl) (Nat.le_of_ble_eq_true rfl) (Nat.le_of_ble_eq_true rfl) (Nat.le_of_ble_eq_true rfl) (Nat.le_of_ble_eq_true rfl) ?_
        refine m_iret rfl rfl rfl (Nat.le_of_ble_eq_true rfl) (Nat.le_of_ble_eq_true rfl) ?_
        unfold moAddTask
        rw [if_pos (by omega)]
        exact ⟨rfl, rfl⟩
      · refine m_iload rfl rfl rfl ?_
        refine m_iconst rfl rfl ?_
        refine m_bipush rfl rfl (by decide) ?_
        refine m_cs1 rfl rfl lk_7_75 (c_isIn hl (by omega) (by omega) (by omega)) rfl rfl (Nat.le_of_ble_eq_true rfl) (Nat.le_of_ble_eq_true rfl) (Nat.le_of_ble_eq_true rfl) (Nat.le_of_ble_eq_true rfl) (Nat.le_of_ble_eq_true rfl) ?_
        refine m_if_ne_d (tgt := 51) rfl rfl rfl (fun c42 => ?_) (fun c42 => ?_)
        · refine m_aload_n rfl rfl rfl ?_
          refine m_gix (k := 11) (x := mem 7 _ 11) rfl rfl (Nat.le_of_ble_eq_true rfl) rfl rfl (by first | decide | assumption | (simp only [cnt]; omega)) rfl ?_
          refine m_if_ne (tgt := 66) rfl rfl rfl (by omega) (fun c55 => ?_) (fun c55 => ?_)
          · refine m_aload_n rfl rfl rfl ?_
            refine m_iconst rfl rfl ?_
            refine m_cv1 rfl rfl lk_7_114 (c_fail hl) rfl (by first | decide | assumption | (simp only [cnt]; omega)) (Nat.le_of_ble_eq_true rfl) rfl rfl (Nat.le_of_ble_eq_true rfl) (Nat.le_of_ble_eq_true rfl) (Nat.le_of_ble_eq_true rfl) (Nat.le_of_ble_eq_true rfl) (Nat.le_of_ble_eq_true rfl) ?_
            refine m_iret rfl rfl rfl (Nat.le_of_ble_eq_true rfl) (Nat.le_of_ble_eq_true rfl) ?_
            unfold moAddTask
            rw [if_neg (by omega), if_pos (by omega)]
            exact ⟨rfl, rfl⟩
          · refine m_aload_n rfl rfl rfl ?_
            refine m_gix (k := 2) (x := mem 7 _ 2) rfl rfl (Nat.le_of_ble_eq_true rfl) rfl rfl (by first | decide | assumption | (simp only [cnt]; omega)) rfl ?_
            refine m_iconst rfl rfl ?_
            refine m_icmp_ne (tgt := 72) rfl rfl rfl (by omega) (by omega) (fun c63 => ?_) (fun c63 => ?_)
            · refine m_aload_n rfl rfl rfl ?_
              refine m_iload_n rfl rfl rfl ?_
              refine m_cv1 rfl rfl lk_7_117 (show zkCt l G i_Mo_isTaken _ 0 0 _ _ (zkR1 (vi (b2i (moTk mem p))) _) from c_isTaken hl (show moA _ from hA) (by omega)) rfl (by first | decide | assumption | (simp only [cnt]; omega)) (Nat.le_of_ble_eq_true rfl) rfl rfl (Nat.le_of_ble_eq_true rfl) (Nat.le_of_ble_eq_true rfl) (Nat.le_of_ble_eq_true rfl) (Nat.le_of_ble_eq_true rfl) (Nat.le_of_ble_eq_true rfl) ?_
              refine m_if_ne_b (tgt := 88) rfl rfl rfl (fun c77 => ?_) (fun c77 => ?_)
              · refine m_aload_n rfl rfl rfl ?_
                refine m_iconst rfl rfl ?_
                refine m_cv1 rfl rfl lk_7_114 (c_fail hl) rfl (by first | decide | assumption | (simp only [cnt]; omega)) (Nat.le_of_ble_eq_true rfl) rfl rfl (Nat.le_of_ble_eq_true rfl) (Nat.le_of_ble_eq_true rfl) (Nat.le_of_ble_eq_true rfl) (Nat.le_of_ble_eq_true rfl) (Nat.le_of_ble_eq_true rfl) ?_
                refine m_iret rfl rfl rfl (Nat.le_of_ble_eq_true rfl) (Nat.le_of_ble_eq_true rfl) ?_
                unfold moAddTask
                rw [if_neg (by omega), if_neg (by omega), if_pos (by first | exact Or.inl c77 | exact Or.inr c85)]
                exact ⟨rfl, rfl⟩
              · refine m_aload_n rfl rfl rfl ?_
                refine m_gix (k := 6) (x := mem 7 _ 6) rfl rfl (Nat.le_of_ble_eq_true rfl) rfl rfl (by first | decide | assumption | (simp only [cnt]; omega)) rfl ?_
                refine m_iload_n rfl rfl rfl ?_
                refine m_icmp_ne (tgt := 94) rfl rfl rfl (by omega) (by omega) (fun c85 => ?_) (fun c85 => ?_)
                · refine m_aload_n rfl rfl rfl ?_
                  refine m_gr (k := 3) rfl rfl (Nat.le_of_ble_eq_true rfl) rfl rfl (by first | decide | assumption | (simp only [cnt]; omega)) ?_
                  refine m_iconst rfl rfl ?_
                  refine m_aload_n rfl rfl rfl ?_
                  refine m_gix (k := 2) (x := mem 7 _ 2) rfl rfl (Nat.le_of_ble_eq_true rfl) rfl rfl (by first | decide | assumption | (simp only [cnt]; omega)) rfl ?_
                  refine m_imul rfl rfl ?_
                  refine m_iload_n rfl rfl rfl ?_
                  refine m_iasn (n := 4 * moN mem) rfl rfl (Nat.le_of_ble_eq_true rfl) rfl (by first | decide | assumption | (simp only [cnt]; omega)) (by omega) (by simp only [aln]; omega) ?_
                  refine m_aload_n rfl rfl rfl ?_
                  refine m_gr (k := 3) rfl rfl (Nat.le_of_ble_eq_true rfl) rfl rfl (by first | decide | assumption | (simp only [cnt]; omega)) ?_
                  refine m_iconst rfl rfl ?_
                  refine m_aload_n rfl rfl rfl ?_
                  refine m_gix (k := 2) (x := mem 7 _ 2) rfl rfl (Nat.le_of_ble_eq_true rfl) rfl rfl (by first | decide | assumption | (simp only [cnt]; omega)) rfl ?_
                  refine m_imul rfl rfl ?_
                  refine m_iconst rfl rfl ?_
                  refine m_iadd rfl rfl ?_
                  refine m_iload_n rfl rfl rfl ?_
                  refine m_iasn (n := 4 * moN mem + 1) rfl rfl (Nat.le_of_ble_eq_true rfl) rfl (by first | decide | assumption | (simp only [cnt]; omega)) (by omega) (by simp only [aln]; omega) ?_
                  refine m_aload_n rfl rfl rfl ?_
                  refine m_gr (k := 3) rfl rfl (Nat.le_of_ble_eq_true rfl) rfl rfl (by first | decide | assumption | (simp only [cnt]; omega)) ?_
                  refine m_iconst rfl rfl ?_
                  refine m_aload_n rfl rfl rfl ?_
                  refine m_gix (k := 2) (x := mem 7 _ 2) rfl rfl (Nat.le_of_ble_eq_true rfl) rfl rfl (by first | decide | assumption | (simp only [cnt]; omega)) rfl ?_
                  refine m_imul rfl rfl ?_
                  refine m_iconst rfl rfl ?_
                  refine m_iadd rfl rfl ?_
                  refine m_iload_n rfl rfl rfl ?_
                  refine m_iasn (n := 4 * moN mem + 2) rfl rfl (Nat.le_of_ble_eq_true rfl) rfl (by first | decide | assumption | (simp only [cnt]; omega)) (by omega) (by simp only [aln]; omega) ?_
                  refine m_aload_n rfl rfl rfl ?_
                  refine m_gr (k := 3) rfl rfl (Nat.le_of_ble_eq_true rfl) rfl rfl (by first | decide | assumption | (simp only [cnt]; omega)) ?_
                  refine m_iconst rfl rfl ?_
                  refine m_aload_n rfl rfl rfl ?_
                  refine m_gix (k := 2) (x := mem 7 _ 2) rfl rfl (Nat.le_of_ble_eq_true rfl) rfl rfl (by first | decide | assumption | (simp only [cnt]; omega)) rfl ?_
                  refine m_imul rfl rfl ?_
                  refine m_iconst rfl rfl ?_
                  refine m_iadd rfl rfl ?_
                  refine m_iload rfl rfl rfl ?_
                  refine m_iasn (n := 4 * moN mem + 3) rfl rfl (Nat.le_of_ble_eq_true rfl) rfl (by first | decide | assumption | (simp only [cnt]; omega)) (by omega) (by simp only [aln]; omega) ?_
                  refine m_aload_n rfl rfl rfl ?_
                  refine m_gr (k := 4) rfl rfl (Nat.le_of_ble_eq_true rfl) rfl rfl (by first | decide | assumption | (simp only [cnt]; omega)) ?_
                  refine m_aload_n rfl rfl rfl ?_
                  refine m_gix (k := 2) (x := mem 7 _ 2) rfl rfl (Nat.le_of_ble_eq_true rfl) rfl rfl (by first | decide | assumption | (simp only [cnt]; omega)) rfl ?_
                  refine m_iconst rfl rfl ?_
                  refine m_iasn (n := moN mem) rfl rfl (Nat.le_of_ble_eq_true rfl) rfl (by first | decide | assumption | (simp only [cnt]; omega)) (by omega) (by simp only [aln]; omega) ?_
                  refine m_aload_n rfl rfl rfl ?_
                  refine m_dup rfl rfl rfl ?_
                  refine m_gix (k := 2) (x := mem 7 _ 2) rfl rfl (Nat.le_of_ble_eq_true rfl) rfl rfl (by first | decide | assumption | (simp only [cnt]; omega)) rfl ?_
                  refine m_iconst rfl rfl ?_
                  refine m_iadd rfl rfl ?_
                  refine m_pi (k := 2) rfl rfl (Nat.le_of_ble_eq_true rfl) rfl rfl rfl rfl (by first | decide | assumption | (simp only [cnt]; omega)) ?_
                  refine m_aload_n rfl rfl rfl ?_
                  refine m_gi (k := 2) rfl rfl (Nat.le_of_ble_eq_true rfl) rfl rfl (by first | decide | assumption | (simp only [cnt]; omega)) ?_
                  rw [ms_s]
                  refine m_iconst rfl rfl ?_
                  refine m_isub rfl rfl ?_
                  refine m_iret rfl rfl rfl (Nat.le_of_ble_eq_true rfl) (Nat.le_of_ble_eq_true rfl) ?_
                  unfold moAddTask
                  rw [if_neg (by omega), if_neg (by omega), if_neg (by rintro (h | h); (rw [c77] at h; cases h); exact c85 h)]
                  exact ⟨rfl, rfl⟩
                · refine m_aload_n rfl rfl rfl ?_
                  refine m_iconst rfl rfl ?_
                  refine m_cv1 rfl rfl lk_7_114 (c_fail hl) rfl (by first | decide | assumption | (simp only [cnt]; omega)) (Nat.le_of_ble_eq_true rfl) rfl rfl (Nat.le_of_ble_eq_true rfl) (Nat.le_of_ble_eq_true rfl) (Nat.le_of_ble_eq_true rfl) (Nat.le_of_ble_eq_true rfl) (Nat.le_of_ble_eq_true rfl) ?_
                  refine m_iret rfl rfl rfl (Nat.le_of_ble_eq_true rfl) (Nat.le_of_ble_eq_true rfl) ?_
                  unfold moAddTask
                  rw [if_neg (by omega), if_neg (by omega), if_pos (by first | exact Or.inl c77 | exact Or.inr c85)]
                  exact ⟨rfl, rfl⟩
            · refine m_aload_n rfl rfl rfl ?_
              refine m_iconst rfl rfl ?_
              refine m_cv1 rfl rfl lk_7_114 (c_fail hl) rfl (by first | decide | assumption | (simp only [cnt]; omega)) (Nat.le_of_ble_eq_true rfl) rfl rfl (Nat.le_of_ble_eq_true rfl) (Nat.le_of_ble_eq_true rfl) (Nat.le_of_ble_eq_true rfl) (Nat.le_of_ble_eq_true rfl) (Nat.le_of_ble_eq_true rfl) ?_
              refine m_iret rfl rfl rfl (Nat.le_of_ble_eq_true rfl) (Nat.le_of_ble_eq_true rfl) ?_
              unfold moAddTask
              rw [if_neg (by omega), if_pos (by omega)]
              exact ⟨rfl, rfl⟩
        · refine m_aload_n rfl rfl rfl ?_
          refine m_iconst rfl rfl ?_
          refine m_cv1 rfl rfl lk_7_114 (c_fail hl) rfl (by first | decide | assumption | (simp only [cnt]; omega)) (Nat.le_of_ble_eq_true rfl) rfl rfl (Nat.le_of_ble_eq_true rfl) (Nat.le_of_ble_eq_true rfl) (Nat.le_of_ble_eq_true rfl) (Nat.le_of_ble_eq_true rfl) (Nat.le_of_ble_eq_true rfl) ?_
          refine m_iret rfl rfl rfl (Nat.le_of_ble_eq_true rfl) (Nat.le_of_ble_eq_true rfl) ?_
          unfold moAddTask
          rw [if_pos (by omega)]
          exact ⟨rfl, rfl⟩

def moAddSeg (m : zkM) (x r le : Int) : Int × zkM :=
  if ¬ (0 ≤ x ∧ x ≤ m 7 0 2 - 1) then (0, mset m 7 0 0 1)
  else if ¬ (-1 ≤ r ∧ r ≤ 3) ∨ ¬ (1 ≤ le ∧ le ≤ 9) then (0, mset m 7 0 0 2)
  else if m 7 0 11 ≠ 0 ∨ m 31 0 x.toNat = 6 then (0, mset m 7 0 0 3)
  else (m 31 0 x.toNat + 1, mset (mset (mset (mset m 7 0 0 0) 32 0 (2 * (6 * x.toNat + moS m x.toNat)) r) 32 0 (2 * (6 * x.toNat + moS m x.toNat) + 1) le) 31 0 x.toNat (m 31 0 x.toNat + 1))
set_option maxRecDepth 10000 in
theorem c_moaddSegment {l : Launch} {G : zkG} {mem : zkM} (hl : l.stackTraces = false) {x r le : Int} (hA : moA mem) (hx : inR x) (hr : inR r) (hle : inR le) (hck : inR (mem 7 0 11)) : zkCt l G i_Mo_addSegment 2 0 0 [vr 7 0, vi x, vi r, vi le] mem (zkR1 (vi (moAddSeg mem x r le).1) (moAddSeg mem x r le).2) := by
  refine zkCt_of hl ok_Mo_addSegment (by decide +kernel) rfl rfl (List.forall_mem_cons.mpr ⟨rfl, (List.forall_mem_cons.mpr ⟨rfl, (List.forall_mem_cons.mpr ⟨rfl, (List.forall_mem_cons.mpr ⟨rfl, fun _ h => nomatch h⟩)⟩)⟩)⟩) (Nat.le_of_ble_eq_true rfl) ?_
  have hn := moA_n hA
  have hm := hA.1
  refine m_aload_n rfl rfl rfl ?_
  refine m_aload_n rfl rfl rfl ?_
  refine m_iload_n rfl rfl rfl ?_
  refine m_cv1 rfl rfl lk_7_121 (c_isTask hl (by omega) (by omega)) rfl (by first | decide | assumption | (simp only [cnt]; omega)) (Nat.le_of_ble_eq_true rfl) rfl rfl (Nat.le_of_ble_eq_true rfl) (Nat.le_of_ble_eq_true rfl) (Nat.le_of_ble_eq_true rfl) (Nat.le_of_ble_eq_true rfl) (Nat.le_of_ble_eq_true rfl) ?_
  refine m_if_ne_d (tgt := 13) rfl rfl rfl (fun c6 => ?_) (fun c6 => ?_)
  · obtain ⟨i, rfl⟩ : ∃ i : Nat, x = i := ⟨x.toNat, by omega⟩
    have hs := moA_s hA (i := i) (by omega)
    refine m_iload_n rfl rfl rfl ?_
    refine m_iconst rfl rfl ?_
    refine m_iconst rfl rfl ?_
    refine m_cs1 rfl rfl lk_7_75 (c_isIn hl (by omega) (by omega) (by omega)) rfl rfl (Nat.le_of_ble_eq_true rfl) (Nat.le_of_ble_eq_true rfl) (Nat.le_of_ble_eq_true rfl) (Nat.le_of_ble_eq_true rfl) (Nat.le_of_ble_eq_true rfl) ?_
    refine m_if_eq_d (tgt := 32) rfl rfl rfl (fun c19 => ?_) (fun c19 => ?_)
    · refine m_iconst rfl rfl ?_
      refine m_goto (tgt := 59) rfl rfl rfl ?_
      refine m_pi (k := 0) rfl rfl (Nat.le_of_ble_eq_true rfl) rfl rfl rfl rfl (by first | decide | assumption | (simp only [cnt]; omega)) ?_
      refine m_aload_n rfl rfl rfl ?_
      refine m_gix (k := 0) (x := 2) rfl rfl (Nat.le_of_ble_eq_true rfl) rfl rfl (by first | decide | assumption | (simp only [cnt]; omega)) rfl ?_
      refine m_if_eq (tgt := 71) rfl rfl rfl (by omega) (fun c66 => ?_) (fun c66 => ?_)
      · exfalso; omega
      · refine m_iconst rfl rfl ?_
        refine m_iret rfl rfl rfl (Nat.le_of_ble_eq_true rfl) (Nat.le_of_ble_eq_true rfl) ?_
        unfold moAddSeg
        first | (rw [if_pos (by omega)]; exact ⟨rfl, rfl⟩) | (rw [if_neg (by omega), if_pos (by omega)]; exact ⟨rfl, rfl⟩) | (rw [if_neg (by omega), if_neg (by omega), if_pos (by simp only [Int.toNat_natCast]; omega)]; exact ⟨rfl, rfl⟩)
    · refine m_iload_n rfl rfl rfl ?_
      refine m_iconst rfl rfl ?_
      refine m_bipush rfl rfl (by decide) ?_
      refine m_cs1 rfl rfl lk_7_75 (c_isIn hl (by omega) (by omega) (by omega)) rfl rfl (Nat.le_of_ble_eq_true rfl) (Nat.le_of_ble_eq_true rfl) (Nat.le_of_ble_eq_true rfl) (Nat.le_of_ble_eq_true rfl) (Nat.le_of_ble_eq_true rfl) ?_
      refine m_if_ne_d (tgt := 36) rfl rfl rfl (fun c29 => ?_) (fun c29 => ?_)
      · refine m_aload_n rfl rfl rfl ?_
        refine m_gix (k := 11) (x := mem 7 _ 11) rfl rfl (Nat.le_of_ble_eq_true rfl) rfl rfl (by first | decide | assumption | (simp only [cnt]; omega)) rfl ?_
        refine m_if_ne (tgt := 54) rfl rfl rfl (by omega) (fun c40 => ?_) (fun c40 => ?_)
        · refine m_iconst rfl rfl ?_
          refine m_goto (tgt := 59) rfl rfl rfl ?_
          refine m_pi (k := 0) rfl rfl (Nat.le_of_ble_eq_true rfl) rfl rfl rfl rfl (by first | decide | assumption | (simp only [cnt]; omega)) ?_
          refine m_aload_n rfl rfl rfl ?_
          refine m_gix (k := 0) (x := 3) rfl rfl (Nat.le_of_ble_eq_true rfl) rfl rfl (by first | decide | assumption | (simp only [cnt]; omega)) rfl ?_
          refine m_if_eq (tgt := 71) rfl rfl rfl (by omega) (fun c66 => ?_) (fun c66 => ?_)
          · exfalso; omega
          · refine m_iconst rfl rfl ?_
            refine m_iret rfl rfl rfl (Nat.le_of_ble_eq_true rfl) (Nat.le_of_ble_eq_true rfl) ?_
            unfold moAddSeg
            first | (rw [if_pos (by omega)]; exact ⟨rfl, rfl⟩) | (rw [if_neg (by omega), if_pos (by omega)]; exact ⟨rfl, rfl⟩) | (rw [if_neg (by omega), if_neg (by omega), if_pos (by simp only [Int.toNat_natCast]; omega)]; exact ⟨rfl, rfl⟩)
        · refine m_aload_n rfl rfl rfl ?_
          refine m_gr (k := 4) rfl rfl (Nat.le_of_ble_eq_true rfl) rfl rfl (by first | decide | assumption | (simp only [cnt]; omega)) ?_
          refine m_iload_n rfl rfl rfl ?_
          refine m_ialx (n := i) (y := mem 31 _ (i)) rfl rfl (Nat.le_of_ble_eq_true rfl) rfl (by first | decide | assumption | (simp only [cnt]; omega)) (by omega) (by simp only [aln]; omega) rfl ?_
          refine m_bipush rfl rfl (by decide) ?_
          refine m_icmp_ne (tgt := 58) rfl rfl rfl (by omega) (by omega) (fun c51 => ?_) (fun c51 => ?_)
          · refine m_iconst rfl rfl ?_
            refine m_pi (k := 0) rfl rfl (Nat.le_of_ble_eq_true rfl) rfl rfl rfl rfl (by first | decide | assumption | (simp only [cnt]; omega)) ?_
            refine m_aload_n rfl rfl rfl ?_
            refine m_gix (k := 0) (x := 0) rfl rfl (Nat.le_of_ble_eq_true rfl) rfl rfl (by first | decide | assumption | (simp only [cnt]; omega)) rfl ?_
            refine m_if_eq (tgt := 71) rfl rfl rfl (by omega) (fun c66 => ?_) (fun c66 => ?_)
            · refine m_iconst rfl rfl ?_
              refine m_bipush rfl rfl (by decide) ?_
              refine m_iload_n rfl rfl rfl ?_
              refine m_imul rfl rfl ?_
              refine m_aload_n rfl rfl rfl ?_
              refine m_gr (k := 4) rfl rfl (Nat.le_of_ble_eq_true rfl) rfl rfl (by first | decide | assumption | (simp only [cnt]; omega)) ?_
              refine m_iload_n rfl rfl rfl ?_
              refine m_ialx (n := i) (y := mem 31 _ (i)) rfl rfl (Nat.le_of_ble_eq_true rfl) rfl (by first | decide | assumption | (simp only [cnt]; omega)) (by omega) (by simp only [aln]; omega) rfl ?_
              refine m_iadd rfl rfl ?_
              refine m_imul rfl rfl ?_
              refine m_istore rfl rfl (Nat.le_of_ble_eq_true rfl) rfl ?_
              refine m_aload_n rfl rfl rfl ?_
              refine m_gr (k := 5) rfl rfl (Nat.le_of_ble_eq_true rfl) rfl rfl (by first | decide | assumption | (simp only [cnt]; omega)) ?_
              refine m_iload rfl rfl rfl ?_
              refine m_iload_n rfl rfl rfl ?_
              refine m_iasn (n := 2 * (6 * i + moS mem i)) rfl rfl (Nat.le_of_ble_eq_true rfl) rfl (by first | decide | assumption | (simp only [cnt]; omega)) (by omega) (by simp only [aln]; omega) ?_
              refine m_aload_n rfl rfl rfl ?_
              refine m_gr (k := 5) rfl rfl (Nat.le_of_ble_eq_true rfl) rfl rfl (by first | decide | assumption | (simp only [cnt]; omega)) ?_
              refine m_iload rfl rfl rfl ?_
              refine m_iconst rfl rfl ?_
              refine m_iadd rfl rfl ?_
              refine m_iload_n rfl rfl rfl ?_
              refine m_iasn (n := 2 * (6 * i + moS mem i) + 1) rfl rfl (Nat.le_of_ble_eq_true rfl) rfl (by first | decide | assumption | (simp only [cnt]; omega)) (by omega) (by simp only [aln]; omega) ?_
              refine m_aload_n rfl rfl rfl ?_
              refine m_gr (k := 4) rfl rfl (Nat.le_of_ble_eq_true rfl) rfl rfl (by first | decide | assumption | (simp only [cnt]; omega)) ?_
              refine m_iload_n rfl rfl rfl ?_
              refine m_dup2 rfl rfl rfl rfl ?_
              refine m_ialx (n := i) (y := mem 31 _ (i)) rfl rfl (Nat.le_of_ble_eq_true rfl) rfl (by first | decide | assumption | (simp only [cnt]; omega)) (by omega) (by simp only [aln]; omega) rfl ?_
              refine m_iconst rfl rfl ?_
              refine m_iadd rfl rfl ?_
              refine m_iasn (n := i) rfl rfl (Nat.le_of_ble_eq_true rfl) rfl (by first | decide | assumption | (simp only [cnt]; omega)) (by omega) (by simp only [aln]; omega) ?_
              refine m_aload_n rfl rfl rfl ?_
              refine m_gr (k := 4) rfl rfl (Nat.le_of_ble_eq_true rfl) rfl rfl (by first | decide | assumption | (simp only [cnt]; omega)) ?_
              refine m_iload_n rfl rfl rfl ?_
              refine m_ialn (n := i) rfl rfl (Nat.le_of_ble_eq_true rfl) rfl (by first | decide | assumption | (simp only [cnt]; omega)) (by omega) (by simp only [aln]; omega) ?_
              rw [ms_s]
              refine m_iret rfl rfl rfl (Nat.le_of_ble_eq_true rfl) (Nat.le_of_ble_eq_true rfl) ?_
              unfold moAddSeg
              rw [if_neg (by omega), if_neg (by omega), if_neg (by simp only [Int.toNat_natCast]; omega)]
              simp only [Int.toNat_natCast]
              exact ⟨rfl, rfl⟩
            · exfalso; omega
          · refine m_iconst rfl rfl ?_
            refine m_goto (tgt := 59) rfl rfl rfl ?_
            refine m_pi (k := 0) rfl rfl (Nat.le_of_ble_eq_true rfl) rfl rfl rfl rfl (by first | decide | assumption | (simp only [cnt]; omega)) ?_
            refine m_aload_n rfl rfl rfl ?_
            refine m_gix (k := 0) (x := 3) rfl rfl (Nat.le_of_ble_eq_true rfl) rfl rfl (by first | decide | assumption | (simp only [cnt]; omega)) rfl ?_
            refine m_if_eq (tgt := 71) rfl rfl rfl (by omega) (fun c66 => ?_) (fun c66 => ?_)
            · exfalso; omega
            · refine m_iconst rfl rfl ?_
              refine m_iret rfl rfl rfl (Nat.le_of_ble_eq_true rfl) (Nat.le_of_ble_eq_true rfl) ?_
              unfold moAddSeg
              first | (rw [if_pos (by omega)]; exact ⟨rfl, rfl⟩) | (rw [if_neg (by omega), if_pos (by omega)]; exact ⟨rfl, rfl⟩) | (rw [if_neg (by omega), if_neg (by omega), if_pos (by simp only [Int.toNat_natCast]; omega)]; exact ⟨rfl, rfl⟩)
      · refine m_iconst rfl rfl ?_
        refine m_goto (tgt := 59) rfl rfl rfl ?_
        refine m_pi (k := 0) rfl rfl (Nat.le_of_ble_eq_true rfl) rfl rfl rfl rfl (by first | decide | assumption | (simp only [cnt]; omega)) ?_
        refine m_aload_n rfl rfl rfl ?_
        refine m_gix (k := 0) (x := 2) rfl rfl (Nat.le_of_ble_eq_true rfl) rfl rfl (by first | decide | assumption | (simp only [cnt]; omega)) rfl ?_
        refine m_if_eq (tgt := 71) rfl rfl rfl (by omega) (fun c66 => ?_) (fun c66 => ?_)
        · exfalso; omega
        · refine m_iconst rfl rfl ?_
          refine m_iret rfl rfl rfl (Nat.le_of_ble_eq_true rfl) (Nat.le_of_ble_eq_true rfl) ?_
          unfold moAddSeg
          first | (rw [if_pos (by omega)]; exact ⟨rfl, rfl⟩) | (rw [if_neg (by omega), if_pos (by omega)]; exact ⟨rfl, rfl⟩) | (rw [if_neg (by omega), if_neg (by omega), if_pos (by simp only [Int.toNat_natCast]; omega)]; exact ⟨rfl, rfl⟩)
  · refine m_iconst rfl rfl ?_
    refine m_goto (tgt := 59) rfl rfl rfl ?_
    refine m_pi (k := 0) rfl rfl (Nat.le_of_ble_eq_true rfl) rfl rfl rfl rfl (by first | decide | assumption | (simp only [cnt]; omega)) ?_
    refine m_aload_n rfl rfl rfl ?_
    refine m_gix (k := 0) (x := 1) rfl rfl (Nat.le_of_ble_eq_true rfl) rfl rfl (by first | decide | assumption | (simp only [cnt]; omega)) rfl ?_
    refine m_if_eq (tgt := 71) rfl rfl rfl (by omega) (fun c66 => ?_) (fun c66 => ?_)
    · exfalso; omega
    · refine m_iconst rfl rfl ?_
      refine m_iret rfl rfl rfl (Nat.le_of_ble_eq_true rfl) (Nat.le_of_ble_eq_true rfl) ?_
      unfold moAddSeg
      first | (rw [if_pos (by omega)]; exact ⟨rfl, rfl⟩) | (rw [if_neg (by omega), if_pos (by omega)]; exact ⟨rfl, rfl⟩) | (rw [if_neg (by omega), if_neg (by omega), if_pos (by simp only [Int.toNat_natCast]; omega)]; exact ⟨rfl, rfl⟩)

def moSetS (m : zkM) (p b pe : Int) : Bool × zkM :=
  if ¬ (1 ≤ p ∧ p ≤ 9) ∨ ¬ (1 ≤ b ∧ b ≤ 9) ∨ ¬ (1 ≤ pe ∧ pe ≤ 60) then (false, mset m 7 0 0 1)
  else if m 7 0 11 ≠ 0 then (false, mset m 7 0 0 2)
  else if moTk m p = true then (false, mset m 7 0 0 3)
  else (decide (0 < m 7 0 6), mset (mset (mset (mset (mset m 7 0 0 0) 7 0 6 p) 7 0 7 b) 7 0 8 pe) 7 0 19 b)
set_option maxRecDepth 10000 in
theorem c_mosetServer {l : Launch} {G : zkG} {mem : zkM} (hl : l.stackTraces = false) {p b pe : Int} (hA : moA mem) (hp : inR p) (hb : inR b) (hpe : inR pe) (hck : inR (mem 7 0 11)) : zkCt l G i_Mo_setServer 2 0 0 [vr 7 0, vi p, vi b, vi pe] mem (zkR1 (vi (b2i (moSetS mem p b pe).1)) (moSetS mem p b pe).2) := by
  refine zkCt_of hl ok_Mo_setServer (by decide +kernel) rfl rfl (List.forall_mem_cons.mpr ⟨rfl, (List.forall_mem_cons.mpr ⟨rfl, (List.forall_mem_cons.mpr ⟨rfl, (List.forall_mem_cons.mpr ⟨rfl, fun _ h => nomatch h⟩)⟩)⟩)⟩) (Nat.le_of_ble_eq_true rfl) ?_
  have hn := moA_n hA
  obtain ⟨-, -, -, -, -, g6, g7, g8, g9⟩ := id hA
  refine m_aload_n rfl rfl rfl ?_
  refine m_iload_n rfl rfl rfl ?_
  refine m_iconst rfl rfl ?_
  refine m_bipush rfl rfl (by decide) ?_
  refine m_cs1 rfl rfl lk_7_75 (c_isIn hl (by omega) (by omega) (by omega)) rfl rfl (Nat.le_of_ble_eq_true rfl) (Nat.le_of_ble_eq_true rfl) (Nat.le_of_ble_eq_true rfl) (Nat.le_of_ble_eq_true rfl) (Nat.le_of_ble_eq_true rfl) ?_
  refine m_if_eq_d (tgt := 31) rfl rfl rfl (fun c8 => ?_) (fun c8 => ?_)
  · refine m_iconst rfl rfl ?_
    refine m_goto (tgt := 59) rfl rfl rfl ?_
    refine m_pi (k := 0) rfl rfl (Nat.le_of_ble_eq_true rfl) rfl rfl rfl rfl (by first | decide | assumption | (simp only [cnt]; omega)) ?_
    refine m_aload_n rfl rfl rfl ?_
    refine m_gix (k := 0) (x := 1) rfl rfl (Nat.le_of_ble_eq_true rfl) rfl rfl (by first | decide | assumption | (simp only [cnt]; omega)) rfl ?_
    refine m_if_eq (tgt := 71) rfl rfl rfl (by omega) (fun c66 => ?_) (fun c66 => ?_)
    · exfalso; omega
    · refine m_iconst rfl rfl ?_
      refine m_z0 rfl rfl rfl (Nat.le_of_ble_eq_true rfl) (Nat.le_of_ble_eq_true rfl) ?_
      unfold moSetS
      first | (rw [if_pos (by omega)]; exact ⟨rfl, rfl⟩) | (rw [if_neg (by omega), if_pos (by omega)]; exact ⟨rfl, rfl⟩) | (rw [if_neg (by omega), if_neg (by omega), if_pos c51]; exact ⟨rfl, rfl⟩)
  · refine m_iload_n rfl rfl rfl ?_
    refine m_iconst rfl rfl ?_
    refine m_bipush rfl rfl (by decide) ?_
    refine m_cs1 rfl rfl lk_7_75 (c_isIn hl (by omega) (by omega) (by omega)) rfl rfl (Nat.le_of_ble_eq_true rfl) (Nat.le_of_ble_eq_true rfl) (Nat.le_of_ble_eq_true rfl) (Nat.le_of_ble_eq_true rfl) (Nat.le_of_ble_eq_true rfl) ?_
    refine m_if_eq_d (tgt := 31) rfl rfl rfl (fun c18 => ?_) (fun c18 => ?_)
    · refine m_iconst rfl rfl ?_
      refine m_goto (tgt := 59) rfl rfl rfl ?_
      refine m_pi (k := 0) rfl rfl (Nat.le_of_ble_eq_true rfl) rfl rfl rfl rfl (by first | decide | assumption | (simp only [cnt]; omega)) ?_
      refine m_aload_n rfl rfl rfl ?_
      refine m_gix (k := 0) (x := 1) rfl rfl (Nat.le_of_ble_eq_true rfl) rfl rfl (by first | decide | assumption | (simp only [cnt]; omega)) rfl ?_
      refine m_if_eq (tgt := 71) rfl rfl rfl (by omega) (fun c66 => ?_) (fun c66 => ?_)
      · exfalso; omega
      · refine m_iconst rfl rfl ?_
        refine m_z0 rfl rfl rfl (Nat.le_of_ble_eq_true rfl) (Nat.le_of_ble_eq_true rfl) ?_
        unfold moSetS
        first | (rw [if_pos (by omega)]; exact ⟨rfl, rfl⟩) | (rw [if_neg (by omega), if_pos (by omega)]; exact ⟨rfl, rfl⟩) | (rw [if_neg (by omega), if_neg (by omega), if_pos c51]; exact ⟨rfl, rfl⟩)
    · refine m_iload_n rfl rfl rfl ?_
      refine m_iconst rfl rfl ?_
      refine m_bipush rfl rfl (by decide) ?_
      refine m_cs1 rfl rfl lk_7_75 (c_isIn hl (by omega) (by omega) (by omega)) rfl rfl (Nat.le_of_ble_eq_true rfl) (Nat.le_of_ble_eq_true rfl) (Nat.le_of_ble_eq_true rfl) (Nat.le_of_ble_eq_true rfl) (Nat.le_of_ble_eq_true rfl) ?_
      refine m_if_ne_d (tgt := 35) rfl rfl rfl (fun c28 => ?_) (fun c28 => ?_)
      · refine m_aload_n rfl rfl rfl ?_
        refine m_gix (k := 11) (x := mem 7 _ 11) rfl rfl (Nat.le_of_ble_eq_true rfl) rfl rfl (by first | decide | assumption | (simp only [cnt]; omega)) rfl ?_
        refine m_if_eq (tgt := 46) rfl rfl rfl (by omega) (fun c39 => ?_) (fun c39 => ?_)
        · refine m_aload_n rfl rfl rfl ?_
          refine m_iload_n rfl rfl rfl ?_
          refine m_cv1 rfl rfl lk_7_117 (c_isTaken hl hA (by omega)) rfl (by first | decide | assumption | (simp only [cnt]; omega)) (Nat.le_of_ble_eq_true rfl) rfl rfl (Nat.le_of_ble_eq_true rfl) (Nat.le_of_ble_eq_true rfl) (Nat.le_of_ble_eq_true rfl) (Nat.le_of_ble_eq_true rfl) (Nat.le_of_ble_eq_true rfl) ?_
          refine m_if_eq_b (tgt := 58) rfl rfl rfl (fun c51 => ?_) (fun c51 => ?_)
          · refine m_iconst rfl rfl ?_
            refine m_pi (k := 0) rfl rfl (Nat.le_of_ble_eq_true rfl) rfl rfl rfl rfl (by first | decide | assumption | (simp only [cnt]; omega)) ?_
            refine m_aload_n rfl rfl rfl ?_
            refine m_gix (k := 0) (x := 0) rfl rfl (Nat.le_of_ble_eq_true rfl) rfl rfl (by first | decide | assumption | (simp only [cnt]; omega)) rfl ?_
            refine m_if_eq (tgt := 71) rfl rfl rfl (by omega) (fun c66 => ?_) (fun c66 => ?_)
            · refine m_aload_n rfl rfl rfl ?_
              refine m_cv1 rfl rfl lk_7_124 (show zkCt l G i_Mo_hasServer _ 0 0 _ _ (zkR1 (vi (b2i (decide (0 < mem 7 0 6)))) _) from c_hasServer hl (show inR (mem 7 0 6) by omega)) rfl (by first | decide | assumption | (simp only [cnt]; omega)) (Nat.le_of_ble_eq_true rfl) rfl rfl (Nat.le_of_ble_eq_true rfl) (Nat.le_of_ble_eq_true rfl) (Nat.le_of_ble_eq_true rfl) (Nat.le_of_ble_eq_true rfl) (Nat.le_of_ble_eq_true rfl) ?_
              refine m_istore rfl rfl (Nat.le_of_ble_eq_true rfl) rfl ?_
              refine m_aload_n rfl rfl rfl ?_
              refine m_iload_n rfl rfl rfl ?_
              refine m_pi (k := 6) rfl rfl (Nat.le_of_ble_eq_true rfl) rfl rfl rfl rfl (by first | decide | assumption | (simp only [cnt]; omega)) ?_
              refine m_aload_n rfl rfl rfl ?_
              refine m_iload_n rfl rfl rfl ?_
              refine m_pi (k := 7) rfl rfl (Nat.le_of_ble_eq_true rfl) rfl rfl rfl rfl (by first | decide | assumption | (simp only [cnt]; omega)) ?_
              refine m_aload_n rfl rfl rfl ?_
              refine m_iload_n rfl rfl rfl ?_
              refine m_pi (k := 8) rfl rfl (Nat.le_of_ble_eq_true rfl) rfl rfl rfl rfl (by first | decide | assumption | (simp only [cnt]; omega)) ?_
              refine m_aload_n rfl rfl rfl ?_
              refine m_iload_n rfl rfl rfl ?_
              refine m_pi (k := 19) rfl rfl (Nat.le_of_ble_eq_true rfl) rfl rfl rfl rfl (by first | decide | assumption | (simp only [cnt]; omega)) ?_
              refine m_iload rfl rfl rfl ?_
              refine m_zret rfl rfl rfl (Nat.le_of_ble_eq_true rfl) (Nat.le_of_ble_eq_true rfl) ?_
              unfold moSetS
              rw [if_neg (by omega), if_neg (by omega), if_neg (by rw [c51]; decide)]
              exact ⟨rfl, rfl⟩
            · exfalso; omega
          · refine m_iconst rfl rfl ?_
            refine m_goto (tgt := 59) rfl rfl rfl ?_
            refine m_pi (k := 0) rfl rfl (Nat.le_of_ble_eq_true rfl) rfl rfl rfl rfl (by first | decide | assumption | (simp only [cnt]; omega)) ?_
            refine m_aload_n rfl rfl rfl ?_
            refine m_gix (k := 0) (x := 3) rfl rfl (Nat.le_of_ble_eq_true rfl) rfl rfl (by first | decide | assumption | (simp only [cnt]; omega)) rfl ?_
            refine m_if_eq (tgt := 71) rfl rfl rfl (by omega) (fun c66 => ?_) (fun c66 => ?_)
            · exfalso; omega
            · refine m_iconst rfl rfl ?_
              refine m_z0 rfl rfl rfl (Nat.le_of_ble_eq_true rfl) (Nat.le_of_ble_eq_true rfl) ?_
              unfold moSetS
              first | (rw [if_pos (by omega)]; exact ⟨rfl, rfl⟩) | (rw [if_neg (by omega), if_pos (by omega)]; exact ⟨rfl, rfl⟩) | (rw [if_neg (by omega), if_neg (by omega), if_pos c51]; exact ⟨rfl, rfl⟩)
        · refine m_iconst rfl rfl ?_
          refine m_goto (tgt := 59) rfl rfl rfl ?_
          refine m_pi (k := 0) rfl rfl (Nat.le_of_ble_eq_true rfl) rfl rfl rfl rfl (by first | decide | assumption | (simp only [cnt]; omega)) ?_
          refine m_aload_n rfl rfl rfl ?_
          refine m_gix (k := 0) (x := 2) rfl rfl (Nat.le_of_ble_eq_true rfl) rfl rfl (by first | decide | assumption | (simp only [cnt]; omega)) rfl ?_
          refine m_if_eq (tgt := 71) rfl rfl rfl (by omega) (fun c66 => ?_) (fun c66 => ?_)
          · exfalso; omega
          · refine m_iconst rfl rfl ?_
            refine m_z0 rfl rfl rfl (Nat.le_of_ble_eq_true rfl) (Nat.le_of_ble_eq_true rfl) ?_
            unfold moSetS
            first | (rw [if_pos (by omega)]; exact ⟨rfl, rfl⟩) | (rw [if_neg (by omega), if_pos (by omega)]; exact ⟨rfl, rfl⟩) | (rw [if_neg (by omega), if_neg (by omega), if_pos c51]; exact ⟨rfl, rfl⟩)
      · refine m_iconst rfl rfl ?_
        refine m_goto (tgt := 59) rfl rfl rfl ?_
        refine m_pi (k := 0) rfl rfl (Nat.le_of_ble_eq_true rfl) rfl rfl rfl rfl (by first | decide | assumption | (simp only [cnt]; omega)) ?_
        refine m_aload_n rfl rfl rfl ?_
        refine m_gix (k := 0) (x := 1) rfl rfl (Nat.le_of_ble_eq_true rfl) rfl rfl (by first | decide | assumption | (simp only [cnt]; omega)) rfl ?_
        refine m_if_eq (tgt := 71) rfl rfl rfl (by omega) (fun c66 => ?_) (fun c66 => ?_)
        · exfalso; omega
        · refine m_iconst rfl rfl ?_
          refine m_z0 rfl rfl rfl (Nat.le_of_ble_eq_true rfl) (Nat.le_of_ble_eq_true rfl) ?_
          unfold moSetS
          first | (rw [if_pos (by omega)]; exact ⟨rfl, rfl⟩) | (rw [if_neg (by omega), if_pos (by omega)]; exact ⟨rfl, rfl⟩) | (rw [if_neg (by omega), if_neg (by omega), if_pos c51]; exact ⟨rfl, rfl⟩)

def moReq (m : zkM) (t le : Int) : Int × zkM :=
  if ¬ (0 ≤ t ∧ t ≤ 300) ∨ ¬ (1 ≤ le ∧ le ≤ 9) ∨ t < m 7 0 11 then (0, mset (mset m 7 0 0 0) 7 0 0 1)
  else if m 7 0 9 = 12 then (0, mset (mset m 7 0 0 0) 7 0 0 2)
  else (m 7 0 9 + 1 - 1, mset (mset (mset (mset (mset (mset m 7 0 0 0) 33 0 (2 * (m 7 0 9).toNat) t) 33 0 (2 * (m 7 0 9).toNat + 1) le) 41 0 (m 7 0 9).toNat le) 42 0 (m 7 0 9).toNat (-1)) 7 0 9 (m 7 0 9 + 1))
set_option maxRecDepth 10000 in
theorem c_morequest {l : Launch} {G : zkG} {mem : zkM} (hl : l.stackTraces = false) {t le : Int} (ht : inR t) (hle : inR le) (hq : 0 ≤ mem 7 0 9 ∧ mem 7 0 9 ≤ 12) (hck : inR (mem 7 0 11)) : zkCt l G i_Mo_request 1 0 0 [vr 7 0, vi t, vi le] mem (zkR1 (vi (moReq mem t le).1) (moReq mem t le).2) := by
  refine zkCt_of hl ok_Mo_request (by decide +kernel) rfl rfl (List.forall_mem_cons.mpr ⟨rfl, (List.forall_mem_cons.mpr ⟨rfl, (List.forall_mem_cons.mpr ⟨rfl, fun _ h => nomatch h⟩)⟩)⟩) (Nat.le_of_ble_eq_true rfl) ?_
  refine m_aload_n rfl rfl rfl ?_
  refine m_iconst rfl rfl ?_
  refine m_pi (k := 0) rfl rfl (Nat.le_of_ble_eq_true rfl) rfl rfl rfl rfl (by first | decide | assumption | (simp only [cnt]; omega)) ?_
  refine m_iload_n rfl rfl rfl ?_
  refine m_iconst rfl rfl ?_
  refine m_sipush rfl rfl (by decide) ?_
  refine m_cs1 rfl rfl lk_7_75 (c_isIn hl (by omega) (by omega) (by omega)) rfl rfl (Nat.le_of_ble_eq_true rfl) (Nat.le_of_ble_eq_true rfl) (Nat.le_of_ble_eq_true rfl) (Nat.le_of_ble_eq_true rfl) (Nat.le_of_ble_eq_true rfl) ?_
  refine m_if_eq_d (tgt := 34) rfl rfl rfl (fun c13 => ?_) (fun c13 => ?_)
  · refine m_aload_n rfl rfl rfl ?_
    refine m_iconst rfl rfl ?_
    refine m_cv1 rfl rfl lk_7_114 (c_fail hl) rfl (by first | decide | assumption | (simp only [cnt]; omega)) (Nat.le_of_ble_eq_true rfl) rfl rfl (Nat.le_of_ble_eq_true rfl) (Nat.le_of_ble_eq_true rfl) (Nat.le_of_ble_eq_true rfl) (Nat.le_of_ble_eq_true rfl) (Nat.le_of_ble_eq_true rfl) ?_
    refine m_iret rfl rfl rfl (Nat.le_of_ble_eq_true rfl) (Nat.le_of_ble_eq_true rfl) ?_
    unfold moReq
    rw [if_pos (by omega)]
    exact ⟨rfl, rfl⟩
  · refine m_iload_n rfl rfl rfl ?_
    refine m_iconst rfl rfl ?_
    refine m_bipush rfl rfl (by decide) ?_
    refine m_cs1 rfl rfl lk_7_75 (c_isIn hl (by omega) (by omega) (by omega)) rfl rfl (Nat.le_of_ble_eq_true rfl) (Nat.le_of_ble_eq_true rfl) (Nat.le_of_ble_eq_true rfl) (Nat.le_of_ble_eq_true rfl) (Nat.le_of_ble_eq_true rfl) ?_
    refine m_if_eq_d (tgt := 34) rfl rfl rfl (fun c23 => ?_) (fun c23 => ?_)
    · refine m_aload_n rfl rfl rfl ?_
      refine m_iconst rfl rfl ?_
      refine m_cv1 rfl rfl lk_7_114 (c_fail hl) rfl (by first | decide | assumption | (simp only [cnt]; omega)) (Nat.le_of_ble_eq_true rfl) rfl rfl (Nat.le_of_ble_eq_true rfl) (Nat.le_of_ble_eq_true rfl) (Nat.le_of_ble_eq_true rfl) (Nat.le_of_ble_eq_true rfl) (Nat.le_of_ble_eq_true rfl) ?_
      refine m_iret rfl rfl rfl (Nat.le_of_ble_eq_true rfl) (Nat.le_of_ble_eq_true rfl) ?_
      unfold moReq
      rw [if_pos (by omega)]
      exact ⟨rfl, rfl⟩
    · refine m_iload_n rfl rfl rfl ?_
      refine m_aload_n rfl rfl rfl ?_
      refine m_gix (k := 11) (x := mem 7 _ 11) rfl rfl (Nat.le_of_ble_eq_true rfl) rfl rfl (by first | decide | assumption | (simp only [cnt]; omega)) rfl ?_
      refine m_icmp_ge (tgt := 40) rfl rfl rfl (by omega) (by omega) (fun c31 => ?_) (fun c31 => ?_)
      · refine m_aload_n rfl rfl rfl ?_
        refine m_gix (k := 9) (x := mem 7 _ 9) rfl rfl (Nat.le_of_ble_eq_true rfl) rfl rfl (by first | decide | assumption | (simp only [cnt]; omega)) rfl ?_
        refine m_bipush rfl rfl (by decide) ?_
        refine m_icmp_ne (tgt := 55) rfl rfl rfl (by omega) (by omega) (fun c46 => ?_) (fun c46 => ?_)
        · refine m_aload_n rfl rfl rfl ?_
          refine m_gr (k := 10) rfl rfl (Nat.le_of_ble_eq_true rfl) rfl rfl (by first | decide | assumption | (simp only [cnt]; omega)) ?_
          refine m_iconst rfl rfl ?_
          refine m_aload_n rfl rfl rfl ?_
          refine m_gix (k := 9) (x := mem 7 _ 9) rfl rfl (Nat.le_of_ble_eq_true rfl) rfl rfl (by first | decide | assumption | (simp only [cnt]; omega)) rfl ?_
          refine m_imul rfl rfl ?_
          refine m_iload_n rfl rfl rfl ?_
          refine m_iasn (n := 2 * (mem 7 0 9).toNat) rfl rfl (Nat.le_of_ble_eq_true rfl) rfl (by first | decide | assumption | (simp only [cnt]; omega)) (by omega) (by simp only [aln]; omega) ?_
          refine m_aload_n rfl rfl rfl ?_
          refine m_gr (k := 10) rfl rfl (Nat.le_of_ble_eq_true rfl) rfl rfl (by first | decide | assumption | (simp only [cnt]; omega)) ?_
          refine m_iconst rfl rfl ?_
          refine m_aload_n rfl rfl rfl ?_
          refine m_gix (k := 9) (x := mem 7 _ 9) rfl rfl (Nat.le_of_ble_eq_true rfl) rfl rfl (by first | decide | assumption | (simp only [cnt]; omega)) rfl ?_
          refine m_imul rfl rfl ?_
          refine m_iconst rfl rfl ?_
          refine m_iadd rfl rfl ?_
          refine m_iload_n rfl rfl rfl ?_
          refine m_iasn (n := 2 * (mem 7 0 9).toNat + 1) rfl rfl (Nat.le_of_ble_eq_true rfl) rfl (by first | decide | assumption | (simp only [cnt]; omega)) (by omega) (by simp only [aln]; omega) ?_
          refine m_aload_n rfl rfl rfl ?_
          refine m_gr (k := 23) rfl rfl (Nat.le_of_ble_eq_true rfl) rfl rfl (by first | decide | assumption | (simp only [cnt]; omega)) ?_
          refine m_aload_n rfl rfl rfl ?_
          refine m_gix (k := 9) (x := mem 7 _ 9) rfl rfl (Nat.le_of_ble_eq_true rfl) rfl rfl (by first | decide | assumption | (simp only [cnt]; omega)) rfl ?_
          refine m_iload_n rfl rfl rfl ?_
          refine m_iasn (n := (mem 7 0 9).toNat) rfl rfl (Nat.le_of_ble_eq_true rfl) rfl (by first | decide | assumption | (simp only [cnt]; omega)) (by omega) (by simp only [aln]; omega) ?_
          refine m_aload_n rfl rfl rfl ?_
          refine m_gr (k := 24) rfl rfl (Nat.le_of_ble_eq_true rfl) rfl rfl (by first | decide | assumption | (simp only [cnt]; omega)) ?_
          refine m_aload_n rfl rfl rfl ?_
          refine m_gix (k := 9) (x := mem 7 _ 9) rfl rfl (Nat.le_of_ble_eq_true rfl) rfl rfl (by first | decide | assumption | (simp only [cnt]; omega)) rfl ?_
          refine m_iconst rfl rfl ?_
          refine m_iasn (n := (mem 7 0 9).toNat) rfl rfl (Nat.le_of_ble_eq_true rfl) rfl (by first | decide | assumption | (simp only [cnt]; omega)) (by omega) (by simp only [aln]; omega) ?_
          refine m_aload_n rfl rfl rfl ?_
          refine m_dup rfl rfl rfl ?_
          refine m_gix (k := 9) (x := mem 7 _ 9) rfl rfl (Nat.le_of_ble_eq_true rfl) rfl rfl (by first | decide | assumption | (simp only [cnt]; omega)) rfl ?_
          refine m_iconst rfl rfl ?_
          refine m_iadd rfl rfl ?_
          refine m_pi (k := 9) rfl rfl (Nat.le_of_ble_eq_true rfl) rfl rfl rfl rfl (by first | decide | assumption | (simp only [cnt]; omega)) ?_
          refine m_aload_n rfl rfl rfl ?_
          refine m_gi (k := 9) rfl rfl (Nat.le_of_ble_eq_true rfl) rfl rfl (by first | decide | assumption | (simp only [cnt]; omega)) ?_
          rw [ms_s]
          refine m_iconst rfl rfl ?_
          refine m_isub rfl rfl ?_
          refine m_iret rfl rfl rfl (Nat.le_of_ble_eq_true rfl) (Nat.le_of_ble_eq_true rfl) ?_
          unfold moReq
          rw [if_neg (by omega), if_neg (by omega)]
          exact ⟨rfl, rfl⟩
        · refine m_aload_n rfl rfl rfl ?_
          refine m_iconst rfl rfl ?_
          refine m_cv1 rfl rfl lk_7_114 (c_fail hl) rfl (by first | decide | assumption | (simp only [cnt]; omega)) (Nat.le_of_ble_eq_true rfl) rfl rfl (Nat.le_of_ble_eq_true rfl) (Nat.le_of_ble_eq_true rfl) (Nat.le_of_ble_eq_true rfl) (Nat.le_of_ble_eq_true rfl) (Nat.le_of_ble_eq_true rfl) ?_
          refine m_iret rfl rfl rfl (Nat.le_of_ble_eq_true rfl) (Nat.le_of_ble_eq_true rfl) ?_
          unfold moReq
          rw [if_neg (by omega), if_pos (by omega)]
          exact ⟨rfl, rfl⟩
      · refine m_aload_n rfl rfl rfl ?_
        refine m_iconst rfl rfl ?_
        refine m_cv1 rfl rfl lk_7_114 (c_fail hl) rfl (by first | decide | assumption | (simp only [cnt]; omega)) (Nat.le_of_ble_eq_true rfl) rfl rfl (Nat.le_of_ble_eq_true rfl) (Nat.le_of_ble_eq_true rfl) (Nat.le_of_ble_eq_true rfl) (Nat.le_of_ble_eq_true rfl) (Nat.le_of_ble_eq_true rfl) ?_
        refine m_iret rfl rfl rfl (Nat.le_of_ble_eq_true rfl) (Nat.le_of_ble_eq_true rfl) ?_
        unfold moReq
        rw [if_pos (by omega)]
        exact ⟨rfl, rfl⟩

def moSetP (m : zkM) (p : Int) : Int × zkM := if ¬ (0 ≤ p ∧ p ≤ 2) then (0, mset (mset m 7 0 0 0) 7 0 0 1) else (m 7 0 1, mset (mset m 7 0 0 0) 7 0 1 p)
set_option maxRecDepth 10000 in
theorem c_mosetPolicy {l : Launch} {G : zkG} {mem : zkM} (hl : l.stackTraces = false) {p : Int} (hp : inR p) : zkCt l G i_Mo_setPolicy 1 0 0 [vr 7 0, vi p] mem (zkR1 (vi (moSetP mem p).1) (moSetP mem p).2) := by
  refine zkCt_of hl ok_Mo_setPolicy (by decide +kernel) rfl rfl (List.forall_mem_cons.mpr ⟨rfl, (List.forall_mem_cons.mpr ⟨rfl, fun _ h => nomatch h⟩)⟩) (Nat.le_of_ble_eq_true rfl) ?_
  refine m_aload_n rfl rfl rfl ?_
  refine m_iconst rfl rfl ?_
  refine m_pi (k := 0) rfl rfl (Nat.le_of_ble_eq_true rfl) rfl rfl rfl rfl (by first | decide | assumption | (simp only [cnt]; omega)) ?_
  refine m_iload_n rfl rfl rfl ?_
  refine m_iconst rfl rfl ?_
  refine m_iconst rfl rfl ?_
  refine m_cs1 rfl rfl lk_7_75 (c_isIn hl (by omega) (by omega) (by omega)) rfl rfl (Nat.le_of_ble_eq_true rfl) (Nat.le_of_ble_eq_true rfl) (Nat.le_of_ble_eq_true rfl) (Nat.le_of_ble_eq_true rfl) (Nat.le_of_ble_eq_true rfl) ?_
  refine m_if_ne_d (tgt := 20) rfl rfl rfl (fun c11 => ?_) (fun c11 => ?_)
  · refine m_aload_n rfl rfl rfl ?_
    refine m_gix (k := 1) (x := mem 7 _ 1) rfl rfl (Nat.le_of_ble_eq_true rfl) rfl rfl (by first | decide | assumption | (simp only [cnt]; omega)) rfl ?_
    refine m_istore_n rfl rfl (Nat.le_of_ble_eq_true rfl) rfl ?_
    refine m_aload_n rfl rfl rfl ?_
    refine m_iload_n rfl rfl rfl ?_
    refine m_pi (k := 1) rfl rfl (Nat.le_of_ble_eq_true rfl) rfl rfl rfl rfl (by first | decide | assumption | (simp only [cnt]; omega)) ?_
    refine m_iload_n rfl rfl rfl ?_
    refine m_iret rfl rfl rfl (Nat.le_of_ble_eq_true rfl) (Nat.le_of_ble_eq_true rfl) ?_
    unfold moSetP
    rw [if_neg (by omega)]
    exact ⟨rfl, rfl⟩
  · refine m_aload_n rfl rfl rfl ?_
    refine m_iconst rfl rfl ?_
    refine m_cv1 rfl rfl lk_7_114 (c_fail hl) rfl (by first | decide | assumption | (simp only [cnt]; omega)) (Nat.le_of_ble_eq_true rfl) rfl rfl (Nat.le_of_ble_eq_true rfl) (Nat.le_of_ble_eq_true rfl) (Nat.le_of_ble_eq_true rfl) (Nat.le_of_ble_eq_true rfl) (Nat.le_of_ble_eq_true rfl) ?_
    refine m_iret rfl rfl rfl (Nat.le_of_ble_eq_true rfl) (Nat.le_of_ble_eq_true rfl) ?_
    unfold moSetP
    rw [if_pos (by omega)]
    exact ⟨rfl, rfl⟩

set_option maxRecDepth 10000 in
theorem c_motaskCount {l : Launch} {G : zkG} {mem : zkM} (hl : l.stackTraces = false) : zkCt l G i_Mo_taskCount 0 0 0 [vr 7 0] mem (zkR1 (vi (mem 7 0 2)) (mset mem 7 0 0 0)) := by
  refine zkCt_of hl ok_Mo_taskCount (by decide +kernel) rfl rfl (List.forall_mem_cons.mpr ⟨rfl, fun _ h => nomatch h⟩) (Nat.le_of_ble_eq_true rfl) ?_
  refine m_aload_n rfl rfl rfl ?_
  refine m_iconst rfl rfl ?_
  refine m_pi (k := 0) rfl rfl (Nat.le_of_ble_eq_true rfl) rfl rfl rfl rfl (by first | decide | assumption | (simp only [cnt]; omega)) ?_
  refine m_aload_n rfl rfl rfl ?_
  refine m_gix (k := 2) (x := mem 7 _ 2) rfl rfl (Nat.le_of_ble_eq_true rfl) rfl rfl (by first | decide | assumption | (simp only [cnt]; omega)) rfl ?_
  refine m_iret rfl rfl rfl (Nat.le_of_ble_eq_true rfl) (Nat.le_of_ble_eq_true rfl) ?_
  exact ⟨rfl, rfl⟩

set_option maxRecDepth 10000 in
theorem c_moclock {l : Launch} {G : zkG} {mem : zkM} (hl : l.stackTraces = false) : zkCt l G i_Mo_clock 0 0 0 [vr 7 0] mem (zkR1 (vi (mem 7 0 11)) (mset mem 7 0 0 0)) := by
  refine zkCt_of hl ok_Mo_clock (by decide +kernel) rfl rfl (List.forall_mem_cons.mpr ⟨rfl, fun _ h => nomatch h⟩) (Nat.le_of_ble_eq_true rfl) ?_
  refine m_aload_n rfl rfl rfl ?_
  refine m_iconst rfl rfl ?_
  refine m_pi (k := 0) rfl rfl (Nat.le_of_ble_eq_true rfl) rfl rfl rfl rfl (by first | decide | assumption | (simp only [cnt]; omega)) ?_
  refine m_aload_n rfl rfl rfl ?_
  refine m_gix (k := 11) (x := mem 7 _ 11) rfl rfl (Nat.le_of_ble_eq_true rfl) rfl rfl (by first | decide | assumption | (simp only [cnt]; omega)) rfl ?_
  refine m_iret rfl rfl rfl (Nat.le_of_ble_eq_true rfl) (Nat.le_of_ble_eq_true rfl) ?_
  exact ⟨rfl, rfl⟩

def moTask (m : zkM) (x w : Int) : Int × zkM := if ¬ (0 ≤ x ∧ x ≤ m 7 0 2 - 1) then (0, mset m 7 0 0 1) else if ¬ (0 ≤ w ∧ w ≤ 5) then (0, mset m 7 0 0 2)
  else (if w < 4 then m 30 0 (4 * x.toNat + w.toNat) else if w = 4 then m 31 0 x.toNat else moDe m x.toNat, mset m 7 0 0 0)
set_option maxRecDepth 10000 in
theorem c_motask {l : Launch} {G : zkG} {mem : zkM} (hl : l.stackTraces = false) {x w : Int} (hA : moA mem) (hx : inR x) (hw : inR w) : zkCt l G i_Mo_task 2 0 0 [vr 7 0, vi x, vi w] mem (zkR1 (vi (moTask mem x w).1) (moTask mem x w).2) := by
  refine zkCt_of hl ok_Mo_task (by decide +kernel) rfl rfl (List.forall_mem_cons.mpr ⟨rfl, (List.forall_mem_cons.mpr ⟨rfl, (List.forall_mem_cons.mpr ⟨rfl, fun _ h => nomatch h⟩)⟩)⟩) (Nat.le_of_ble_eq_true rfl) ?_
  have hn := moA_n hA
  have hm := hA.1
  refine m_aload_n rfl rfl rfl ?_
  refine m_aload_n rfl rfl rfl ?_
  refine m_iload_n rfl rfl rfl ?_
  refine m_cv1 rfl rfl lk_7_121 (c_isTask hl (by omega) (by omega)) rfl (by first | decide | assumption | (simp only [cnt]; omega)) (Nat.le_of_ble_eq_true rfl) rfl rfl (Nat.le_of_ble_eq_true rfl) (Nat.le_of_ble_eq_true rfl) (Nat.le_of_ble_eq_true rfl) (Nat.le_of_ble_eq_true rfl) (Nat.le_of_ble_eq_true rfl) ?_
  refine m_if_ne_d (tgt := 13) rfl rfl rfl (fun c6 => ?_) (fun c6 => ?_)
  · refine m_iload_n rfl rfl rfl ?_
    refine m_iconst rfl rfl ?_
    refine m_iconst rfl rfl ?_
    refine m_cs1 rfl rfl lk_7_75 (c_isIn hl (by omega) (by omega) (by omega)) rfl rfl (Nat.le_of_ble_eq_true rfl) (Nat.le_of_ble_eq_true rfl) (Nat.le_of_ble_eq_true rfl) (Nat.le_of_ble_eq_true rfl) (Nat.le_of_ble_eq_true rfl) ?_
    refine m_if_ne_d (tgt := 26) rfl rfl rfl (fun c19 => ?_) (fun c19 => ?_)
    · refine m_iconst rfl rfl ?_
      refine m_pi (k := 0) rfl rfl (Nat.le_of_ble_eq_true rfl) rfl rfl rfl rfl (by first | decide | assumption | (simp only [cnt]; omega)) ?_
      refine m_aload_n rfl rfl rfl ?_
      refine m_gix (k := 0) (x := 0) rfl rfl (Nat.le_of_ble_eq_true rfl) rfl rfl (by first | decide | assumption | (simp only [cnt]; omega)) rfl ?_
      refine m_if_eq (tgt := 39) rfl rfl rfl (by omega) (fun c34 => ?_) (fun c34 => ?_)
      · refine m_iload_n rfl rfl rfl ?_
        refine m_iconst rfl rfl ?_
        refine m_icmp_ge (tgt := 57) rfl rfl rfl (by omega) (by omega) (fun c41 => ?_) (fun c41 => ?_)
        · refine m_iload_n rfl rfl rfl ?_
          refine m_iconst rfl rfl ?_
          refine m_icmp_ne (tgt := 71) rfl rfl rfl (by omega) (by omega) (fun c59 => ?_) (fun c59 => ?_)
          · refine m_aload_n rfl rfl rfl ?_
            refine m_iload_n rfl rfl rfl ?_
            refine m_cv1 rfl rfl lk_7_131 (show zkCt l G i_Mo_demandOf _ 0 0 _ _ (zkR1 (vi (moDe mem x.toNat)) _) from c_demandOf hl (show moA _ from hA) (i := x.toNat) (by omega) (by omega)) rfl (by first | decide | assumption | (simp only [cnt]; omega)) (Nat.le_of_ble_eq_true rfl) rfl rfl (Nat.le_of_ble_eq_true rfl) (Nat.le_of_ble_eq_true rfl) (Nat.le_of_ble_eq_true rfl) (Nat.le_of_ble_eq_true rfl) (Nat.le_of_ble_eq_true rfl) ?_
            refine m_iret rfl rfl rfl (Nat.le_of_ble_eq_true rfl) (Nat.le_of_ble_eq_true rfl) ?_
            unfold moTask
            rw [if_neg (by omega), if_neg (by omega)]
            first | (rw [if_pos (by omega)]; exact ⟨rfl, rfl⟩) | (rw [if_neg (by omega), if_pos (by omega)]; exact ⟨rfl, rfl⟩) | (rw [if_neg (by omega), if_neg (by omega)]; exact ⟨rfl, rfl⟩)
          · refine m_aload_n rfl rfl rfl ?_
            refine m_gr (k := 4) rfl rfl (Nat.le_of_ble_eq_true rfl) rfl rfl (by first | decide | assumption | (simp only [cnt]; omega)) ?_
            refine m_iload_n rfl rfl rfl ?_
            refine m_ialx (n := x.toNat) (y := mem 31 _ (x.toNat)) rfl rfl (Nat.le_of_ble_eq_true rfl) rfl (by first | decide | assumption | (simp only [cnt]; omega)) (by omega) (by simp only [aln]; omega) rfl ?_
            refine m_goto (tgt := 76) rfl rfl rfl ?_
            refine m_iret rfl rfl rfl (Nat.le_of_ble_eq_true rfl) (Nat.le_of_ble_eq_true rfl) ?_
            unfold moTask
            rw [if_neg (by omega), if_neg (by omega)]
            first | (rw [if_pos (by omega)]; exact ⟨rfl, rfl⟩) | (rw [if_neg (by omega), if_pos (by omega)]; exact ⟨rfl, rfl⟩) | (rw [if_neg (by omega), if_neg (by omega)]; exact ⟨rfl, rfl⟩)
        · refine m_aload_n rfl rfl rfl ?_
          refine m_gr (k := 3) rfl rfl (Nat.le_of_ble_eq_true rfl) rfl rfl (by first | decide | assumption | (simp only [cnt]; omega)) ?_
          refine m_iconst rfl rfl ?_
          refine m_iload_n rfl rfl rfl ?_
          refine m_imul rfl rfl ?_
          refine m_iload_n rfl rfl rfl ?_
          refine m_iadd rfl rfl ?_
          refine m_ialx (n := 4 * x.toNat + w.toNat) (y := mem 30 _ (4 * x.toNat + w.toNat)) rfl rfl (Nat.le_of_ble_eq_true rfl) rfl (by first | decide | assumption | (simp only [cnt]; omega)) (by omega) (by simp only [aln]; omega) rfl ?_
          refine m_goto (tgt := 76) rfl rfl rfl ?_
          refine m_iret rfl rfl rfl (Nat.le_of_ble_eq_true rfl) (Nat.le_of_ble_eq_true rfl) ?_
          unfold moTask
          rw [if_neg (by omega), if_neg (by omega)]
          first | (rw [if_pos (by omega)]; exact ⟨rfl, rfl⟩) | (rw [if_neg (by omega), if_pos (by omega)]; exact ⟨rfl, rfl⟩) | (rw [if_neg (by omega), if_neg (by omega)]; exact ⟨rfl, rfl⟩)
      · exfalso; omega
    · refine m_iconst rfl rfl ?_
      refine m_goto (tgt := 27) rfl rfl rfl ?_
      refine m_pi (k := 0) rfl rfl (Nat.le_of_ble_eq_true rfl) rfl rfl rfl rfl (by first | decide | assumption | (simp only [cnt]; omega)) ?_
      refine m_aload_n rfl rfl rfl ?_
      refine m_gix (k := 0) (x := 2) rfl rfl (Nat.le_of_ble_eq_true rfl) rfl rfl (by first | decide | assumption | (simp only [cnt]; omega)) rfl ?_
      refine m_if_eq (tgt := 39) rfl rfl rfl (by omega) (fun c34 => ?_) (fun c34 => ?_)
      · exfalso; omega
      · refine m_iconst rfl rfl ?_
        refine m_iret rfl rfl rfl (Nat.le_of_ble_eq_true rfl) (Nat.le_of_ble_eq_true rfl) ?_
        unfold moTask
        first | (rw [if_pos (by omega)]; exact ⟨rfl, rfl⟩) | (rw [if_neg (by omega), if_pos (by omega)]; exact ⟨rfl, rfl⟩)
  · refine m_iconst rfl rfl ?_
    refine m_goto (tgt := 27) rfl rfl rfl ?_
    refine m_pi (k := 0) rfl rfl (Nat.le_of_ble_eq_true rfl) rfl rfl rfl rfl (by first | decide | assumption | (simp only [cnt]; omega)) ?_
    refine m_aload_n rfl rfl rfl ?_
    refine m_gix (k := 0) (x := 1) rfl rfl (Nat.le_of_ble_eq_true rfl) rfl rfl (by first | decide | assumption | (simp only [cnt]; omega)) rfl ?_
    refine m_if_eq (tgt := 39) rfl rfl rfl (by omega) (fun c34 => ?_) (fun c34 => ?_)
    · exfalso; omega
    · refine m_iconst rfl rfl ?_
      refine m_iret rfl rfl rfl (Nat.le_of_ble_eq_true rfl) (Nat.le_of_ble_eq_true rfl) ?_
      unfold moTask
      first | (rw [if_pos (by omega)]; exact ⟨rfl, rfl⟩) | (rw [if_neg (by omega), if_pos (by omega)]; exact ⟨rfl, rfl⟩)

def moCeil (m : zkM) (r : Int) : Int × zkM := if 0 ≤ r ∧ r ≤ 3 then (moCe m r, mset m 7 0 0 0) else (0, mset (mset m 7 0 0 0) 7 0 0 1)
set_option maxRecDepth 10000 in
theorem c_moceiling {l : Launch} {G : zkG} {mem : zkM} (hl : l.stackTraces = false) {r : Int} (hA : moA mem) (hr : inR r) : zkCt l G i_Mo_ceiling 2 0 0 [vr 7 0, vi r] mem (zkR1 (vi (moCeil mem r).1) (moCeil mem r).2) := by
  refine zkCt_of hl ok_Mo_ceiling (by decide +kernel) rfl rfl (List.forall_mem_cons.mpr ⟨rfl, (List.forall_mem_cons.mpr ⟨rfl, fun _ h => nomatch h⟩)⟩) (Nat.le_of_ble_eq_true rfl) ?_
  refine m_aload_n rfl rfl rfl ?_
  refine m_iconst rfl rfl ?_
  refine m_pi (k := 0) rfl rfl (Nat.le_of_ble_eq_true rfl) rfl rfl rfl rfl (by first | decide | assumption | (simp only [cnt]; omega)) ?_
  refine m_iload_n rfl rfl rfl ?_
  refine m_iconst rfl rfl ?_
  refine m_iconst rfl rfl ?_
  refine m_cs1 rfl rfl lk_7_75 (c_isIn hl (by omega) (by omega) (by omega)) rfl rfl (Nat.le_of_ble_eq_true rfl) (Nat.le_of_ble_eq_true rfl) (Nat.le_of_ble_eq_true rfl) (Nat.le_of_ble_eq_true rfl) (Nat.le_of_ble_eq_true rfl) ?_
  refine m_if_eq_d (tgt := 22) rfl rfl rfl (fun c11 => ?_) (fun c11 => ?_)
  · refine m_aload_n rfl rfl rfl ?_
    refine m_iconst rfl rfl ?_
    refine m_cv1 rfl rfl lk_7_114 (c_fail hl) rfl (by first | decide | assumption | (simp only [cnt]; omega)) (Nat.le_of_ble_eq_true rfl) rfl rfl (Nat.le_of_ble_eq_true rfl) (Nat.le_of_ble_eq_true rfl) (Nat.le_of_ble_eq_true rfl) (Nat.le_of_ble_eq_true rfl) (Nat.le_of_ble_eq_true rfl) ?_
    refine m_iret rfl rfl rfl (Nat.le_of_ble_eq_true rfl) (Nat.le_of_ble_eq_true rfl) ?_
    unfold moCeil
    first | (rw [if_pos (by omega)]; exact ⟨rfl, rfl⟩) | (rw [if_neg (by omega)]; exact ⟨rfl, rfl⟩)
  · refine m_aload_n rfl rfl rfl ?_
    refine m_iload_n rfl rfl rfl ?_
    refine m_cv1 rfl rfl lk_7_142 (show zkCt l G i_Mo_ceilingOf _ 0 0 _ _ (zkR1 (vi (moCe mem r)) _) from c_ceilingOf hl (show moA _ from hA) (by omega)) rfl (by first | decide | assumption | (simp only [cnt]; omega)) (Nat.le_of_ble_eq_true rfl) rfl rfl (Nat.le_of_ble_eq_true rfl) (Nat.le_of_ble_eq_true rfl) (Nat.le_of_ble_eq_true rfl) (Nat.le_of_ble_eq_true rfl) (Nat.le_of_ble_eq_true rfl) ?_
    refine m_goto (tgt := 27) rfl rfl rfl ?_
    refine m_iret rfl rfl rfl (Nat.le_of_ble_eq_true rfl) (Nat.le_of_ble_eq_true rfl) ?_
    unfold moCeil
    first | (rw [if_pos (by omega)]; exact ⟨rfl, rfl⟩) | (rw [if_neg (by omega)]; exact ⟨rfl, rfl⟩)

def moBlk (m : zkM) (x : Int) : Int × zkM := if 0 ≤ x ∧ x ≤ m 7 0 2 - 1 then (moBl m x.toNat, mset m 7 0 0 0) else (0, mset (mset m 7 0 0 0) 7 0 0 1)
set_option maxRecDepth 10000 in
theorem c_moblocking {l : Launch} {G : zkG} {mem : zkM} (hl : l.stackTraces = false) {x : Int} (hA : moA mem) (hx : inR x) : zkCt l G i_Mo_blocking 3 0 0 [vr 7 0, vi x] mem (zkR1 (vi (moBlk mem x).1) (moBlk mem x).2) := by
  refine zkCt_of hl ok_Mo_blocking (by decide +kernel) rfl rfl (List.forall_mem_cons.mpr ⟨rfl, (List.forall_mem_cons.mpr ⟨rfl, fun _ h => nomatch h⟩)⟩) (Nat.le_of_ble_eq_true rfl) ?_
  have hn := moA_n hA
  have hm := hA.1
  refine m_aload_n rfl rfl rfl ?_
  refine m_iconst rfl rfl ?_
  refine m_pi (k := 0) rfl rfl (Nat.le_of_ble_eq_true rfl) rfl rfl rfl rfl (by first | decide | assumption | (simp only [cnt]; omega)) ?_
  refine m_aload_n rfl rfl rfl ?_
  refine m_iload_n rfl rfl rfl ?_
  refine m_cv1 rfl rfl lk_7_121 (show zkCt l G i_Mo_isTask _ 0 0 _ _ (zkR1 (vi (b2i (decide (0 ≤ x ∧ x ≤ mem 7 0 2 - 1)))) _) from c_isTask hl (by omega) (show 0 ≤ mem 7 0 2 ∧ mem 7 0 2 ≤ 5 by omega)) rfl (by first | decide | assumption | (simp only [cnt]; omega)) (Nat.le_of_ble_eq_true rfl) rfl rfl (Nat.le_of_ble_eq_true rfl) (Nat.le_of_ble_eq_true rfl) (Nat.le_of_ble_eq_true rfl) (Nat.le_of_ble_eq_true rfl) (Nat.le_of_ble_eq_true rfl) ?_
  refine m_if_eq_d (tgt := 21) rfl rfl rfl (fun c10 => ?_) (fun c10 => ?_)
  · refine m_aload_n rfl rfl rfl ?_
    refine m_iconst rfl rfl ?_
    refine m_cv1 rfl rfl lk_7_114 (c_fail hl) rfl (by first | decide | assumption | (simp only [cnt]; omega)) (Nat.le_of_ble_eq_true rfl) rfl rfl (Nat.le_of_ble_eq_true rfl) (Nat.le_of_ble_eq_true rfl) (Nat.le_of_ble_eq_true rfl) (Nat.le_of_ble_eq_true rfl) (Nat.le_of_ble_eq_true rfl) ?_
    refine m_iret rfl rfl rfl (Nat.le_of_ble_eq_true rfl) (Nat.le_of_ble_eq_true rfl) ?_
    unfold moBlk
    first | (rw [if_pos (by omega)]; exact ⟨rfl, rfl⟩) | (rw [if_neg (by omega)]; exact ⟨rfl, rfl⟩)
  · refine m_aload_n rfl rfl rfl ?_
    refine m_iload_n rfl rfl rfl ?_
    refine m_cv1 rfl rfl lk_7_145 (show zkCt l G i_Mo_blockingOf _ 0 0 _ _ (zkR1 (vi (moBl mem x.toNat)) _) from c_blockingOf hl (show moA _ from hA) (i := x.toNat) (by omega) (by omega)) rfl (by first | decide | assumption | (simp only [cnt]; omega)) (Nat.le_of_ble_eq_true rfl) rfl rfl (Nat.le_of_ble_eq_true rfl) (Nat.le_of_ble_eq_true rfl) (Nat.le_of_ble_eq_true rfl) (Nat.le_of_ble_eq_true rfl) (Nat.le_of_ble_eq_true rfl) ?_
    refine m_goto (tgt := 26) rfl rfl rfl ?_
    refine m_iret rfl rfl rfl (Nat.le_of_ble_eq_true rfl) (Nat.le_of_ble_eq_true rfl) ?_
    unfold moBlk
    first | (rw [if_pos (by omega)]; exact ⟨rfl, rfl⟩) | (rw [if_neg (by omega)]; exact ⟨rfl, rfl⟩)

def moBnd (m : zkM) (x : Int) : Int × zkM := if ¬ (0 ≤ x ∧ x ≤ m 7 0 2 - 1) then (0, mset m 7 0 0 1) else if m 31 0 x.toNat = 0 then (0, mset m 7 0 0 2)
  else if moBd m x.toNat = -1 then (0, mset (mset m 7 0 0 0) 7 0 0 3) else (moBd m x.toNat, mset m 7 0 0 0)
set_option maxRecDepth 10000 in
theorem c_mobound {l : Launch} {G : zkG} {mem : zkM} (hl : l.stackTraces = false) {x : Int} (hA : moA mem) (hx : inR x) : zkCt l G i_Mo_bound 5 0 0 [vr 7 0, vi x] mem (zkR1 (vi (moBnd mem x).1) (moBnd mem x).2) := by
  refine zkCt_of hl ok_Mo_bound (by decide +kernel) rfl rfl (List.forall_mem_cons.mpr ⟨rfl, (List.forall_mem_cons.mpr ⟨rfl, fun _ h => nomatch h⟩)⟩) (Nat.le_of_ble_eq_true rfl) ?_
  have hn := moA_n hA
  have hm := hA.1
  have hbd := moBd_b mem x.toNat
  refine m_aload_n rfl rfl rfl ?_
  refine m_aload_n rfl rfl rfl ?_
  refine m_iload_n rfl rfl rfl ?_
  refine m_cv1 rfl rfl lk_7_121 (c_isTask hl (by omega) (by omega)) rfl (by first | decide | assumption | (simp only [cnt]; omega)) (Nat.le_of_ble_eq_true rfl) rfl rfl (Nat.le_of_ble_eq_true rfl) (Nat.le_of_ble_eq_true rfl) (Nat.le_of_ble_eq_true rfl) (Nat.le_of_ble_eq_true rfl) (Nat.le_of_ble_eq_true rfl) ?_
  refine m_if_ne_d (tgt := 13) rfl rfl rfl (fun c6 => ?_) (fun c6 => ?_)
  · have hs := moA_s hA (i := x.toNat) (by omega)
    refine m_aload_n rfl rfl rfl ?_
    refine m_gr (k := 4) rfl rfl (Nat.le_of_ble_eq_true rfl) rfl rfl (by first | decide | assumption | (simp only [cnt]; omega)) ?_
    refine m_iload_n rfl rfl rfl ?_
    refine m_ialx (n := x.toNat) (y := mem 31 _ (x.toNat)) rfl rfl (Nat.le_of_ble_eq_true rfl) rfl (by first | decide | assumption | (simp only [cnt]; omega)) (by omega) (by simp only [aln]; omega) rfl ?_
    refine m_if_ne (tgt := 26) rfl rfl rfl (by omega) (fun c19 => ?_) (fun c19 => ?_)
    · refine m_iconst rfl rfl ?_
      refine m_pi (k := 0) rfl rfl (Nat.le_of_ble_eq_true rfl) rfl rfl rfl rfl (by first | decide | assumption | (simp only [cnt]; omega)) ?_
      refine m_aload_n rfl rfl rfl ?_
      refine m_gix (k := 0) (x := 0) rfl rfl (Nat.le_of_ble_eq_true rfl) rfl rfl (by first | decide | assumption | (simp only [cnt]; omega)) rfl ?_
      refine m_if_eq (tgt := 39) rfl rfl rfl (by omega) (fun c34 => ?_) (fun c34 => ?_)
      · refine m_aload_n rfl rfl rfl ?_
        refine m_iload_n rfl rfl rfl ?_
        refine m_cv1 rfl rfl lk_7_157 (show zkCt l G i_Mo_boundOf _ 0 0 _ _ (zkR1 (vi (moBd mem x.toNat)) _) from c_boundOf hl (show moA _ from hA) (i := x.toNat) (by omega) (by omega)) rfl (by first | decide | assumption | (simp only [cnt]; omega)) (Nat.le_of_ble_eq_true rfl) rfl rfl (Nat.le_of_ble_eq_true rfl) (Nat.le_of_ble_eq_true rfl) (Nat.le_of_ble_eq_true rfl) (Nat.le_of_ble_eq_true rfl) (Nat.le_of_ble_eq_true rfl) ?_
        refine m_istore_n rfl rfl (Nat.le_of_ble_eq_true rfl) rfl ?_
        refine m_iload_n rfl rfl rfl ?_
        refine m_iconst rfl rfl ?_
        refine m_icmp_ne (tgt := 58) rfl rfl rfl (by omega) (by omega) (fun c47 => ?_) (fun c47 => ?_)
        · refine m_iload_n rfl rfl rfl ?_
          refine m_iret rfl rfl rfl (Nat.le_of_ble_eq_true rfl) (Nat.le_of_ble_eq_true rfl) ?_
          unfold moBnd
          rw [if_neg (by omega), if_neg (by omega)]
          first | (rw [if_pos (by omega)]; exact ⟨rfl, rfl⟩) | (rw [if_neg (by omega)]; exact ⟨rfl, rfl⟩)
        · refine m_aload_n rfl rfl rfl ?_
          refine m_iconst rfl rfl ?_
          refine m_cv1 rfl rfl lk_7_114 (c_fail hl) rfl (by first | decide | assumption | (simp only [cnt]; omega)) (Nat.le_of_ble_eq_true rfl) rfl rfl (Nat.le_of_ble_eq_true rfl) (Nat.le_of_ble_eq_true rfl) (Nat.le_of_ble_eq_true rfl) (Nat.le_of_ble_eq_true rfl) (Nat.le_of_ble_eq_true rfl) ?_
          refine m_goto (tgt := 59) rfl rfl rfl ?_
          refine m_iret rfl rfl rfl (Nat.le_of_ble_eq_true rfl) (Nat.le_of_ble_eq_true rfl) ?_
          unfold moBnd
          rw [if_neg (by omega), if_neg (by omega)]
          first | (rw [if_pos (by omega)]; exact ⟨rfl, rfl⟩) | (rw [if_neg (by omega)]; exact ⟨rfl, rfl⟩)
      · exfalso; omega
    · refine m_iconst rfl rfl ?_
      refine m_goto (tgt := 27) rfl rfl rfl ?_
      refine m_pi (k := 0) rfl rfl (Nat.le_of_ble_eq_true rfl) rfl rfl rfl rfl (by first | decide | assumption | (simp only [cnt]; omega)) ?_
      refine m_aload_n rfl rfl rfl ?_
      refine m_gix (k := 0) (x := 2) rfl rfl (Nat.le_of_ble_eq_true rfl) rfl rfl (by first | decide | assumption | (simp only [cnt]; omega)) rfl ?_
      refine m_if_eq (tgt := 39) rfl rfl rfl (by omega) (fun c34 => ?_) (fun c34 => ?_)
      · exfalso; omega
      · refine m_iconst rfl rfl ?_
        refine m_iret rfl rfl rfl (Nat.le_of_ble_eq_true rfl) (Nat.le_of_ble_eq_true rfl) ?_
        unfold moBnd
        first | (rw [if_pos (by omega)]; exact ⟨rfl, rfl⟩) | (rw [if_neg (by omega), if_pos (by omega)]; exact ⟨rfl, rfl⟩)
  · refine m_iconst rfl rfl ?_
    refine m_goto (tgt := 27) rfl rfl rfl ?_
    refine m_pi (k := 0) rfl rfl (Nat.le_of_ble_eq_true rfl) rfl rfl rfl rfl (by first | decide | assumption | (simp only [cnt]; omega)) ?_
    refine m_aload_n rfl rfl rfl ?_
    refine m_gix (k := 0) (x := 1) rfl rfl (Nat.le_of_ble_eq_true rfl) rfl rfl (by first | decide | assumption | (simp only [cnt]; omega)) rfl ?_
    refine m_if_eq (tgt := 39) rfl rfl rfl (by omega) (fun c34 => ?_) (fun c34 => ?_)
    · exfalso; omega
    · refine m_iconst rfl rfl ?_
      refine m_iret rfl rfl rfl (Nat.le_of_ble_eq_true rfl) (Nat.le_of_ble_eq_true rfl) ?_
      unfold moBnd
      first | (rw [if_pos (by omega)]; exact ⟨rfl, rfl⟩) | (rw [if_neg (by omega), if_pos (by omega)]; exact ⟨rfl, rfl⟩)

def moWo (m : zkM) (i : Nat) (t o : Int) : Int := if moBl m i ≤ t ∧ 0 < o + moCm m i t then o + moCm m i t - 1 else o + moCm m i t
def moWw (m : zkM) (i : Nat) (t o w : Int) : Int := if moBl m i ≤ t ∧ ¬ 0 < o + moCm m i t then w - 1 else w
def moWtf (m : zkM) (i : Nat) : Nat → Int → Int → Int → Int
  | 0, _, _, _ => -1
  | k + 1, t, o, w => if moWw m i t o w = 0 then t + 1 else moWtf m i k (t + 1) (moWo m i t o) (moWw m i t o w)
def moWt (m : zkM) (i : Nat) : Int := moWtf m i 1000 0 0 (moDe m i)
def moWit (m : zkM) (x : Int) : Int × zkM := if ¬ (0 ≤ x ∧ x ≤ m 7 0 2 - 1) then (0, mset m 7 0 0 1) else if m 31 0 x.toNat = 0 then (0, mset m 7 0 0 2)
  else if moWt m x.toNat = -1 then (0, mset (mset m 7 0 0 0) 7 0 0 3) else (moWt m x.toNat, mset m 7 0 0 0)
def moWq (m : zkM) (x : Int) (r : Int) : Int × zkM := if r = -1 then (0, mset (mset m 7 0 0 0) 7 0 0 3) else (r, mset m 7 0 0 0)
theorem moWtf_b {m : zkM} {i : Nat} : ∀ (k : Nat) (t o w : Int), 0 ≤ t → t + k = 1000 → -1 ≤ moWtf m i k t o w ∧ moWtf m i k t o w ≤ 1000
  | 0, _, _, _, _, _ => by unfold moWtf; omega
  | k + 1, t, o, w, h1, h2 => by
    unfold moWtf
    split
    · omega
    · exact moWtf_b k _ _ _ (by omega) (by omega)
set_option maxHeartbeats 1000000 in
set_option maxRecDepth 10000 in
theorem w_witness {l : Launch} {G : zkG} {mem : zkM} (hl : l.stackTraces = false) {i : Nat} (hA : moA mem) (hi : i < 5) : ∀ (k : Nat) (t o w : Int), 0 ≤ t → t + k = 1000 → (0 ≤ o ∧ o ≤ 279 * t) → (-t ≤ w ∧ w ≤ 60) → zkW l G i_Mo_witness (zkKm G 5 0 0 (zkR1 (vi (moWq mem i (moWtf mem i k t o w)).1) (moWq mem i (moWtf mem i k t o w)).2)) 0 0 57 [some (vr 7 0), some (vi i), some (vi (moBl mem i)), some (vi o), some (vi w), some (vi t)] [] (mset mem 7 0 0 0) := by
  have hbl := moBl_b hA i
  intro k
  induction k with
  | zero =>
    intro t o w h1 h2 h3 h4
    refine m_iload rfl rfl rfl ?_
    refine m_sipush rfl rfl (by decide) ?_
    refine m_icmp_ge (tgt := 116) rfl rfl rfl (by omega) (by omega) (fun c62 => ?_) (fun c62 => ?_)
    · refine m_aload_n rfl rfl rfl ?_
      refine m_iconst rfl rfl ?_
      refine m_cv1 rfl rfl lk_7_114 (c_fail hl) rfl (by first | decide | assumption | (simp only [cnt]; omega)) (Nat.le_of_ble_eq_true rfl) rfl rfl (Nat.le_of_ble_eq_true rfl) (Nat.le_of_ble_eq_true rfl) (Nat.le_of_ble_eq_true rfl) (Nat.le_of_ble_eq_true rfl) (Nat.le_of_ble_eq_true rfl) ?_
      refine m_iret rfl rfl rfl (Nat.le_of_ble_eq_true rfl) (Nat.le_of_ble_eq_true rfl) ?_
      exact ⟨rfl, rfl⟩
    · exfalso; omega
  | succ k ih =>
    intro t o w h1 h2 h3 h4
    have hcm := moCm_b hA i t
    refine m_iload rfl rfl rfl ?_
    refine m_sipush rfl rfl (by decide) ?_
    refine m_icmp_ge (tgt := 116) rfl rfl rfl (by omega) (by omega) (fun c62 => ?_) (fun c62 => ?_)
    · exfalso; omega
    · refine m_iload_n rfl rfl rfl ?_
      refine m_aload_n rfl rfl rfl ?_
      refine m_iload_n rfl rfl rfl ?_
      refine m_iload rfl rfl rfl ?_
      refine m_cv1 rfl rfl lk_7_160 (show zkCt l G i_Mo_comes _ 0 0 _ _ (zkR1 (vi (moCm mem i t)) _) from c_comes hl (show moA _ from hA) (i := i) rfl (by omega) (by omega)) rfl (by first | decide | assumption | (simp only [cnt]; omega)) (Nat.le_of_ble_eq_true rfl) rfl rfl (Nat.le_of_ble_eq_true rfl) (Nat.le_of_ble_eq_true rfl) (Nat.le_of_ble_eq_true rfl) (Nat.le_of_ble_eq_true rfl) (Nat.le_of_ble_eq_true rfl) ?_
      refine m_iadd rfl rfl ?_
      refine m_istore_n rfl rfl (Nat.le_of_ble_eq_true rfl) rfl ?_
      refine m_iload rfl rfl rfl ?_
      refine m_iload_n rfl rfl rfl ?_
      refine m_icmp_lt (tgt := 91) rfl rfl rfl (by omega) (by omega) (fun c78 => ?_) (fun c78 => ?_)
      · refine m_iload rfl rfl rfl ?_
        refine m_iload_n rfl rfl rfl ?_
        refine m_icmp_lt (tgt := 100) rfl rfl rfl (by omega) (by omega) (fun c94 => ?_) (fun c94 => ?_)
        · refine m_iload rfl rfl rfl ?_
          refine m_if_ne (tgt := 110) rfl rfl rfl (by omega) (fun c102 => ?_) (fun c102 => ?_)
          · refine m_iinc rfl rfl rfl (Nat.le_of_ble_eq_true rfl) rfl ?_
            refine m_goto (tgt := 57) rfl rfl rfl ?_
            unfold moWtf
            first | (exfalso; omega) | (have e1 : moWo mem i t o = o + moCm mem i t - 1 := if_pos (by omega); have e2 : moWw mem i t o w = w := if_neg (by omega); rw [e1, e2, if_neg (by omega)]; exact ih _ _ _ (by omega) (by omega) (by omega) (by omega)) | (have e1 : moWo mem i t o = o + moCm mem i t := if_neg (by omega); have e2 : moWw mem i t o w = w - 1 := if_pos (by omega); rw [e1, e2, if_neg (by omega)]; exact ih _ _ _ (by omega) (by omega) (by omega) (by omega)) | (have e1 : moWo mem i t o = o + moCm mem i t := if_neg (by omega); have e2 : moWw mem i t o w = w := if_neg (by omega); rw [e1, e2, if_neg (by omega)]; exact ih _ _ _ (by omega) (by omega) (by omega) (by omega))
          · refine m_iload rfl rfl rfl ?_
            refine m_iconst rfl rfl ?_
            refine m_iadd rfl rfl ?_
            refine m_iret rfl rfl rfl (Nat.le_of_ble_eq_true rfl) (Nat.le_of_ble_eq_true rfl) ?_
            unfold moWtf
            first | rw [if_pos (show moWw mem i t o w = 0 by unfold moWw; rw [if_pos (by omega)]; omega)] | rw [if_pos (show moWw mem i t o w = 0 by unfold moWw; rw [if_neg (by omega)]; omega)]
            unfold moWq
            rw [if_neg (by omega)]
            exact ⟨rfl, rfl⟩
        · refine m_iinc rfl rfl rfl (Nat.le_of_ble_eq_true rfl) rfl ?_
          refine m_iload rfl rfl rfl ?_
          refine m_if_ne (tgt := 110) rfl rfl rfl (by omega) (fun c102 => ?_) (fun c102 => ?_)
          · refine m_iinc rfl rfl rfl (Nat.le_of_ble_eq_true rfl) rfl ?_
            refine m_goto (tgt := 57) rfl rfl rfl ?_
            unfold moWtf
            first | (exfalso; omega) | (have e1 : moWo mem i t o = o + moCm mem i t - 1 := if_pos (by omega); have e2 : moWw mem i t o w = w := if_neg (by omega); rw [e1, e2, if_neg (by omega)]; exact ih _ _ _ (by omega) (by omega) (by omega) (by omega)) | (have e1 : moWo mem i t o = o + moCm mem i t := if_neg (by omega); have e2 : moWw mem i t o w = w - 1 := if_pos (by omega); rw [e1, e2, if_neg (by omega)]; exact ih _ _ _ (by omega) (by omega) (by omega) (by omega)) | (have e1 : moWo mem i t o = o + moCm mem i t := if_neg (by omega); have e2 : moWw mem i t o w = w := if_neg (by omega); rw [e1, e2, if_neg (by omega)]; exact ih _ _ _ (by omega) (by omega) (by omega) (by omega))
          · refine m_iload rfl rfl rfl ?_
            refine m_iconst rfl rfl ?_
            refine m_iadd rfl rfl ?_
            refine m_iret rfl rfl rfl (Nat.le_of_ble_eq_true rfl) (Nat.le_of_ble_eq_true rfl) ?_
            unfold moWtf
            first | rw [if_pos (show moWw mem i t o w = 0 by unfold moWw; rw [if_pos (by omega)]; omega)] | rw [if_pos (show moWw mem i t o w = 0 by unfold moWw; rw [if_neg (by omega)]; omega)]
            unfold moWq
            rw [if_neg (by omega)]
            exact ⟨rfl, rfl⟩
      · refine m_iload_n rfl rfl rfl ?_
        refine m_if_le (tgt := 91) rfl rfl rfl (by omega) (fun c82 => ?_) (fun c82 => ?_)
        · refine m_iload rfl rfl rfl ?_
          refine m_iload_n rfl rfl rfl ?_
          refine m_icmp_lt (tgt := 100) rfl rfl rfl (by omega) (by omega) (fun c94 => ?_) (fun c94 => ?_)
          · refine m_iload rfl rfl rfl ?_
            refine m_if_ne (tgt := 110) rfl rfl rfl (by omega) (fun c102 => ?_) (fun c102 => ?_)
            · refine m_iinc rfl rfl rfl (Nat.le_of_ble_eq_true rfl) rfl ?_
              refine m_goto (tgt := 57) rfl rfl rfl ?_
              unfold moWtf
              first | (exfalso; omega) | (have e1 : moWo mem i t o = o + moCm mem i t - 1 := if_pos (by omega); have e2 : moWw mem i t o w = w := if_neg (by omega); rw [e1, e2, if_neg (by omega)]; exact ih _ _ _ (by omega) (by omega) (by omega) (by omega)) | (have e1 : moWo mem i t o = o + moCm mem i t := if_neg (by omega); have e2 : moWw mem i t o w = w - 1 := if_pos (by omega); rw [e1, e2, if_neg (by omega)]; exact ih _ _ _ (by omega) (by omega) (by omega) (by omega)) | (have e1 : moWo mem i t o = o + moCm mem i t := if_neg (by omega); have e2 : moWw mem i t o w = w := if_neg (by omega); rw [e1, e2, if_neg (by omega)]; exact ih _ _ _ (by omega) (by omega) (by omega) (by omega))
            · refine m_iload rfl rfl rfl ?_
              refine m_iconst rfl rfl ?_
              refine m_iadd rfl rfl ?_
              refine m_iret rfl rfl rfl (Nat.le_of_ble_eq_true rfl) (Nat.le_of_ble_eq_true rfl) ?_
              unfold moWtf
              first | rw [if_pos (show moWw mem i t o w = 0 by unfold moWw; rw [if_pos (by omega)]; omega)] | rw [if_pos (show moWw mem i t o w = 0 by unfold moWw; rw [if_neg (by omega)]; omega)]
              unfold moWq
              rw [if_neg (by omega)]
              exact ⟨rfl, rfl⟩
          · refine m_iinc rfl rfl rfl (Nat.le_of_ble_eq_true rfl) rfl ?_
            refine m_iload rfl rfl rfl ?_
            refine m_if_ne (tgt := 110) rfl rfl rfl (by omega) (fun c102 => ?_) (fun c102 => ?_)
            · refine m_iinc rfl rfl rfl (Nat.le_of_ble_eq_true rfl) rfl ?_
              refine m_goto (tgt := 57) rfl rfl rfl ?_
              unfold moWtf
              first | (exfalso; omega) | (have e1 : moWo mem i t o = o + moCm mem i t - 1 := if_pos (by omega); have e2 : moWw mem i t o w = w := if_neg (by omega); rw [e1, e2, if_neg (by omega)]; exact ih _ _ _ (by omega) (by omega) (by omega) (by omega)) | (have e1 : moWo mem i t o = o + moCm mem i t := if_neg (by omega); have e2 : moWw mem i t o w = w - 1 := if_pos (by omega); rw [e1, e2, if_neg (by omega)]; exact ih _ _ _ (by omega) (by omega) (by omega) (by omega)) | (have e1 : moWo mem i t o = o + moCm mem i t := if_neg (by omega); have e2 : moWw mem i t o w = w := if_neg (by omega); rw [e1, e2, if_neg (by omega)]; exact ih _ _ _ (by omega) (by omega) (by omega) (by omega))
            · refine m_iload rfl rfl rfl ?_
              refine m_iconst rfl rfl ?_
              refine m_iadd rfl rfl ?_
              refine m_iret rfl rfl rfl (Nat.le_of_ble_eq_true rfl) (Nat.le_of_ble_eq_true rfl) ?_
              unfold moWtf
              first | rw [if_pos (show moWw mem i t o w = 0 by unfold moWw; rw [if_pos (by omega)]; omega)] | rw [if_pos (show moWw mem i t o w = 0 by unfold moWw; rw [if_neg (by omega)]; omega)]
              unfold moWq
              rw [if_neg (by omega)]
              exact ⟨rfl, rfl⟩
        · refine m_iinc rfl rfl rfl (Nat.le_of_ble_eq_true rfl) rfl ?_
          refine m_goto (tgt := 100) rfl rfl rfl ?_
          refine m_iload rfl rfl rfl ?_
          refine m_if_ne (tgt := 110) rfl rfl rfl (by omega) (fun c102 => ?_) (fun c102 => ?_)
          · refine m_iinc rfl rfl rfl (Nat.le_of_ble_eq_true rfl) rfl ?_
            refine m_goto (tgt := 57) rfl rfl rfl ?_
            unfold moWtf
            first | (exfalso; omega) | (have e1 : moWo mem i t o = o + moCm mem i t - 1 := if_pos (by omega); have e2 : moWw mem i t o w = w := if_neg (by omega); rw [e1, e2, if_neg (by omega)]; exact ih _ _ _ (by omega) (by omega) (by omega) (by omega)) | (have e1 : moWo mem i t o = o + moCm mem i t := if_neg (by omega); have e2 : moWw mem i t o w = w - 1 := if_pos (by omega); rw [e1, e2, if_neg (by omega)]; exact ih _ _ _ (by omega) (by omega) (by omega) (by omega)) | (have e1 : moWo mem i t o = o + moCm mem i t := if_neg (by omega); have e2 : moWw mem i t o w = w := if_neg (by omega); rw [e1, e2, if_neg (by omega)]; exact ih _ _ _ (by omega) (by omega) (by omega) (by omega))
          · refine m_iload rfl rfl rfl ?_
            refine m_iconst rfl rfl ?_
            refine m_iadd rfl rfl ?_
            refine m_iret rfl rfl rfl (Nat.le_of_ble_eq_true rfl) (Nat.le_of_ble_eq_true rfl) ?_
            unfold moWtf
            first | rw [if_pos (show moWw mem i t o w = 0 by unfold moWw; rw [if_pos (by omega)]; omega)] | rw [if_pos (show moWw mem i t o w = 0 by unfold moWw; rw [if_neg (by omega)]; omega)]
            unfold moWq
            rw [if_neg (by omega)]
            exact ⟨rfl, rfl⟩

set_option maxRecDepth 10000 in
theorem c_mowitness {l : Launch} {G : zkG} {mem : zkM} (hl : l.stackTraces = false) {x : Int} (hA : moA mem) (hx : inR x) : zkCt l G i_Mo_witness 5 0 0 [vr 7 0, vi x] mem (zkR1 (vi (moWit mem x).1) (moWit mem x).2) := by
  refine zkCt_of hl ok_Mo_witness (by decide +kernel) rfl rfl (List.forall_mem_cons.mpr ⟨rfl, (List.forall_mem_cons.mpr ⟨rfl, fun _ h => nomatch h⟩)⟩) (Nat.le_of_ble_eq_true rfl) ?_
  have hn := moA_n hA
  have hm := hA.1
  refine m_aload_n rfl rfl rfl ?_
  refine m_aload_n rfl rfl rfl ?_
  refine m_iload_n rfl rfl rfl ?_
  refine m_cv1 rfl rfl lk_7_121 (c_isTask hl (by omega) (by omega)) rfl (by first | decide | assumption | (simp only [cnt]; omega)) (Nat.le_of_ble_eq_true rfl) rfl rfl (Nat.le_of_ble_eq_true rfl) (Nat.le_of_ble_eq_true rfl) (Nat.le_of_ble_eq_true rfl) (Nat.le_of_ble_eq_true rfl) (Nat.le_of_ble_eq_true rfl) ?_
  refine m_if_ne_d (tgt := 13) rfl rfl rfl (fun c6 => ?_) (fun c6 => ?_)
  · obtain ⟨i, rfl⟩ : ∃ i : Nat, x = i := ⟨x.toNat, by omega⟩
    have hs := moA_s hA (i := i) (by omega)
    refine m_aload_n rfl rfl rfl ?_
    refine m_gr (k := 4) rfl rfl (Nat.le_of_ble_eq_true rfl) rfl rfl (by first | decide | assumption | (simp only [cnt]; omega)) ?_
    refine m_iload_n rfl rfl rfl ?_
    refine m_ialx (n := i) (y := mem 31 _ (i)) rfl rfl (Nat.le_of_ble_eq_true rfl) rfl (by first | decide | assumption | (simp only [cnt]; omega)) (by omega) (by simp only [aln]; omega) rfl ?_
    refine m_if_ne (tgt := 26) rfl rfl rfl (by omega) (fun c19 => ?_) (fun c19 => ?_)
    · refine m_iconst rfl rfl ?_
      refine m_pi (k := 0) rfl rfl (Nat.le_of_ble_eq_true rfl) rfl rfl rfl rfl (by first | decide | assumption | (simp only [cnt]; omega)) ?_
      refine m_aload_n rfl rfl rfl ?_
      refine m_gix (k := 0) (x := 0) rfl rfl (Nat.le_of_ble_eq_true rfl) rfl rfl (by first | decide | assumption | (simp only [cnt]; omega)) rfl ?_
      refine m_if_eq (tgt := 39) rfl rfl rfl (by omega) (fun c34 => ?_) (fun c34 => ?_)
      · refine m_aload_n rfl rfl rfl ?_
        refine m_iload_n rfl rfl rfl ?_
        refine m_cv1 rfl rfl lk_7_145 (show zkCt l G i_Mo_blockingOf _ 0 0 _ _ (zkR1 (vi (moBl mem i)) _) from c_blockingOf hl (show moA _ from hA) (i := i) rfl (by omega)) rfl (by first | decide | assumption | (simp only [cnt]; omega)) (Nat.le_of_ble_eq_true rfl) rfl rfl (Nat.le_of_ble_eq_true rfl) (Nat.le_of_ble_eq_true rfl) (Nat.le_of_ble_eq_true rfl) (Nat.le_of_ble_eq_true rfl) (Nat.le_of_ble_eq_true rfl) ?_
        refine m_istore_n rfl rfl (Nat.le_of_ble_eq_true rfl) rfl ?_
        refine m_iconst rfl rfl ?_
        refine m_istore_n rfl rfl (Nat.le_of_ble_eq_true rfl) rfl ?_
        refine m_aload_n rfl rfl rfl ?_
        refine m_iload_n rfl rfl rfl ?_
        refine m_cv1 rfl rfl lk_7_131 (show zkCt l G i_Mo_demandOf _ 0 0 _ _ (zkR1 (vi (moDe mem i)) _) from c_demandOf hl (show moA _ from hA) (i := i) rfl (by omega)) rfl (by first | decide | assumption | (simp only [cnt]; omega)) (Nat.le_of_ble_eq_true rfl) rfl rfl (Nat.le_of_ble_eq_true rfl) (Nat.le_of_ble_eq_true rfl) (Nat.le_of_ble_eq_true rfl) (Nat.le_of_ble_eq_true rfl) (Nat.le_of_ble_eq_true rfl) ?_
        refine m_istore rfl rfl (Nat.le_of_ble_eq_true rfl) rfl ?_
        refine m_iconst rfl rfl ?_
        refine m_istore rfl rfl (Nat.le_of_ble_eq_true rfl) rfl ?_
        have hde := moDe_b hA (i := i) (by omega)
        unfold moWit
        rw [if_neg (by omega), if_neg (by simp only [Int.toNat_natCast]; omega)]
        exact w_witness hl hA (by omega) 1000 0 0 (moDe mem i) (by omega) (by omega) (by omega) (by omega)
      · exfalso; omega
    · refine m_iconst rfl rfl ?_
      refine m_goto (tgt := 27) rfl rfl rfl ?_
      refine m_pi (k := 0) rfl rfl (Nat.le_of_ble_eq_true rfl) rfl rfl rfl rfl (by first | decide | assumption | (simp only [cnt]; omega)) ?_
      refine m_aload_n rfl rfl rfl ?_
      refine m_gix (k := 0) (x := 2) rfl rfl (Nat.le_of_ble_eq_true rfl) rfl rfl (by first | decide | assumption | (simp only [cnt]; omega)) rfl ?_
      refine m_if_eq (tgt := 39) rfl rfl rfl (by omega) (fun c34 => ?_) (fun c34 => ?_)
      · exfalso; omega
      · refine m_iconst rfl rfl ?_
        refine m_iret rfl rfl rfl (Nat.le_of_ble_eq_true rfl) (Nat.le_of_ble_eq_true rfl) ?_
        unfold moWit
        first | (rw [if_pos (by omega)]; exact ⟨rfl, rfl⟩) | (rw [if_neg (by omega), if_pos (by simp only [Int.toNat_natCast]; omega)]; exact ⟨rfl, rfl⟩)
  · refine m_iconst rfl rfl ?_
    refine m_goto (tgt := 27) rfl rfl rfl ?_
    refine m_pi (k := 0) rfl rfl (Nat.le_of_ble_eq_true rfl) rfl rfl rfl rfl (by first | decide | assumption | (simp only [cnt]; omega)) ?_
    refine m_aload_n rfl rfl rfl ?_
    refine m_gix (k := 0) (x := 1) rfl rfl (Nat.le_of_ble_eq_true rfl) rfl rfl (by first | decide | assumption | (simp only [cnt]; omega)) rfl ?_
    refine m_if_eq (tgt := 39) rfl rfl rfl (by omega) (fun c34 => ?_) (fun c34 => ?_)
    · exfalso; omega
    · refine m_iconst rfl rfl ?_
      refine m_iret rfl rfl rfl (Nat.le_of_ble_eq_true rfl) (Nat.le_of_ble_eq_true rfl) ?_
      unfold moWit
      first | (rw [if_pos (by omega)]; exact ⟨rfl, rfl⟩) | (rw [if_neg (by omega), if_pos (by simp only [Int.toNat_natCast]; omega)]; exact ⟨rfl, rfl⟩)

def moSf (m : zkM) (j : Nat) (s : Bool) : Bool := s && (decide ((if m 31 0 j = 0 then 1 else moBd m j) ≠ -1) && decide ((if m 31 0 j = 0 then 1 else moBd m j) ≤ m 30 0 (4 * j + 2)))
def moSch (m : zkM) : Bool := lp (moSf m) (moN m) true
set_option maxRecDepth 10000 in
theorem c_moisSched {l : Launch} {G : zkG} {mem : zkM} (hl : l.stackTraces = false) (hA : moA mem) : zkCt l G i_Mo_isSchedulable 5 0 0 [vr 7 0] mem (zkR1 (vi (b2i (moSch mem))) (mset mem 7 0 0 0)) := by
  refine zkCt_of hl ok_Mo_isSchedulable (by decide +kernel) rfl rfl (List.forall_mem_cons.mpr ⟨rfl, fun _ h => nomatch h⟩) (Nat.le_of_ble_eq_true rfl) ?_
  have hn := moA_n hA
  have hm := hA.1
  refine m_aload_n rfl rfl rfl ?_
  refine m_iconst rfl rfl ?_
  refine m_pi (k := 0) rfl rfl (Nat.le_of_ble_eq_true rfl) rfl rfl rfl rfl (by first | decide | assumption | (simp only [cnt]; omega)) ?_
  refine m_iconst rfl rfl ?_
  refine m_istore_n rfl rfl (Nat.le_of_ble_eq_true rfl) rfl ?_
  refine m_iconst rfl rfl ?_
  refine m_istore_n rfl rfl (Nat.le_of_ble_eq_true rfl) rfl ?_
  refine zk_loop (P := fun (j : Nat) (s : Bool) => zkW l G i_Mo_isSchedulable _ 0 0 9 [some (vr 7 0), some (vi (b2i s)), some (vi j), none] [] (mset mem 7 0 0 0)) (I := fun _ _ => True) (moSf mem) (moN mem) true trivial (fun _ _ _ _ => trivial) (fun j s hj _ hk => ?_) (fun _ => ?_)
  · have hs := moA_s hA (i := j) (by omega)
    have hd := (hA.2.2.1 j (by omega)).2.2.1
    have hbd := moBd_b mem j
    unfold moSf at hk
    refine m_iload_n rfl rfl rfl ?_
    refine m_aload_n rfl rfl rfl ?_
    refine m_gix (k := 2) (x := mem 7 _ 2) rfl rfl (Nat.le_of_ble_eq_true rfl) rfl rfl (by first | decide | assumption | (simp only [cnt]; omega)) rfl ?_
    refine m_icmp_ge (tgt := 71) rfl rfl rfl (by omega) (by omega) (fun c14 => ?_) (fun c14 => ?_)
    · exfalso; omega
    · refine m_aload_n rfl rfl rfl ?_
      refine m_gr (k := 4) rfl rfl (Nat.le_of_ble_eq_true rfl) rfl rfl (by first | decide | assumption | (simp only [cnt]; omega)) ?_
      refine m_iload_n rfl rfl rfl ?_
      refine m_ialx (n := j) (y := mem 31 _ (j)) rfl rfl (Nat.le_of_ble_eq_true rfl) rfl (by first | decide | assumption | (simp only [cnt]; omega)) (by omega) (by simp only [aln]; omega) rfl ?_
      refine m_if_ne (tgt := 30) rfl rfl rfl (by omega) (fun c23 => ?_) (fun c23 => ?_)
      · refine m_aload_n rfl rfl rfl ?_
        refine m_iload_n rfl rfl rfl ?_
        refine m_cv1 rfl rfl lk_7_157 (show zkCt l G i_Mo_boundOf _ 0 0 _ _ (zkR1 (vi (moBd mem j)) _) from c_boundOf hl (show moA _ from hA) (i := j) rfl (by omega)) rfl (by first | decide | assumption | (simp only [cnt]; omega)) (Nat.le_of_ble_eq_true rfl) rfl rfl (Nat.le_of_ble_eq_true rfl) (Nat.le_of_ble_eq_true rfl) (Nat.le_of_ble_eq_true rfl) (Nat.le_of_ble_eq_true rfl) (Nat.le_of_ble_eq_true rfl) ?_
        refine m_istore_n rfl rfl (Nat.le_of_ble_eq_true rfl) rfl ?_
        refine m_iload_n rfl rfl rfl ?_
        refine m_if_eq_b (tgt := 63) rfl rfl rfl (fun c37 => ?_) (fun c37 => ?_)
        · refine m_iconst rfl rfl ?_
          refine m_istore_n rfl rfl (Nat.le_of_ble_eq_true rfl) rfl ?_
          refine m_iinc rfl rfl rfl (Nat.le_of_ble_eq_true rfl) rfl ?_
          refine m_goto (tgt := 9) rfl rfl rfl ?_
          refine zk_fg 3 ?_
          subst c37
          first | rw [if_pos (by omega)] at hk | rw [if_neg (by omega)] at hk
          first | exact hk | (rw [df (by omega)] at hk; exact hk) | (rw [dt (by omega), df (by omega)] at hk; exact hk) | (rw [dt (by omega), dt (by omega)] at hk; exact hk)
        · refine m_iload_n rfl rfl rfl ?_
          refine m_iconst rfl rfl ?_
          refine m_icmp_eq (tgt := 63) rfl rfl rfl (by omega) (by omega) (fun c42 => ?_) (fun c42 => ?_)
          · refine m_iconst rfl rfl ?_
            refine m_istore_n rfl rfl (Nat.le_of_ble_eq_true rfl) rfl ?_
            refine m_iinc rfl rfl rfl (Nat.le_of_ble_eq_true rfl) rfl ?_
            refine m_goto (tgt := 9) rfl rfl rfl ?_
            refine zk_fg 3 ?_
            subst c37
            first | rw [if_pos (by omega)] at hk | rw [if_neg (by omega)] at hk
            first | exact hk | (rw [df (by omega)] at hk; exact hk) | (rw [dt (by omega), df (by omega)] at hk; exact hk) | (rw [dt (by omega), dt (by omega)] at hk; exact hk)
          · refine m_iload_n rfl rfl rfl ?_
            refine m_aload_n rfl rfl rfl ?_
            refine m_gr (k := 3) rfl rfl (Nat.le_of_ble_eq_true rfl) rfl rfl (by first | decide | assumption | (simp only [cnt]; omega)) ?_
            refine m_iconst rfl rfl ?_
            refine m_iload_n rfl rfl rfl ?_
            refine m_imul rfl rfl ?_
            refine m_iconst rfl rfl ?_
            refine m_iadd rfl rfl ?_
            refine m_ialx (n := 4 * j + 2) (y := mem 30 _ (4 * j + 2)) rfl rfl (Nat.le_of_ble_eq_true rfl) rfl (by first | decide | assumption | (simp only [cnt]; omega)) (by omega) (by simp only [aln]; omega) rfl ?_
            refine m_icmp_gt (tgt := 63) rfl rfl rfl (by omega) (by omega) (fun c56 => ?_) (fun c56 => ?_)
            · refine m_iconst rfl rfl ?_
              refine m_istore_n rfl rfl (Nat.le_of_ble_eq_true rfl) rfl ?_
              refine m_iinc rfl rfl rfl (Nat.le_of_ble_eq_true rfl) rfl ?_
              refine m_goto (tgt := 9) rfl rfl rfl ?_
              refine zk_fg 3 ?_
              subst c37
              first | rw [if_pos (by omega)] at hk | rw [if_neg (by omega)] at hk
              first | exact hk | (rw [df (by omega)] at hk; exact hk) | (rw [dt (by omega), df (by omega)] at hk; exact hk) | (rw [dt (by omega), dt (by omega)] at hk; exact hk)
            · refine m_iconst rfl rfl ?_
              refine m_goto (tgt := 64) rfl rfl rfl ?_
              refine m_istore_n rfl rfl (Nat.le_of_ble_eq_true rfl) rfl ?_
              refine m_iinc rfl rfl rfl (Nat.le_of_ble_eq_true rfl) rfl ?_
              refine m_goto (tgt := 9) rfl rfl rfl ?_
              refine zk_fg 3 ?_
              subst c37
              first | rw [if_pos (by omega)] at hk | rw [if_neg (by omega)] at hk
              first | exact hk | (rw [df (by omega)] at hk; exact hk) | (rw [dt (by omega), df (by omega)] at hk; exact hk) | (rw [dt (by omega), dt (by omega)] at hk; exact hk)
      · refine m_iconst rfl rfl ?_
        refine m_goto (tgt := 35) rfl rfl rfl ?_
        refine m_istore_n rfl rfl (Nat.le_of_ble_eq_true rfl) rfl ?_
        refine m_iload_n rfl rfl rfl ?_
        refine m_if_eq_b (tgt := 63) rfl rfl rfl (fun c37 => ?_) (fun c37 => ?_)
        · refine m_iconst rfl rfl ?_
          refine m_istore_n rfl rfl (Nat.le_of_ble_eq_true rfl) rfl ?_
          refine m_iinc rfl rfl rfl (Nat.le_of_ble_eq_true rfl) rfl ?_
          refine m_goto (tgt := 9) rfl rfl rfl ?_
          refine zk_fg 3 ?_
          subst c37
          first | rw [if_pos (by omega)] at hk | rw [if_neg (by omega)] at hk
          first | exact hk | (rw [df (by omega)] at hk; exact hk) | (rw [dt (by omega), df (by omega)] at hk; exact hk) | (rw [dt (by omega), dt (by omega)] at hk; exact hk)
        · refine m_iload_n rfl rfl rfl ?_
          refine m_iconst rfl rfl ?_
          refine m_icmp_eq (tgt := 63) rfl rfl rfl (by omega) (by omega) (fun c42 => ?_) (fun c42 => ?_)
          · exfalso; omega
          · refine m_iload_n rfl rfl rfl ?_
            refine m_aload_n rfl rfl rfl ?_
            refine m_gr (k := 3) rfl rfl (Nat.le_of_ble_eq_true rfl) rfl rfl (by first | decide | assumption | (simp only [cnt]; omega)) ?_
            refine m_iconst rfl rfl ?_
            refine m_iload_n rfl rfl rfl ?_
            refine m_imul rfl rfl ?_
            refine m_iconst rfl rfl ?_
            refine m_iadd rfl rfl ?_
            refine m_ialx (n := 4 * j + 2) (y := mem 30 _ (4 * j + 2)) rfl rfl (Nat.le_of_ble_eq_true rfl) rfl (by first | decide | assumption | (simp only [cnt]; omega)) (by omega) (by simp only [aln]; omega) rfl ?_
            refine m_icmp_gt (tgt := 63) rfl rfl rfl (by omega) (by omega) (fun c56 => ?_) (fun c56 => ?_)
            · refine m_iconst rfl rfl ?_
              refine m_istore_n rfl rfl (Nat.le_of_ble_eq_true rfl) rfl ?_
              refine m_iinc rfl rfl rfl (Nat.le_of_ble_eq_true rfl) rfl ?_
              refine m_goto (tgt := 9) rfl rfl rfl ?_
              refine zk_fg 3 ?_
              subst c37
              first | rw [if_pos (by omega)] at hk | rw [if_neg (by omega)] at hk
              first | exact hk | (rw [df (by omega)] at hk; exact hk) | (rw [dt (by omega), df (by omega)] at hk; exact hk) | (rw [dt (by omega), dt (by omega)] at hk; exact hk)
            · refine m_iconst rfl rfl ?_
              refine m_goto (tgt := 64) rfl rfl rfl ?_
              refine m_istore_n rfl rfl (Nat.le_of_ble_eq_true rfl) rfl ?_
              refine m_iinc rfl rfl rfl (Nat.le_of_ble_eq_true rfl) rfl ?_
              refine m_goto (tgt := 9) rfl rfl rfl ?_
              refine zk_fg 3 ?_
              subst c37
              first | rw [if_pos (by omega)] at hk | rw [if_neg (by omega)] at hk
              first | exact hk | (rw [df (by omega)] at hk; exact hk) | (rw [dt (by omega), df (by omega)] at hk; exact hk) | (rw [dt (by omega), dt (by omega)] at hk; exact hk)
  · refine m_iload_n rfl rfl rfl ?_
    refine m_aload_n rfl rfl rfl ?_
    refine m_gix (k := 2) (x := mem 7 _ 2) rfl rfl (Nat.le_of_ble_eq_true rfl) rfl rfl (by first | decide | assumption | (simp only [cnt]; omega)) rfl ?_
    refine m_icmp_ge (tgt := 71) rfl rfl rfl (by omega) (by omega) (fun c14 => ?_) (fun c14 => ?_)
    · refine m_iload_n rfl rfl rfl ?_
      refine m_zret rfl rfl rfl (Nat.le_of_ble_eq_true rfl) (Nat.le_of_ble_eq_true rfl) ?_
      exact ⟨rfl, rfl⟩
    · exfalso; omega
end
section
/-! the reference: the simulation's steps -/
def moF1 (k : Nat) (q : Nat × zkM) : Nat × zkM :=
  if q.2 43 0 (2 * k) ≤ q.2 7 0 11 then (q.1, mset q.2 7 0 19 (q.2 7 0 19 + q.2 43 0 (2 * k + 1)))
  else (q.1 + 1, mset (mset q.2 43 0 (2 * q.1) (q.2 43 0 (2 * k))) 43 0 (2 * q.1 + 1) ((mset q.2 43 0 (2 * q.1) (q.2 43 0 (2 * k))) 43 0 (2 * k + 1)))
def moRepl (m : zkM) : zkM := mset (lp moF1 (m 7 0 26).toNat (0, m)).2 7 0 26 ((lp moF1 (m 7 0 26).toNat (0, m)).1 : Int)
def moI1 (m : zkM) (j : Nat) (q : Nat × zkM) : Prop := q.1 ≤ j ∧ q.2 7 0 26 = m 7 0 26 ∧ q.2 7 0 11 = m 7 0 11 ∧ ∀ k, k < 800 → inR (q.2 43 0 k)
theorem moI1_s {m : zkM} {j : Nat} {q : Nat × zkM} (hj : j < 399) (h : moI1 m j q) : moI1 m (j + 1) (moF1 j q) := by
  obtain ⟨h1, h2, h3, h4⟩ := h
  unfold moF1
  split
  · refine ⟨by dsimp only; omega, h2, h3, h4⟩
  · refine ⟨by dsimp only; omega, h2, h3, fun k hk => ?_⟩
    have a1 := h4 (2 * j) (by omega)
    have a2 := h4 (2 * j + 1) (by omega)
    have a3 := h4 k hk
    simp only [mset]
    split
    · split <;> omega
    · split <;> omega
set_option maxRecDepth 10000 in
theorem c_motakeRepl {l : Launch} {G : zkG} {mem : zkM} (hl : l.stackTraces = false) (h1 : 0 ≤ mem 7 0 26 ∧ mem 7 0 26 ≤ 399) (h2 : inR (mem 7 0 11)) (h3 : ∀ k, k < 800 → inR (mem 43 0 k)) : zkCt l G i_Mo_takeReplenishments 0 0 0 [vr 7 0] mem (zkR0 (moRepl mem)) := by
  refine zkCt_of hl ok_Mo_takeReplenishments (by decide +kernel) rfl rfl (List.forall_mem_cons.mpr ⟨rfl, fun _ h => nomatch h⟩) (Nat.le_of_ble_eq_true rfl) ?_
  refine m_iconst rfl rfl ?_
  refine m_istore_n rfl rfl (Nat.le_of_ble_eq_true rfl) rfl ?_
  refine m_iconst rfl rfl ?_
  refine m_istore_n rfl rfl (Nat.le_of_ble_eq_true rfl) rfl ?_
  refine zk_loop (P := fun (j : Nat) (q : Nat × zkM) => zkW l G i_Mo_takeReplenishments _ 0 0 4 [some (vr 7 0), some (vi q.1), some (vi j)] [] q.2) (I := moI1 mem) moF1 (mem 7 0 26).toNat (0, mem) ⟨by omega, rfl, rfl, h3⟩ (fun j q hj hI => moI1_s (by omega) hI) (fun j q hj hI hk => ?_) (fun hI => ?_)
  · obtain ⟨kp, s⟩ := q
    obtain ⟨i1, i2, i3, i4⟩ := hI
    dsimp only at i1 i2 i3 i4 hk ⊢
    have a1 := i4 (2 * j) (by omega)
    unfold moF1 at hk
    dsimp only at hk
    refine m_iload_n rfl rfl rfl ?_
    refine m_aload_n rfl rfl rfl ?_
    refine m_gix (k := 26) (x := s 7 _ 26) rfl rfl (Nat.le_of_ble_eq_true rfl) rfl rfl (by first | decide | assumption | (simp only [cnt]; omega)) rfl ?_
    refine m_icmp_ge (tgt := 94) rfl rfl rfl (by omega) (by omega) (fun c9 => ?_) (fun c9 => ?_)
    · exfalso; omega
    · refine m_aload_n rfl rfl rfl ?_
      refine m_gr (k := 25) rfl rfl (Nat.le_of_ble_eq_true rfl) rfl rfl (by first | decide | assumption | (simp only [cnt]; omega)) ?_
      refine m_iconst rfl rfl ?_
      refine m_iload_n rfl rfl rfl ?_
      refine m_imul rfl rfl ?_
      refine m_ialx (n := 2 * j) (y := s 43 _ (2 * j)) rfl rfl (Nat.le_of_ble_eq_true rfl) rfl (by first | decide | assumption | (simp only [cnt]; omega)) (by omega) (by simp only [aln]; omega) rfl ?_
      refine m_aload_n rfl rfl rfl ?_
      refine m_gix (k := 11) (x := s 7 _ 11) rfl rfl (Nat.le_of_ble_eq_true rfl) rfl rfl (by first | decide | assumption | (simp only [cnt]; omega)) rfl ?_
      refine m_icmp_gt (tgt := 49) rfl rfl rfl (by omega) (by omega) (fun c24 => ?_) (fun c24 => ?_)
      · refine m_aload_n rfl rfl rfl ?_
        refine m_gr (k := 25) rfl rfl (Nat.le_of_ble_eq_true rfl) rfl rfl (by first | decide | assumption | (simp only [cnt]; omega)) ?_
        refine m_iconst rfl rfl ?_
        refine m_iload_n rfl rfl rfl ?_
        refine m_imul rfl rfl ?_
        refine m_aload_n rfl rfl rfl ?_
        refine m_gr (k := 25) rfl rfl (Nat.le_of_ble_eq_true rfl) rfl rfl (by first | decide | assumption | (simp only [cnt]; omega)) ?_
        refine m_iconst rfl rfl ?_
        refine m_iload_n rfl rfl rfl ?_
        refine m_imul rfl rfl ?_
        refine m_ialx (n := 2 * j) (y := s 43 _ (2 * j)) rfl rfl (Nat.le_of_ble_eq_true rfl) rfl (by first | decide | assumption | (simp only [cnt]; omega)) (by omega) (by simp only [aln]; omega) rfl ?_
        refine m_iasn (n := 2 * kp) rfl rfl (Nat.le_of_ble_eq_true rfl) rfl (by first | decide | assumption | (simp only [cnt]; omega)) (by omega) (by simp only [aln]; omega) ?_
        refine m_aload_n rfl rfl rfl ?_
        refine m_gr (k := 25) rfl rfl (Nat.le_of_ble_eq_true rfl) rfl rfl (by first | decide | assumption | (simp only [cnt]; omega)) ?_
        refine m_iconst rfl rfl ?_
        refine m_iload_n rfl rfl rfl ?_
        refine m_imul rfl rfl ?_
        refine m_iconst rfl rfl ?_
        refine m_iadd rfl rfl ?_
        refine m_aload_n rfl rfl rfl ?_
        refine m_gr (k := 25) rfl rfl (Nat.le_of_ble_eq_true rfl) rfl rfl (by first | decide | assumption | (simp only [cnt]; omega)) ?_
        refine m_iconst rfl rfl ?_
        refine m_iload_n rfl rfl rfl ?_
        refine m_imul rfl rfl ?_
        refine m_iconst rfl rfl ?_
        refine m_iadd rfl rfl ?_
        refine m_ialn (n := 2 * j + 1) rfl rfl (Nat.le_of_ble_eq_true rfl) rfl (by first | decide | assumption | (simp only [cnt]; omega)) (by omega) (by simp only [aln]; omega) ?_
        refine m_iasn (n := 2 * kp + 1) rfl rfl (Nat.le_of_ble_eq_true rfl) rfl (by first | decide | assumption | (simp only [cnt]; omega)) (by omega) (by simp only [aln]; omega) ?_
        refine m_iinc rfl rfl rfl (Nat.le_of_ble_eq_true rfl) rfl ?_
        refine m_iinc rfl rfl rfl (Nat.le_of_ble_eq_true rfl) rfl ?_
        refine m_goto (tgt := 4) rfl rfl rfl ?_
        first | (rw [if_pos (by omega)] at hk; exact hk) | (rw [if_neg (by omega)] at hk; exact hk)
      · refine m_aload_n rfl rfl rfl ?_
        refine m_dup rfl rfl rfl ?_
        refine m_gix (k := 19) (x := s 7 _ 19) rfl rfl (Nat.le_of_ble_eq_true rfl) rfl rfl (by first | decide | assumption | (simp only [cnt]; omega)) rfl ?_
        refine m_aload_n rfl rfl rfl ?_
        refine m_gr (k := 25) rfl rfl (Nat.le_of_ble_eq_true rfl) rfl rfl (by first | decide | assumption | (simp only [cnt]; omega)) ?_
        refine m_iconst rfl rfl ?_
        refine m_iload_n rfl rfl rfl ?_
        refine m_imul rfl rfl ?_
        refine m_iconst rfl rfl ?_
        refine m_iadd rfl rfl ?_
        refine m_ialx (n := 2 * j + 1) (y := s 43 _ (2 * j + 1)) rfl rfl (Nat.le_of_ble_eq_true rfl) rfl (by first | decide | assumption | (simp only [cnt]; omega)) (by omega) (by simp only [aln]; omega) rfl ?_
        refine m_iadd rfl rfl ?_
        refine m_pi (k := 19) rfl rfl (Nat.le_of_ble_eq_true rfl) rfl rfl rfl rfl (by first | decide | assumption | (simp only [cnt]; omega)) ?_
        refine m_goto (tgt := 88) rfl rfl rfl ?_
        refine m_iinc rfl rfl rfl (Nat.le_of_ble_eq_true rfl) rfl ?_
        refine m_goto (tgt := 4) rfl rfl rfl ?_
        first | (rw [if_pos (by omega)] at hk; exact hk) | (rw [if_neg (by omega)] at hk; exact hk)
  · obtain ⟨i1, i2, i3, i4⟩ := hI
    refine m_iload_n rfl rfl rfl ?_
    refine m_aload_n rfl rfl rfl ?_
    refine m_gi (k := 26) rfl rfl (Nat.le_of_ble_eq_true rfl) rfl rfl (by first | decide | assumption | (simp only [cnt]; omega)) ?_
    refine m_icmp_ge (tgt := 94) rfl rfl rfl (by omega) (by omega) (fun c9 => ?_) (fun c9 => ?_)
    · refine m_aload_n rfl rfl rfl ?_
      refine m_iload_n rfl rfl rfl ?_
      refine m_pi (k := 26) rfl rfl (Nat.le_of_ble_eq_true rfl) rfl rfl rfl rfl (by first | decide | assumption | (simp only [cnt]; omega)) ?_
      refine m_vret rfl rfl rfl (Nat.le_of_ble_eq_true rfl) (Nat.le_of_ble_eq_true rfl) ?_
      exact ⟨rfl, rfl⟩
    · exfalso; omega

def moF2 (t : Nat) (s : zkM) : zkM :=
  if 0 < s 31 0 t ∧ 0 ≤ s 7 0 11 - s 30 0 (4 * t + 3) ∧ (s 7 0 11 - s 30 0 (4 * t + 3)) % moPe s t = 0 then (if s 38 0 t = 1 then mset (mset s 38 0 t 0) 39 0 (6 * t + 3) (s 39 0 (6 * t + 3) + 1) else mset (mset s 35 0 (401 * t + (s 36 0 t).toNat) (s 7 0 11)) 36 0 t (s 36 0 t + 1)) else s
def moRel (m : zkM) : zkM := lp moF2 (moN m) m
def moI2 (m : zkM) (j : Nat) (s : zkM) : Prop := (∀ t i k, t ≠ 35 → t ≠ 36 → t ≠ 38 → t ≠ 39 → s t i k = m t i k) ∧ ∀ t, j ≤ t → s 36 0 t = m 36 0 t ∧ s 38 0 t = m 38 0 t
theorem moI2_s {m : zkM} {j : Nat} {s : zkM} (h : moI2 m j s) : moI2 m (j + 1) (moF2 j s) := by
  obtain ⟨h1, h2⟩ := h
  unfold moF2
  split
  · split
    · refine ⟨fun t i k a b c d => ?_, fun t ht => ?_⟩
      · rw [ms_t d, ms_t c]; exact h1 t i k a b c d
      · rw [ms_t (by decide), ms_t (by decide), ms_t (by decide), ms_k (by omega)]; exact h2 t (by omega)
    · refine ⟨fun t i k a b c d => ?_, fun t ht => ?_⟩
      · rw [ms_t b, ms_t a]; exact h1 t i k a b c d
      · rw [ms_k (by omega), ms_t (by decide), ms_t (by decide), ms_t (by decide)]; exact h2 t (by omega)
  · exact ⟨h1, fun t ht => h2 t (by omega)⟩
theorem moA_cfg {m s : zkM} (h : moA m) (e : ∀ t i k, t = 7 ∨ t = 30 ∨ t = 31 ∨ t = 32 → s t i k = m t i k) : moA s := by
  unfold moA moRe moLe at *
  simp only [e 7 _ _ (by decide), e 30 _ _ (by decide), e 31 _ _ (by decide), e 32 _ _ (by decide)]
  exact h
set_option maxRecDepth 10000 in
theorem c_morelease {l : Launch} {G : zkG} {mem : zkM} (hl : l.stackTraces = false) (hA : moA mem) (hc : 0 ≤ mem 7 0 11 ∧ mem 7 0 11 ≤ 400) (h1 : ∀ t, t < 5 → 0 ≤ mem 36 0 t ∧ mem 36 0 t ≤ 400) (h2 : ∀ t, t < 5 → inR (mem 38 0 t)) : zkCt l G i_Mo_release 1 0 0 [vr 7 0] mem (zkR0 (moRel mem)) := by
  refine zkCt_of hl ok_Mo_release (by decide +kernel) rfl rfl (List.forall_mem_cons.mpr ⟨rfl, fun _ h => nomatch h⟩) (Nat.le_of_ble_eq_true rfl) ?_
  have hn := moA_n hA
  refine m_iconst rfl rfl ?_
  refine m_istore_n rfl rfl (Nat.le_of_ble_eq_true rfl) rfl ?_
  refine zk_loop (P := fun (j : Nat) (s : zkM) => zkW l G i_Mo_release _ 0 0 2 [some (vr 7 0), some (vi j), none] [] s) (I := moI2 mem) moF2 (moN mem) mem ⟨fun _ _ _ _ _ _ _ => rfl, fun _ _ => ⟨rfl, rfl⟩⟩ (fun j s hj hI => moI2_s hI) (fun j s hj hI hk => ?_) (fun hI => ?_)
  · obtain ⟨i1, i2⟩ := id hI
    have hA' : moA s := moA_cfg hA (fun t i k h => i1 t i k (by omega) (by omega) (by omega) (by omega))
    have e1 := i1 7 0 2 (by decide) (by decide) (by decide) (by decide)
    have e2 := i1 7 0 11 (by decide) (by decide) (by decide) (by decide)
    have e3 := (i2 j (Nat.le_refl _))
    have e4 := h1 j (by omega)
    have e5 := h2 j (by omega)
    have hs := moA_s hA' (i := j) (by omega)
    have ho := (hA'.2.2.1 j (by omega)).2.2.2
    have he := moA_e hA' (i := j) (by omega)
    have he1 := moA_e1 hA' (i := j) (by have := moA_n hA'; omega)
    unfold moF2 at hk
    refine m_iload_n rfl rfl rfl ?_
    refine m_aload_n rfl rfl rfl ?_
    refine m_gix (k := 2) (x := s 7 _ 2) rfl rfl (Nat.le_of_ble_eq_true rfl) rfl rfl (by first | decide | assumption | (simp only [cnt]; omega)) rfl ?_
    refine m_icmp_ge (tgt := 121) rfl rfl rfl (by omega) (by omega) (fun c7 => ?_) (fun c7 => ?_)
    · exfalso; omega
    · refine m_aload_n rfl rfl rfl ?_
      refine m_gix (k := 11) (x := s 7 _ 11) rfl rfl (Nat.le_of_ble_eq_true rfl) rfl rfl (by first | decide | assumption | (simp only [cnt]; omega)) rfl ?_
      refine m_aload_n rfl rfl rfl ?_
      refine m_gr (k := 3) rfl rfl (Nat.le_of_ble_eq_true rfl) rfl rfl (by first | decide | assumption | (simp only [cnt]; omega)) ?_
      refine m_iconst rfl rfl ?_
      refine m_iload_n rfl rfl rfl ?_
      refine m_imul rfl rfl ?_
      refine m_iconst rfl rfl ?_
      refine m_iadd rfl rfl ?_
      refine m_ialx (n := 4 * j + 3) (y := s 30 _ (4 * j + 3)) rfl rfl (Nat.le_of_ble_eq_true rfl) rfl (by first | decide | assumption | (simp only [cnt]; omega)) (by omega) (by simp only [aln]; omega) rfl ?_
      refine m_isub rfl rfl ?_
      refine m_istore_n rfl rfl (Nat.le_of_ble_eq_true rfl) rfl ?_
      refine m_aload_n rfl rfl rfl ?_
      refine m_gr (k := 4) rfl rfl (Nat.le_of_ble_eq_true rfl) rfl rfl (by first | decide | assumption | (simp only [cnt]; omega)) ?_
      refine m_iload_n rfl rfl rfl ?_
      refine m_ialx (n := j) (y := s 31 _ (j)) rfl rfl (Nat.le_of_ble_eq_true rfl) rfl (by first | decide | assumption | (simp only [cnt]; omega)) (by omega) (by simp only [aln]; omega) rfl ?_
      refine m_if_le (tgt := 115) rfl rfl rfl (by omega) (fun c32 => ?_) (fun c32 => ?_)
      · refine m_iinc rfl rfl rfl (Nat.le_of_ble_eq_true rfl) rfl ?_
        refine m_goto (tgt := 2) rfl rfl rfl ?_
        refine zk_fg 2 ?_
        first | (rw [if_neg (by omega)] at hk; exact hk) | (rw [if_pos (by omega), if_pos (by omega)] at hk; exact hk) | (rw [if_pos (by omega), if_neg (by omega)] at hk; exact hk)
      · refine m_iload_n rfl rfl rfl ?_
        refine m_if_lt (tgt := 115) rfl rfl rfl (by omega) (fun c36 => ?_) (fun c36 => ?_)
        · refine m_iinc rfl rfl rfl (Nat.le_of_ble_eq_true rfl) rfl ?_
          refine m_goto (tgt := 2) rfl rfl rfl ?_
          refine zk_fg 2 ?_
          first | (rw [if_neg (by omega)] at hk; exact hk) | (rw [if_pos (by omega), if_pos (by omega)] at hk; exact hk) | (rw [if_pos (by omega), if_neg (by omega)] at hk; exact hk)
        · have hm := Int.emod_nonneg (s 7 0 11 - s 30 0 (4 * j + 3)) (b := moPe s j) (by omega)
          have hm2 := Int.emod_lt_of_pos (s 7 0 11 - s 30 0 (4 * j + 3)) (b := moPe s j) (by omega)
          refine m_iload_n rfl rfl rfl ?_
          refine m_aload_n rfl rfl rfl ?_
          refine m_iload_n rfl rfl rfl ?_
          refine m_cv1 rfl rfl lk_7_148 (c_periodOf hl (i := _) rfl (by omega)) rfl (by first | decide | assumption | (simp only [cnt]; omega)) (Nat.le_of_ble_eq_true rfl) rfl rfl (Nat.le_of_ble_eq_true rfl) (Nat.le_of_ble_eq_true rfl) (Nat.le_of_ble_eq_true rfl) (Nat.le_of_ble_eq_true rfl) (Nat.le_of_ble_eq_true rfl) ?_
          refine m_irem rfl rfl (by omega) (by omega) (by omega) (by omega) ?_
          refine m_if_ne (tgt := 115) rfl rfl rfl (by omega) (fun c46 => ?_) (fun c46 => ?_)
          · refine m_iinc rfl rfl rfl (Nat.le_of_ble_eq_true rfl) rfl ?_
            refine m_goto (tgt := 2) rfl rfl rfl ?_
            refine zk_fg 2 ?_
            first | (rw [if_neg (by omega)] at hk; exact hk) | (rw [if_pos (by omega), if_pos (by omega)] at hk; exact hk) | (rw [if_pos (by omega), if_neg (by omega)] at hk; exact hk)
          · refine m_aload_n rfl rfl rfl ?_
            refine m_gr (k := 16) rfl rfl (Nat.le_of_ble_eq_true rfl) rfl rfl (by first | decide | assumption | (simp only [cnt]; omega)) ?_
            refine m_iload_n rfl rfl rfl ?_
            refine m_ialx (n := j) (y := s 38 _ (j)) rfl rfl (Nat.le_of_ble_eq_true rfl) rfl (by first | decide | assumption | (simp only [cnt]; omega)) (by omega) (by simp only [aln]; omega) rfl ?_
            refine m_iconst rfl rfl ?_
            refine m_icmp_ne (tgt := 84) rfl rfl rfl (by omega) (by omega) (fun c56 => ?_) (fun c56 => ?_)
            · refine m_aload_n rfl rfl rfl ?_
              refine m_gr (k := 13) rfl rfl (Nat.le_of_ble_eq_true rfl) rfl rfl (by first | decide | assumption | (simp only [cnt]; omega)) ?_
              refine m_sipush rfl rfl (by decide) ?_
              refine m_iload_n rfl rfl rfl ?_
              refine m_imul rfl rfl ?_
              refine m_aload_n rfl rfl rfl ?_
              refine m_gr (k := 14) rfl rfl (Nat.le_of_ble_eq_true rfl) rfl rfl (by first | decide | assumption | (simp only [cnt]; omega)) ?_
              refine m_iload_n rfl rfl rfl ?_
              refine m_ialx (n := j) (y := s 36 _ (j)) rfl rfl (Nat.le_of_ble_eq_true rfl) rfl (by first | decide | assumption | (simp only [cnt]; omega)) (by omega) (by simp only [aln]; omega) rfl ?_
              refine m_iadd rfl rfl ?_
              refine m_aload_n rfl rfl rfl ?_
              refine m_gix (k := 11) (x := s 7 _ 11) rfl rfl (Nat.le_of_ble_eq_true rfl) rfl rfl (by first | decide | assumption | (simp only [cnt]; omega)) rfl ?_
              refine m_iasn (n := 401 * j + (s 36 0 j).toNat) rfl rfl (Nat.le_of_ble_eq_true rfl) rfl (by first | decide | assumption | (simp only [cnt]; omega)) (by omega) (by simp only [aln]; omega) ?_
              refine m_aload_n rfl rfl rfl ?_
              refine m_gr (k := 14) rfl rfl (Nat.le_of_ble_eq_true rfl) rfl rfl (by first | decide | assumption | (simp only [cnt]; omega)) ?_
              refine m_iload_n rfl rfl rfl ?_
              refine m_dup2 rfl rfl rfl rfl ?_
              refine m_ialx (n := j) (y := s 36 _ (j)) rfl rfl (Nat.le_of_ble_eq_true rfl) rfl (by first | decide | assumption | (simp only [cnt]; omega)) (by omega) (by simp only [aln]; omega) rfl ?_
              refine m_iconst rfl rfl ?_
              refine m_iadd rfl rfl ?_
              refine m_iasn (n := j) rfl rfl (Nat.le_of_ble_eq_true rfl) rfl (by first | decide | assumption | (simp only [cnt]; omega)) (by omega) (by simp only [aln]; omega) ?_
              refine m_iinc rfl rfl rfl (Nat.le_of_ble_eq_true rfl) rfl ?_
              refine m_goto (tgt := 2) rfl rfl rfl ?_
              refine zk_fg 2 ?_
              first | (rw [if_neg (by omega)] at hk; exact hk) | (rw [if_pos (by omega), if_pos (by omega)] at hk; exact hk) | (rw [if_pos (by omega), if_neg (by omega)] at hk; exact hk)
            · refine m_aload_n rfl rfl rfl ?_
              refine m_gr (k := 16) rfl rfl (Nat.le_of_ble_eq_true rfl) rfl rfl (by first | decide | assumption | (simp only [cnt]; omega)) ?_
              refine m_iload_n rfl rfl rfl ?_
              refine m_iconst rfl rfl ?_
              refine m_iasn (n := j) rfl rfl (Nat.le_of_ble_eq_true rfl) rfl (by first | decide | assumption | (simp only [cnt]; omega)) (by omega) (by simp only [aln]; omega) ?_
              refine m_aload_n rfl rfl rfl ?_
              refine m_gr (k := 17) rfl rfl (Nat.le_of_ble_eq_true rfl) rfl rfl (by first | decide | assumption | (simp only [cnt]; omega)) ?_
              refine m_bipush rfl rfl (by decide) ?_
              refine m_iload_n rfl rfl rfl ?_
              refine m_imul rfl rfl ?_
              refine m_iconst rfl rfl ?_
              refine m_iadd rfl rfl ?_
              refine m_dup2 rfl rfl rfl rfl ?_
              refine m_ialx (n := 6 * j + 3) (y := s 39 _ (6 * j + 3)) rfl rfl (Nat.le_of_ble_eq_true rfl) rfl (by first | decide | assumption | (simp only [cnt]; omega)) (by omega) (by simp only [aln]; omega) rfl ?_
              refine m_iconst rfl rfl ?_
              refine m_iadd rfl rfl ?_
              refine m_iasn (n := 6 * j + 3) rfl rfl (Nat.le_of_ble_eq_true rfl) rfl (by first | decide | assumption | (simp only [cnt]; omega)) (by omega) (by simp only [aln]; omega) ?_
              refine m_goto (tgt := 115) rfl rfl rfl ?_
              refine m_iinc rfl rfl rfl (Nat.le_of_ble_eq_true rfl) rfl ?_
              refine m_goto (tgt := 2) rfl rfl rfl ?_
              refine zk_fg 2 ?_
              first | (rw [if_neg (by omega)] at hk; exact hk) | (rw [if_pos (by omega), if_pos (by omega)] at hk; exact hk) | (rw [if_pos (by omega), if_neg (by omega)] at hk; exact hk)
  · obtain ⟨i1, i2⟩ := id hI
    have e1 := i1 7 0 2 (by decide) (by decide) (by decide) (by decide)
    refine m_iload_n rfl rfl rfl ?_
    refine m_aload_n rfl rfl rfl ?_
    refine m_gi (k := 2) rfl rfl (Nat.le_of_ble_eq_true rfl) rfl rfl (by first | decide | assumption | (simp only [cnt]; omega)) ?_
    refine m_icmp_ge (tgt := 121) rfl rfl rfl (by omega) (by omega) (fun c7 => ?_) (fun c7 => ?_)
    · refine m_vret rfl rfl rfl (Nat.le_of_ble_eq_true rfl) (Nat.le_of_ble_eq_true rfl) ?_
      exact ⟨rfl, rfl⟩
    · exfalso; omega

def moF3 (t ix : Nat) (j : Nat) (s : zkM) : zkM := mset s 35 0 (401 * t + (ix + j)) (s 35 0 (401 * t + (ix + j) + 1))
def moTJ2 (m : zkM) (t ix : Nat) : zkM := lp (moF3 t ix) ((m 36 0 t - 1).toNat - ix) (mset m 36 0 t (m 36 0 t - 1))
def moTJ (m : zkM) (t ix : Nat) : zkM := mset (moTJ2 m t ix) 37 0 t (if ix = 0 then 0 else moTJ2 m t ix 37 0 t)
theorem moF3_o {t ix : Nat} {n : Nat} {m : zkM} {t' : Nat} (h : t' ≠ 35) (i k : Nat) : lp (moF3 t ix) n m t' i k = m t' i k := by
  induction n with
  | zero => rfl
  | succ n ih =>
    show moF3 t ix n (lp (moF3 t ix) n m) t' i k = _
    unfold moF3
    rw [ms_t h]
    exact ih
set_option maxRecDepth 10000 in
theorem c_motakeJob {l : Launch} {G : zkG} {mem : zkM} (hl : l.stackTraces = false) {x y : Int} {t ix : Nat} (hx : x = t) (hy : y = ix) (ht : t < 5) (h1 : (ix : Int) < mem 36 0 t ∧ mem 36 0 t ≤ 401) : zkCt l G i_Mo_takeJob 0 0 0 [vr 7 0, vi x, vi y] mem (zkR0 (moTJ mem t ix)) := by
  refine zkCt_of hl ok_Mo_takeJob (by decide +kernel) rfl rfl (List.forall_mem_cons.mpr ⟨rfl, (List.forall_mem_cons.mpr ⟨rfl, (List.forall_mem_cons.mpr ⟨rfl, fun _ h => nomatch h⟩)⟩)⟩) (Nat.le_of_ble_eq_true rfl) ?_
  subst hx
  subst hy
  refine m_aload_n rfl rfl rfl ?_
  refine m_gr (k := 14) rfl rfl (Nat.le_of_ble_eq_true rfl) rfl rfl (by first | decide | assumption | (simp only [cnt]; omega)) ?_
  refine m_iload_n rfl rfl rfl ?_
  refine m_dup2 rfl rfl rfl rfl ?_
  refine m_ialx (n := t) (y := mem 36 _ (t)) rfl rfl (Nat.le_of_ble_eq_true rfl) rfl (by first | decide | assumption | (simp only [cnt]; omega)) (by omega) (by simp only [aln]; omega) rfl ?_
  refine m_iconst rfl rfl ?_
  refine m_isub rfl rfl ?_
  refine m_iasn (n := t) rfl rfl (Nat.le_of_ble_eq_true rfl) rfl (by first | decide | assumption | (simp only [cnt]; omega)) (by omega) (by simp only [aln]; omega) ?_
  refine m_iload_n rfl rfl rfl ?_
  refine m_istore_n rfl rfl (Nat.le_of_ble_eq_true rfl) rfl ?_
  refine zk_loop (P := fun (j : Nat) (s : zkM) => zkW l G i_Mo_takeJob _ 0 0 12 [some (vr 7 0), some (vi t), some (vi ix), some (vi ((ix : Int) + j))] [] s) (I := fun _ s => s 36 0 t = mem 36 0 t - 1) (moF3 t ix) ((mem 36 0 t - 1).toNat - ix) (mset mem 36 0 t (mem 36 0 t - 1)) (ms_s _ _ _ _ _) (fun j s hj hI => ?_) (fun j s hj hI hk => ?_) (fun hI => ?_)
  · unfold moF3
    rw [ms_t (by decide)]
    exact hI
  · refine m_iload_n rfl rfl rfl ?_
    refine m_aload_n rfl rfl rfl ?_
    refine m_gr (k := 14) rfl rfl (Nat.le_of_ble_eq_true rfl) rfl rfl (by first | decide | assumption | (simp only [cnt]; omega)) ?_
    refine m_iload_n rfl rfl rfl ?_
    refine m_ialx (n := t) (y := s 36 _ (t)) rfl rfl (Nat.le_of_ble_eq_true rfl) rfl (by first | decide | assumption | (simp only [cnt]; omega)) (by omega) (by simp only [aln]; omega) rfl ?_
    refine m_icmp_ge (tgt := 54) rfl rfl rfl (by omega) (by omega) (fun c19 => ?_) (fun c19 => ?_)
    · exfalso; omega
    · refine m_aload_n rfl rfl rfl ?_
      refine m_gr (k := 13) rfl rfl (Nat.le_of_ble_eq_true rfl) rfl rfl (by first | decide | assumption | (simp only [cnt]; omega)) ?_
      refine m_sipush rfl rfl (by decide) ?_
      refine m_iload_n rfl rfl rfl ?_
      refine m_imul rfl rfl ?_
      refine m_iload_n rfl rfl rfl ?_
      refine m_iadd rfl rfl ?_
      refine m_aload_n rfl rfl rfl ?_
      refine m_gr (k := 13) rfl rfl (Nat.le_of_ble_eq_true rfl) rfl rfl (by first | decide | assumption | (simp only [cnt]; omega)) ?_
      refine m_sipush rfl rfl (by decide) ?_
      refine m_iload_n rfl rfl rfl ?_
      refine m_imul rfl rfl ?_
      refine m_iload_n rfl rfl rfl ?_
      refine m_iadd rfl rfl ?_
      refine m_iconst rfl rfl ?_
      refine m_iadd rfl rfl ?_
      refine m_ialx (n := 401 * t + (ix + j) + 1) (y := s 35 _ (401 * t + (ix + j) + 1)) rfl rfl (Nat.le_of_ble_eq_true rfl) rfl (by first | decide | assumption | (simp only [cnt]; omega)) (by omega) (by simp only [aln]; omega) rfl ?_
      refine m_iasn (n := 401 * t + (ix + j)) rfl rfl (Nat.le_of_ble_eq_true rfl) rfl (by first | decide | assumption | (simp only [cnt]; omega)) (by omega) (by simp only [aln]; omega) ?_
      refine m_iinc rfl rfl rfl (Nat.le_of_ble_eq_true rfl) rfl ?_
      refine m_goto (tgt := 12) rfl rfl rfl ?_
      exact hk
  · refine m_iload_n rfl rfl rfl ?_
    refine m_aload_n rfl rfl rfl ?_
    refine m_gr (k := 14) rfl rfl (Nat.le_of_ble_eq_true rfl) rfl rfl (by first | decide | assumption | (simp only [cnt]; omega)) ?_
    refine m_iload_n rfl rfl rfl ?_
    refine m_ialn (n := t) rfl rfl (Nat.le_of_ble_eq_true rfl) rfl (by first | decide | assumption | (simp only [cnt]; omega)) (by omega) (by simp only [aln]; omega) ?_
    refine m_icmp_ge (tgt := 54) rfl rfl rfl (by omega) (by omega) (fun c19 => ?_) (fun c19 => ?_)
    · refine m_aload_n rfl rfl rfl ?_
      refine m_gr (k := 15) rfl rfl (Nat.le_of_ble_eq_true rfl) rfl rfl (by first | decide | assumption | (simp only [cnt]; omega)) ?_
      refine m_iload_n rfl rfl rfl ?_
      refine m_iload_n rfl rfl rfl ?_
      refine m_if_ne (tgt := 67) rfl rfl rfl (by omega) (fun c60 => ?_) (fun c60 => ?_)
      · refine m_aload_n rfl rfl rfl ?_
        refine m_gr (k := 15) rfl rfl (Nat.le_of_ble_eq_true rfl) rfl rfl (by first | decide | assumption | (simp only [cnt]; omega)) ?_
        refine m_iload_n rfl rfl rfl ?_
        refine m_ialn (n := t) rfl rfl (Nat.le_of_ble_eq_true rfl) rfl (by first | decide | assumption | (simp only [cnt]; omega)) (by omega) (by simp only [aln]; omega) ?_
        refine m_iasn (n := t) rfl rfl (Nat.le_of_ble_eq_true rfl) rfl (by first | decide | assumption | (simp only [cnt]; omega)) (by omega) (by simp only [aln]; omega) ?_
        refine m_vret rfl rfl rfl (Nat.le_of_ble_eq_true rfl) (Nat.le_of_ble_eq_true rfl) ?_
        refine ⟨rfl, ?_⟩
        unfold moTJ
        first | rw [if_pos (by omega)] | rw [if_neg (by omega)]
        rfl
      · refine m_iconst rfl rfl ?_
        refine m_goto (tgt := 73) rfl rfl rfl ?_
        refine m_iasn (n := t) rfl rfl (Nat.le_of_ble_eq_true rfl) rfl (by first | decide | assumption | (simp only [cnt]; omega)) (by omega) (by simp only [aln]; omega) ?_
        refine m_vret rfl rfl rfl (Nat.le_of_ble_eq_true rfl) (Nat.le_of_ble_eq_true rfl) ?_
        refine ⟨rfl, ?_⟩
        unfold moTJ
        first | rw [if_pos (by omega)] | rw [if_neg (by omega)]
        rfl
    · exfalso; omega

def moM1 (t : Nat) (s : zkM) : zkM := mset (mset s 39 0 (6 * t + 1) (s 39 0 (6 * t + 1) + 1)) 38 0 t (if s 7 0 1 = 2 then 1 else s 38 0 t)
def moM2 (t k : Nat) (s : zkM) : zkM := moTJ (mset (moM1 t s) 39 0 (6 * t + 2) (moM1 t s 39 0 (6 * t + 2) + 1)) t k
def moMf (t k : Nat) (s : zkM) : zkM := if s 35 0 (401 * t + k) + s 30 0 (4 * t + 2) = s 7 0 11 then (if s 7 0 1 = 1 then moM2 t k s else moM1 t s) else s
def moF4 (t jm : Nat) (j : Nat) (s : zkM) : zkM := moMf t (jm - 1 - j) s
def moF5 (t : Nat) (s : zkM) : zkM := lp (moF4 t (s 36 0 t).toNat) (s 36 0 t).toNat s
def moMeet (m : zkM) : zkM := lp moF5 (moN m) m
theorem moTJ_o {m : zkM} {t ix : Nat} {t' : Nat} (a : t' ≠ 35) (b : t' ≠ 36) (c : t' ≠ 37) (i k : Nat) : moTJ m t ix t' i k = m t' i k := by
  unfold moTJ moTJ2
  rw [ms_t c, moF3_o a, ms_t b]
theorem moTJ_n {m : zkM} {t ix : Nat} (t' : Nat) : moTJ m t ix 36 0 t' = if t' = t then m 36 0 t - 1 else m 36 0 t' := by
  unfold moTJ moTJ2
  rw [ms_t (by decide), moF3_o (by decide)]
  unfold mset
  by_cases h : t' = t <;> simp [h]
theorem moF3_b {t ix n : Nat} {m : zkM} (hn : 401 * t + (ix + n) < 2005) (h : ∀ k, k < 2005 → 0 ≤ m 35 0 k ∧ m 35 0 k ≤ 400) : ∀ k, k < 2005 → 0 ≤ lp (moF3 t ix) n m 35 0 k ∧ lp (moF3 t ix) n m 35 0 k ≤ 400 := by
  induction n with
  | zero => exact h
  | succ n ih =>
    have ih' := ih (by omega)
    intro k hk
    show 0 ≤ moF3 t ix n (lp (moF3 t ix) n m) 35 0 k ∧ moF3 t ix n (lp (moF3 t ix) n m) 35 0 k ≤ 400
    unfold moF3 mset
    split
    · exact ih' _ (by omega)
    · exact ih' k hk
theorem moTJ_b {m : zkM} {t ix : Nat} (ht : t < 5) (h1 : (ix : Int) < m 36 0 t ∧ m 36 0 t ≤ 401) (h : ∀ k, k < 2005 → 0 ≤ m 35 0 k ∧ m 35 0 k ≤ 400) : ∀ k, k < 2005 → 0 ≤ moTJ m t ix 35 0 k ∧ moTJ m t ix 35 0 k ≤ 400 := by
  intro k hk
  unfold moTJ moTJ2
  rw [ms_t (by decide)]
  exact moF3_b (m := mset m 36 0 t (m 36 0 t - 1)) (by omega) (fun k hk => by rw [ms_t (by decide)]; exact h k hk) k hk
def moI4 (s0 : zkM) (t jm j : Nat) (s : zkM) : Prop := (∀ t' i k, t' ≠ 35 → t' ≠ 36 → t' ≠ 37 → t' ≠ 38 → t' ≠ 39 → s t' i k = s0 t' i k) ∧ (∀ t', t' ≠ t → s 36 0 t' = s0 36 0 t') ∧ ((jm : Int) - j ≤ s 36 0 t ∧ s 36 0 t ≤ jm) ∧ ∀ k, k < 2005 → 0 ≤ s 35 0 k ∧ s 35 0 k ≤ 400
theorem moI4_s {s0 s : zkM} {t jm j : Nat} (ht : t < 5) (hj : j < jm) (hjm : jm ≤ 401) (h : moI4 s0 t jm j s) : moI4 s0 t jm (j + 1) (moF4 t jm j s) := by
  obtain ⟨h1, h2, h3, h4⟩ := h
  unfold moF4 moMf
  split
  · split
    · unfold moM2
      have e1 : (mset (moM1 t s) 39 0 (6 * t + 2) (moM1 t s 39 0 (6 * t + 2) + 1)) 36 0 t = s 36 0 t := by unfold moM1; rw [ms_t (by decide), ms_t (by decide), ms_t (by decide)]
      refine ⟨fun t' i k a b c d e => ?_, fun t' ht' => ?_, ?_, ?_⟩
      · rw [moTJ_o a b c, ms_t e]; unfold moM1; rw [ms_t d, ms_t e]; exact h1 t' i k a b c d e
      · rw [moTJ_n, if_neg ht', ms_t (by decide)]; unfold moM1; rw [ms_t (by decide), ms_t (by decide)]; exact h2 t' ht'
      · rw [moTJ_n, if_pos rfl, e1]; omega
      · refine moTJ_b ht (by rw [e1]; omega) (fun k hk => ?_)
        unfold moM1; rw [ms_t (by decide), ms_t (by decide), ms_t (by decide)]; exact h4 k hk
    · unfold moM1
      refine ⟨fun t' i k a b c d e => ?_, fun t' ht' => ?_, ?_, fun k hk => ?_⟩
      · rw [ms_t d, ms_t e]; exact h1 t' i k a b c d e
      · rw [ms_t (by decide), ms_t (by decide)]; exact h2 t' ht'
      · rw [ms_t (by decide), ms_t (by decide)]; omega
      · rw [ms_t (by decide), ms_t (by decide)]; exact h4 k hk
  · exact ⟨h1, h2, by omega, h4⟩
def moI5 (s0 : zkM) (j : Nat) (s : zkM) : Prop := (∀ t' i k, t' ≠ 35 → t' ≠ 36 → t' ≠ 37 → t' ≠ 38 → t' ≠ 39 → s t' i k = s0 t' i k) ∧ (∀ t', j ≤ t' → s 36 0 t' = s0 36 0 t') ∧ (∀ t', t' < 5 → 0 ≤ s 36 0 t' ∧ s 36 0 t' ≤ 401) ∧ ∀ k, k < 2005 → 0 ≤ s 35 0 k ∧ s 35 0 k ≤ 400
theorem moF5_I {s : zkM} {t : Nat} (ht : t < 5) (h1 : 0 ≤ s 36 0 t ∧ s 36 0 t ≤ 401) (h4 : ∀ k, k < 2005 → 0 ≤ s 35 0 k ∧ s 35 0 k ≤ 400) : moI4 s t (s 36 0 t).toNat (s 36 0 t).toNat (moF5 t s) :=
  lp_inv (moI4 s t (s 36 0 t).toNat) (moF4 t (s 36 0 t).toNat) (s 36 0 t).toNat s ⟨fun _ _ _ _ _ _ _ _ => rfl, fun _ _ => rfl, by omega, h4⟩ (fun j q hj hq => moI4_s ht hj (by omega) hq)
theorem moI5_s {s0 s : zkM} {j : Nat} (hj : j < 5) (h : moI5 s0 j s) : moI5 s0 (j + 1) (moF5 j s) := by
  obtain ⟨h1, h2, h3, h4⟩ := h
  obtain ⟨g1, g2, g3, g4⟩ := moF5_I hj (h3 j hj) h4
  have h3j := h3 j hj
  refine ⟨fun t' i k a b c d e => ?_, fun t' ht' => ?_, fun t' ht' => ?_, g4⟩
  · rw [g1 t' i k a b c d e]; exact h1 t' i k a b c d e
  · rw [g2 t' (by omega)]; exact h2 t' (by omega)
  · by_cases e : t' = j
    · subst e; omega
    · rw [g2 t' e]; exact h3 t' ht'
set_option maxRecDepth 10000 in
theorem c_momeet {l : Launch} {G : zkG} {mem : zkM} (hl : l.stackTraces = false) (hA : moA mem) (hc : inR (mem 7 0 11)) (hp : inR (mem 7 0 1)) (h1 : ∀ t, t < 5 → 0 ≤ mem 36 0 t ∧ mem 36 0 t ≤ 401) (h2 : ∀ k, k < 2005 → 0 ≤ mem 35 0 k ∧ mem 35 0 k ≤ 400) : zkCt l G i_Mo_meetDeadlines 1 0 0 [vr 7 0] mem (zkR0 (moMeet mem)) := by
  refine zkCt_of hl ok_Mo_meetDeadlines (by decide +kernel) rfl rfl (List.forall_mem_cons.mpr ⟨rfl, fun _ h => nomatch h⟩) (Nat.le_of_ble_eq_true rfl) ?_
  have hn := moA_n hA
  refine m_iconst rfl rfl ?_
  refine m_istore_n rfl rfl (Nat.le_of_ble_eq_true rfl) rfl ?_
  refine zk_loop (P := fun (j : Nat) (s : zkM) => zkW l G i_Mo_meetDeadlines _ 0 0 2 [some (vr 7 0), some (vi j), none] [] s) (I := moI5 mem) moF5 (moN mem) mem ⟨fun _ _ _ _ _ _ _ _ => rfl, fun _ _ => rfl, h1, h2⟩ (fun j s hj hI => moI5_s (by omega) hI) (fun j s hj hI hk => ?_) (fun hI => ?_)
  · obtain ⟨i1, i2, i3, i4⟩ := id hI
    have e1 := i1 7 0 2 (by decide) (by decide) (by decide) (by decide) (by decide)
    have e2 := i3 j (by omega)
    obtain ⟨jm, hjm⟩ : ∃ z, z = (s 36 0 j).toNat := ⟨_, rfl⟩
    unfold moF5 at hk
    rw [← hjm] at hk
    refine m_iload_n rfl rfl rfl ?_
    refine m_aload_n rfl rfl rfl ?_
    refine m_gix (k := 2) (x := s 7 _ 2) rfl rfl (Nat.le_of_ble_eq_true rfl) rfl rfl (by first | decide | assumption | (simp only [cnt]; omega)) rfl ?_
    refine m_icmp_ge (tgt := 133) rfl rfl rfl (by omega) (by omega) (fun c7 => ?_) (fun c7 => ?_)
    · exfalso; omega
    · refine m_aload_n rfl rfl rfl ?_
      refine m_gr (k := 14) rfl rfl (Nat.le_of_ble_eq_true rfl) rfl rfl (by first | decide | assumption | (simp only [cnt]; omega)) ?_
      refine m_iload_n rfl rfl rfl ?_
      refine m_ialx (n := j) (y := s 36 _ (j)) rfl rfl (Nat.le_of_ble_eq_true rfl) rfl (by first | decide | assumption | (simp only [cnt]; omega)) (by omega) (by simp only [aln]; omega) rfl ?_
      refine m_iconst rfl rfl ?_
      refine m_isub rfl rfl ?_
      refine m_istore_n rfl rfl (Nat.le_of_ble_eq_true rfl) rfl ?_
      rw [show s 36 0 j - 1 = s 36 0 j - 1 - ((0 : Nat) : Int) by omega]
      refine zk_loop (P := fun (k : Nat) (q : zkM) => zkW l G i_Mo_meetDeadlines _ 0 0 19 [some (vr 7 0), some (vi j), some (vi (s 36 0 j - 1 - k))] [] q) (I := moI4 s j jm) (moF4 j jm) jm s ⟨fun _ _ _ _ _ _ _ _ => rfl, fun _ _ => rfl, by omega, i4⟩ (fun k q hq hI => moI4_s (by omega) hq (by omega) hI) (fun k q hq hI hk2 => ?_) (fun hI => ?_)
      · obtain ⟨k1, k2, k3, k4⟩ := id hI
        have f1 : q 7 0 11 = mem 7 0 11 := (k1 7 0 11 (by decide) (by decide) (by decide) (by decide) (by decide)).trans (i1 7 0 11 (by decide) (by decide) (by decide) (by decide) (by decide))
        have f2 : q 7 0 1 = mem 7 0 1 := (k1 7 0 1 (by decide) (by decide) (by decide) (by decide) (by decide)).trans (i1 7 0 1 (by decide) (by decide) (by decide) (by decide) (by decide))
        have f3 : q 30 0 (4 * j + 2) = mem 30 0 (4 * j + 2) := (k1 30 0 _ (by decide) (by decide) (by decide) (by decide) (by decide)).trans (i1 30 0 _ (by decide) (by decide) (by decide) (by decide) (by decide))
        have f4 := (hA.2.2.1 j (by omega)).2.2.1
        have f5 := k4 (401 * j + (jm - 1 - k)) (by omega)
        unfold moF4 moMf at hk2
        refine m_iload_n rfl rfl rfl ?_
        refine m_if_lt (tgt := 127) rfl rfl rfl (by omega) (fun c20 => ?_) (fun c20 => ?_)
        · exfalso; omega
        · refine m_aload_n rfl rfl rfl ?_
          refine m_gr (k := 13) rfl rfl (Nat.le_of_ble_eq_true rfl) rfl rfl (by first | decide | assumption | (simp only [cnt]; omega)) ?_
          refine m_sipush rfl rfl (by decide) ?_
          refine m_iload_n rfl rfl rfl ?_
          refine m_imul rfl rfl ?_
          refine m_iload_n rfl rfl rfl ?_
          refine m_iadd rfl rfl ?_
          refine m_ialx (n := 401 * j + (jm - 1 - k)) (y := q 35 _ (401 * j + (jm - 1 - k))) rfl rfl (Nat.le_of_ble_eq_true rfl) rfl (by first | decide | assumption | (simp only [cnt]; omega)) (by omega) (by simp only [aln]; omega) rfl ?_
          refine m_aload_n rfl rfl rfl ?_
          refine m_gr (k := 3) rfl rfl (Nat.le_of_ble_eq_true rfl) rfl rfl (by first | decide | assumption | (simp only [cnt]; omega)) ?_
          refine m_iconst rfl rfl ?_
          refine m_iload_n rfl rfl rfl ?_
          refine m_imul rfl rfl ?_
          refine m_iconst rfl rfl ?_
          refine m_iadd rfl rfl ?_
          refine m_ialx (n := 4 * j + 2) (y := q 30 _ (4 * j + 2)) rfl rfl (Nat.le_of_ble_eq_true rfl) rfl (by first | decide | assumption | (simp only [cnt]; omega)) (by omega) (by simp only [aln]; omega) rfl ?_
          refine m_iadd rfl rfl ?_
          refine m_aload_n rfl rfl rfl ?_
          refine m_gix (k := 11) (x := q 7 _ 11) rfl rfl (Nat.le_of_ble_eq_true rfl) rfl rfl (by first | decide | assumption | (simp only [cnt]; omega)) rfl ?_
          refine m_icmp_ne (tgt := 121) rfl rfl rfl (by omega) (by omega) (fun c50 => ?_) (fun c50 => ?_)
          · refine m_iinc rfl rfl rfl (Nat.le_of_ble_eq_true rfl) rfl ?_
            refine m_goto (tgt := 19) rfl rfl rfl ?_
            rw [show s 36 0 j - 1 - ((k + 1 : Nat) : Int) = s 36 0 j - 1 - (k : Int) + -1 by omega] at hk2
            first | (rw [if_neg (by omega)] at hk2; exact hk2) | (rw [if_pos (by omega), if_pos (by omega)] at hk2; unfold moM2 moM1 at hk2; rw [if_neg (by omega)] at hk2; exact hk2) | (rw [if_pos (by omega), if_neg (by omega)] at hk2; unfold moM1 at hk2; first | (rw [if_pos (by omega)] at hk2; exact hk2) | (rw [if_neg (by omega)] at hk2; exact hk2)) | (exfalso; omega)
          · refine m_aload_n rfl rfl rfl ?_
            refine m_gr (k := 17) rfl rfl (Nat.le_of_ble_eq_true rfl) rfl rfl (by first | decide | assumption | (simp only [cnt]; omega)) ?_
            refine m_bipush rfl rfl (by decide) ?_
            refine m_iload_n rfl rfl rfl ?_
            refine m_imul rfl rfl ?_
            refine m_iconst rfl rfl ?_
            refine m_iadd rfl rfl ?_
            refine m_dup2 rfl rfl rfl rfl ?_
            refine m_ialx (n := 6 * j + 1) (y := q 39 _ (6 * j + 1)) rfl rfl (Nat.le_of_ble_eq_true rfl) rfl (by first | decide | assumption | (simp only [cnt]; omega)) (by omega) (by simp only [aln]; omega) rfl ?_
            refine m_iconst rfl rfl ?_
            refine m_iadd rfl rfl ?_
            refine m_iasn (n := 6 * j + 1) rfl rfl (Nat.le_of_ble_eq_true rfl) rfl (by first | decide | assumption | (simp only [cnt]; omega)) (by omega) (by simp only [aln]; omega) ?_
            refine m_aload_n rfl rfl rfl ?_
            refine m_gr (k := 16) rfl rfl (Nat.le_of_ble_eq_true rfl) rfl rfl (by first | decide | assumption | (simp only [cnt]; omega)) ?_
            refine m_iload_n rfl rfl rfl ?_
            refine m_aload_n rfl rfl rfl ?_
            refine m_gix (k := 1) (x := q 7 _ 1) rfl rfl (Nat.le_of_ble_eq_true rfl) rfl rfl (by first | decide | assumption | (simp only [cnt]; omega)) rfl ?_
            refine m_iconst rfl rfl ?_
            refine m_icmp_ne (tgt := 85) rfl rfl rfl (by omega) (by omega) (fun c78 => ?_) (fun c78 => ?_)
            · refine m_aload_n rfl rfl rfl ?_
              refine m_gr (k := 16) rfl rfl (Nat.le_of_ble_eq_true rfl) rfl rfl (by first | decide | assumption | (simp only [cnt]; omega)) ?_
              refine m_iload_n rfl rfl rfl ?_
              refine m_ialx (n := j) (y := q 38 _ (j)) rfl rfl (Nat.le_of_ble_eq_true rfl) rfl (by first | decide | assumption | (simp only [cnt]; omega)) (by omega) (by simp only [aln]; omega) rfl ?_
              refine m_iasn (n := j) rfl rfl (Nat.le_of_ble_eq_true rfl) rfl (by first | decide | assumption | (simp only [cnt]; omega)) (by omega) (by simp only [aln]; omega) ?_
              refine m_aload_n rfl rfl rfl ?_
              refine m_gix (k := 1) (x := q 7 _ 1) rfl rfl (Nat.le_of_ble_eq_true rfl) rfl rfl (by first | decide | assumption | (simp only [cnt]; omega)) rfl ?_
              refine m_iconst rfl rfl ?_
              refine m_icmp_ne (tgt := 121) rfl rfl rfl (by omega) (by omega) (fun c97 => ?_) (fun c97 => ?_)
              · refine m_iinc rfl rfl rfl (Nat.le_of_ble_eq_true rfl) rfl ?_
                refine m_goto (tgt := 19) rfl rfl rfl ?_
                rw [show s 36 0 j - 1 - ((k + 1 : Nat) : Int) = s 36 0 j - 1 - (k : Int) + -1 by omega] at hk2
                first | (rw [if_neg (by omega)] at hk2; exact hk2) | (rw [if_pos (by omega), if_pos (by omega)] at hk2; unfold moM2 moM1 at hk2; rw [if_neg (by omega)] at hk2; exact hk2) | (rw [if_pos (by omega), if_neg (by omega)] at hk2; unfold moM1 at hk2; first | (rw [if_pos (by omega)] at hk2; exact hk2) | (rw [if_neg (by omega)] at hk2; exact hk2)) | (exfalso; omega)
              · refine m_aload_n rfl rfl rfl ?_
                refine m_gr (k := 17) rfl rfl (Nat.le_of_ble_eq_true rfl) rfl rfl (by first | decide | assumption | (simp only [cnt]; omega)) ?_
                refine m_bipush rfl rfl (by decide) ?_
                refine m_iload_n rfl rfl rfl ?_
                refine m_imul rfl rfl ?_
                refine m_iconst rfl rfl ?_
                refine m_iadd rfl rfl ?_
                refine m_dup2 rfl rfl rfl rfl ?_
                refine m_ialn (n := 6 * j + 2) rfl rfl (Nat.le_of_ble_eq_true rfl) rfl (by first | decide | assumption | (simp only [cnt]; omega)) (by omega) (by simp only [aln]; omega) ?_
                refine m_iconst rfl rfl ?_
                refine m_iadd rfl rfl ?_
                refine m_iasn (n := 6 * j + 2) rfl rfl (Nat.le_of_ble_eq_true rfl) rfl (by first | decide | assumption | (simp only [cnt]; omega)) (by omega) (by simp only [aln]; omega) ?_
                refine m_aload_n rfl rfl rfl ?_
                refine m_iload_n rfl rfl rfl ?_
                refine m_iload_n rfl rfl rfl ?_
                refine m_cv0 rfl rfl lk_7_163 (c_motakeJob hl (t := j) (ix := jm - 1 - k) (by omega) (by omega) (by omega) (by rw [ms_t (by decide), ms_t (by decide), ms_t (by decide)]; omega)) rfl (by first | decide | assumption | (simp only [cnt]; omega)) (Nat.le_of_ble_eq_true rfl) rfl rfl (Nat.le_of_ble_eq_true rfl) (Nat.le_of_ble_eq_true rfl) (Nat.le_of_ble_eq_true rfl) (Nat.le_of_ble_eq_true rfl) (Nat.le_of_ble_eq_true rfl) ?_
                refine m_iinc rfl rfl rfl (Nat.le_of_ble_eq_true rfl) rfl ?_
                refine m_goto (tgt := 19) rfl rfl rfl ?_
                rw [show s 36 0 j - 1 - ((k + 1 : Nat) : Int) = s 36 0 j - 1 - (k : Int) + -1 by omega] at hk2
                first | (rw [if_neg (by omega)] at hk2; exact hk2) | (rw [if_pos (by omega), if_pos (by omega)] at hk2; unfold moM2 moM1 at hk2; rw [if_neg (by omega)] at hk2; exact hk2) | (rw [if_pos (by omega), if_neg (by omega)] at hk2; unfold moM1 at hk2; first | (rw [if_pos (by omega)] at hk2; exact hk2) | (rw [if_neg (by omega)] at hk2; exact hk2)) | (exfalso; omega)
            · refine m_iconst rfl rfl ?_
              refine m_goto (tgt := 91) rfl rfl rfl ?_
              refine m_iasn (n := j) rfl rfl (Nat.le_of_ble_eq_true rfl) rfl (by first | decide | assumption | (simp only [cnt]; omega)) (by omega) (by simp only [aln]; omega) ?_
              refine m_aload_n rfl rfl rfl ?_
              refine m_gix (k := 1) (x := q 7 _ 1) rfl rfl (Nat.le_of_ble_eq_true rfl) rfl rfl (by first | decide | assumption | (simp only [cnt]; omega)) rfl ?_
              refine m_iconst rfl rfl ?_
              refine m_icmp_ne (tgt := 121) rfl rfl rfl (by omega) (by omega) (fun c97 => ?_) (fun c97 => ?_)
              · refine m_iinc rfl rfl rfl (Nat.le_of_ble_eq_true rfl) rfl ?_
                refine m_goto (tgt := 19) rfl rfl rfl ?_
                rw [show s 36 0 j - 1 - ((k + 1 : Nat) : Int) = s 36 0 j - 1 - (k : Int) + -1 by omega] at hk2
                first | (rw [if_neg (by omega)] at hk2; exact hk2) | (rw [if_pos (by omega), if_pos (by omega)] at hk2; unfold moM2 moM1 at hk2; rw [if_neg (by omega)] at hk2; exact hk2) | (rw [if_pos (by omega), if_neg (by omega)] at hk2; unfold moM1 at hk2; first | (rw [if_pos (by omega)] at hk2; exact hk2) | (rw [if_neg (by omega)] at hk2; exact hk2)) | (exfalso; omega)
              · refine m_aload_n rfl rfl rfl ?_
                refine m_gr (k := 17) rfl rfl (Nat.le_of_ble_eq_true rfl) rfl rfl (by first | decide | assumption | (simp only [cnt]; omega)) ?_
                refine m_bipush rfl rfl (by decide) ?_
                refine m_iload_n rfl rfl rfl ?_
                refine m_imul rfl rfl ?_
                refine m_iconst rfl rfl ?_
                refine m_iadd rfl rfl ?_
                refine m_dup2 rfl rfl rfl rfl ?_
                refine m_ialn (n := 6 * j + 2) rfl rfl (Nat.le_of_ble_eq_true rfl) rfl (by first | decide | assumption | (simp only [cnt]; omega)) (by omega) (by simp only [aln]; omega) ?_
                refine m_iconst rfl rfl ?_
                refine m_iadd rfl rfl ?_
                refine m_iasn (n := 6 * j + 2) rfl rfl (Nat.le_of_ble_eq_true rfl) rfl (by first | decide | assumption | (simp only [cnt]; omega)) (by omega) (by simp only [aln]; omega) ?_
                refine m_aload_n rfl rfl rfl ?_
                refine m_iload_n rfl rfl rfl ?_
                refine m_iload_n rfl rfl rfl ?_
                refine m_cv0 rfl rfl lk_7_163 (c_motakeJob hl (t := j) (ix := jm - 1 - k) (by omega) (by omega) (by omega) (by rw [ms_t (by decide), ms_t (by decide), ms_t (by decide)]; omega)) rfl (by first | decide | assumption | (simp only [cnt]; omega)) (Nat.le_of_ble_eq_true rfl) rfl rfl (Nat.le_of_ble_eq_true rfl) (Nat.le_of_ble_eq_true rfl) (Nat.le_of_ble_eq_true rfl) (Nat.le_of_ble_eq_true rfl) (Nat.le_of_ble_eq_true rfl) ?_
                refine m_iinc rfl rfl rfl (Nat.le_of_ble_eq_true rfl) rfl ?_
                refine m_goto (tgt := 19) rfl rfl rfl ?_
                rw [show s 36 0 j - 1 - ((k + 1 : Nat) : Int) = s 36 0 j - 1 - (k : Int) + -1 by omega] at hk2
                first | (rw [if_neg (by omega)] at hk2; exact hk2) | (rw [if_pos (by omega), if_pos (by omega)] at hk2; unfold moM2 moM1 at hk2; rw [if_neg (by omega)] at hk2; exact hk2) | (rw [if_pos (by omega), if_neg (by omega)] at hk2; unfold moM1 at hk2; first | (rw [if_pos (by omega)] at hk2; exact hk2) | (rw [if_neg (by omega)] at hk2; exact hk2)) | (exfalso; omega)
      · refine m_iload_n rfl rfl rfl ?_
        refine m_if_lt (tgt := 127) rfl rfl rfl (by omega) (fun c20 => ?_) (fun c20 => ?_)
        · refine m_iinc rfl rfl rfl (Nat.le_of_ble_eq_true rfl) rfl ?_
          refine m_goto (tgt := 2) rfl rfl rfl ?_
          refine zk_fg 2 ?_
          exact hk
        · exfalso; omega
  · obtain ⟨i1, i2, i3, i4⟩ := id hI
    have e1 := i1 7 0 2 (by decide) (by decide) (by decide) (by decide) (by decide)
    refine m_iload_n rfl rfl rfl ?_
    refine m_aload_n rfl rfl rfl ?_
    refine m_gi (k := 2) rfl rfl (Nat.le_of_ble_eq_true rfl) rfl rfl (by first | decide | assumption | (simp only [cnt]; omega)) ?_
    refine m_icmp_ge (tgt := 133) rfl rfl rfl (by omega) (by omega) (fun c7 => ?_) (fun c7 => ?_)
    · refine m_vret rfl rfl rfl (Nat.le_of_ble_eq_true rfl) (Nat.le_of_ble_eq_true rfl) ?_
      exact ⟨rfl, rfl⟩
    · exfalso; omega
end
section
/-! the reference: what is held, what is most urgent -/
def moSNf (m : zkM) (t : Nat) : Nat → Nat → Int → Int
  | 0, _, _ => -1
  | r + 1, k, b => if m 37 0 t < b + moLe m t k then (if m 37 0 t = b then -1 else k) else moSNf m t r (k + 1) (b + moLe m t k)
def moSN (m : zkM) (t : Nat) : Int := moSNf m t (moS m t) 0 0
theorem moSNf_b {m : zkM} {t : Nat} : ∀ (r k : Nat) (b : Int), -1 ≤ moSNf m t r k b ∧ moSNf m t r k b < ((r + k : Nat) : Int)
  | 0, k, b => by unfold moSNf; omega
  | r + 1, k, b => by
    unfold moSNf
    have := moSNf_b (m := m) (t := t) r (k + 1) (b + moLe m t k)
    split
    · split <;> omega
    · omega
theorem moSN_b {m : zkM} (h : moA m) {t : Nat} (ht : t < 5) : -1 ≤ moSN m t ∧ moSN m t < 6 := by
  have h1 := moA_s h ht
  have h2 := moSNf_b (m := m) (t := t) (moS m t) 0 0
  unfold moSN
  omega
def moHd (m : zkM) (t : Nat) : Int := if m 36 0 t = 0 then -1 else if moSN m t = -1 then -1 else moRe m t (moSN m t).toNat
theorem moHd_b {m : zkM} (h : moA m) {t : Nat} (ht : t < 5) : -1 ≤ moHd m t ∧ moHd m t ≤ 3 := by
  have h1 := moSN_b h ht
  unfold moHd
  split
  · omega
  · split
    · omega
    · have := (moA_r h ht (k := (moSN m t).toNat) (by omega)).1
      omega
def moAc (m : zkM) (t : Nat) : Int := if moHd m t = -1 then moPr m t else max (moPr m t) (moCe m (moHd m t))
theorem moAc_b {m : zkM} (h : moA m) {t : Nat} (ht : t < 5) : 0 ≤ moAc m t ∧ moAc m t ≤ 9 := by
  have h1 := moA_p h ht
  have h2 := moCe_b h (moHd m t)
  unfold moAc
  split <;> omega
set_option maxRecDepth 10000 in
theorem w_segmentNow {l : Launch} {G : zkG} {mem : zkM} (hl : l.stackTraces = false) {t : Nat} (hA : moA mem) (ht : t < 5) (hp : inR (mem 37 0 t)) : ∀ (r k : Nat) (b : Int), r + k = moS mem t → (0 ≤ b ∧ b ≤ 9 * (k : Int)) → zkW l G i_Mo_segmentNow (zkKm G 1 0 0 (zkR1 (vi (moSNf mem t r k b)) mem)) 0 0 5 [some (vr 7 0), some (vi t), some (vi 1), some (vi b), some (vi k), none] [] mem := by
  have hs := moA_s hA ht
  intro r
  induction r with
  | zero =>
    intro k b h1 h2
    refine m_iload rfl rfl rfl ?_
    refine m_aload_n rfl rfl rfl ?_
    refine m_gr (k := 4) rfl rfl (Nat.le_of_ble_eq_true rfl) rfl rfl (by first | decide | assumption | (simp only [cnt]; omega)) ?_
    refine m_iload_n rfl rfl rfl ?_
    refine m_ialx (n := t) (y := mem 31 _ (t)) rfl rfl (Nat.le_of_ble_eq_true rfl) rfl (by first | decide | assumption | (simp only [cnt]; omega)) (by omega) (by simp only [aln]; omega) rfl ?_
    refine m_icmp_ge (tgt := 68) rfl rfl rfl (by omega) (by omega) (fun c13 => ?_) (fun c13 => ?_)
    · refine m_iconst rfl rfl ?_
      refine m_iret rfl rfl rfl (Nat.le_of_ble_eq_true rfl) (Nat.le_of_ble_eq_true rfl) ?_
      exact ⟨rfl, rfl⟩
    · exfalso; omega
  | succ r ih =>
    intro k b h1 h2
    have hr := (moA_r hA ht (k := k) (by omega)).2
    refine m_iload rfl rfl rfl ?_
    refine m_aload_n rfl rfl rfl ?_
    refine m_gr (k := 4) rfl rfl (Nat.le_of_ble_eq_true rfl) rfl rfl (by first | decide | assumption | (simp only [cnt]; omega)) ?_
    refine m_iload_n rfl rfl rfl ?_
    refine m_ialx (n := t) (y := mem 31 _ (t)) rfl rfl (Nat.le_of_ble_eq_true rfl) rfl (by first | decide | assumption | (simp only [cnt]; omega)) (by omega) (by simp only [aln]; omega) rfl ?_
    refine m_icmp_ge (tgt := 68) rfl rfl rfl (by omega) (by omega) (fun c13 => ?_) (fun c13 => ?_)
    · exfalso; omega
    · refine m_iload_n rfl rfl rfl ?_
      refine m_aload_n rfl rfl rfl ?_
      refine m_iload_n rfl rfl rfl ?_
      refine m_iload rfl rfl rfl ?_
      refine m_cv1 rfl rfl lk_7_79 (c_lengthAt hl (i := _) (k := _) rfl rfl (by omega) (by omega)) rfl (by first | decide | assumption | (simp only [cnt]; omega)) (Nat.le_of_ble_eq_true rfl) rfl rfl (Nat.le_of_ble_eq_true rfl) (Nat.le_of_ble_eq_true rfl) (Nat.le_of_ble_eq_true rfl) (Nat.le_of_ble_eq_true rfl) (Nat.le_of_ble_eq_true rfl) ?_
      refine m_iadd rfl rfl ?_
      refine m_istore rfl rfl (Nat.le_of_ble_eq_true rfl) rfl ?_
      refine m_aload_n rfl rfl rfl ?_
      refine m_gr (k := 15) rfl rfl (Nat.le_of_ble_eq_true rfl) rfl rfl (by first | decide | assumption | (simp only [cnt]; omega)) ?_
      refine m_iload_n rfl rfl rfl ?_
      refine m_ialx (n := t) (y := mem 37 _ (t)) rfl rfl (Nat.le_of_ble_eq_true rfl) rfl (by first | decide | assumption | (simp only [cnt]; omega)) (by omega) (by simp only [aln]; omega) rfl ?_
      refine m_iload rfl rfl rfl ?_
      refine m_icmp_ge (tgt := 59) rfl rfl rfl (by omega) (by omega) (fun c35 => ?_) (fun c35 => ?_)
      · refine m_iload rfl rfl rfl ?_
        refine m_istore_n rfl rfl (Nat.le_of_ble_eq_true rfl) rfl ?_
        refine m_iinc rfl rfl rfl (Nat.le_of_ble_eq_true rfl) rfl ?_
        refine m_goto (tgt := 5) rfl rfl rfl ?_
        refine zk_fg 5 ?_
        have h3 := ih (k + 1) (b + moLe mem t k) (by omega) (by omega)
        unfold moSNf
        rw [if_neg (by omega)]
        exact h3
      · refine m_iload_n rfl rfl rfl ?_
        refine m_if_eq (tgt := 56) rfl rfl rfl (by omega) (fun c39 => ?_) (fun c39 => ?_)
        · exfalso; omega
        · refine m_aload_n rfl rfl rfl ?_
          refine m_gr (k := 15) rfl rfl (Nat.le_of_ble_eq_true rfl) rfl rfl (by first | decide | assumption | (simp only [cnt]; omega)) ?_
          refine m_iload_n rfl rfl rfl ?_
          refine m_ialx (n := t) (y := mem 37 _ (t)) rfl rfl (Nat.le_of_ble_eq_true rfl) rfl (by first | decide | assumption | (simp only [cnt]; omega)) (by omega) (by simp only [aln]; omega) rfl ?_
          refine m_iload_n rfl rfl rfl ?_
          refine m_icmp_ne (tgt := 56) rfl rfl rfl (by omega) (by omega) (fun c49 => ?_) (fun c49 => ?_)
          · refine m_iload rfl rfl rfl ?_
            refine m_iret rfl rfl rfl (Nat.le_of_ble_eq_true rfl) (Nat.le_of_ble_eq_true rfl) ?_
            unfold moSNf
            rw [if_pos (by omega)]
            first | (rw [if_pos (by omega)]; exact ⟨rfl, rfl⟩) | (rw [if_neg (by omega)]; exact ⟨rfl, rfl⟩)
          · refine m_iconst rfl rfl ?_
            refine m_goto (tgt := 58) rfl rfl rfl ?_
            refine m_iret rfl rfl rfl (Nat.le_of_ble_eq_true rfl) (Nat.le_of_ble_eq_true rfl) ?_
            unfold moSNf
            rw [if_pos (by omega)]
            first | (rw [if_pos (by omega)]; exact ⟨rfl, rfl⟩) | (rw [if_neg (by omega)]; exact ⟨rfl, rfl⟩)

set_option maxRecDepth 10000 in
theorem c_segmentNow {l : Launch} {G : zkG} {mem : zkM} (hl : l.stackTraces = false) {x : Int} {t : Nat} (hA : moA mem) (hx : x = t) (ht : t < 5) (hp : inR (mem 37 0 t)) : zkCt l G i_Mo_segmentNow 1 0 0 [vr 7 0, vi x, vi 1] mem (zkR1 (vi (moSN mem t)) mem) := by
  refine zkCt_of hl ok_Mo_segmentNow (by decide +kernel) rfl rfl (List.forall_mem_cons.mpr ⟨rfl, (List.forall_mem_cons.mpr ⟨rfl, (List.forall_mem_cons.mpr ⟨rfl, fun _ h => nomatch h⟩)⟩)⟩) (Nat.le_of_ble_eq_true rfl) ?_
  subst hx
  refine m_iconst rfl rfl ?_
  refine m_istore_n rfl rfl (Nat.le_of_ble_eq_true rfl) rfl ?_
  refine m_iconst rfl rfl ?_
  refine m_istore rfl rfl (Nat.le_of_ble_eq_true rfl) rfl ?_
  exact w_segmentNow hl hA ht hp (moS mem t) 0 0 (by omega) (by omega)

set_option maxRecDepth 10000 in
theorem c_heldBy {l : Launch} {G : zkG} {mem : zkM} (hl : l.stackTraces = false) {x : Int} {t : Nat} (hA : moA mem) (hx : x = t) (ht : t < 5) (hj : inR (mem 36 0 t)) (hp : inR (mem 37 0 t)) : zkCt l G i_Mo_heldBy 2 0 0 [vr 7 0, vi x] mem (zkR1 (vi (moHd mem t)) mem) := by
  refine zkCt_of hl ok_Mo_heldBy (by decide +kernel) rfl rfl (List.forall_mem_cons.mpr ⟨rfl, (List.forall_mem_cons.mpr ⟨rfl, fun _ h => nomatch h⟩)⟩) (Nat.le_of_ble_eq_true rfl) ?_
  subst hx
  have hsn := moSN_b hA ht
  refine m_aload_n rfl rfl rfl ?_
  refine m_gr (k := 14) rfl rfl (Nat.le_of_ble_eq_true rfl) rfl rfl (by first | decide | assumption | (simp only [cnt]; omega)) ?_
  refine m_iload_n rfl rfl rfl ?_
  refine m_ialx (n := t) (y := mem 36 _ (t)) rfl rfl (Nat.le_of_ble_eq_true rfl) rfl (by first | decide | assumption | (simp only [cnt]; omega)) (by omega) (by simp only [aln]; omega) rfl ?_
  refine m_if_ne (tgt := 13) rfl rfl rfl (by omega) (fun c6 => ?_) (fun c6 => ?_)
  · refine m_aload_n rfl rfl rfl ?_
    refine m_iload_n rfl rfl rfl ?_
    refine m_iconst rfl rfl ?_
    refine m_cv1 rfl rfl lk_7_167 (c_segmentNow hl hA (t := _) rfl (by omega) (by omega)) rfl (by first | decide | assumption | (simp only [cnt]; omega)) (Nat.le_of_ble_eq_true rfl) rfl rfl (Nat.le_of_ble_eq_true rfl) (Nat.le_of_ble_eq_true rfl) (Nat.le_of_ble_eq_true rfl) (Nat.le_of_ble_eq_true rfl) (Nat.le_of_ble_eq_true rfl) ?_
    refine m_istore_n rfl rfl (Nat.le_of_ble_eq_true rfl) rfl ?_
    refine m_iload_n rfl rfl rfl ?_
    refine m_iconst rfl rfl ?_
    refine m_icmp_ne (tgt := 29) rfl rfl rfl (by omega) (by omega) (fun c22 => ?_) (fun c22 => ?_)
    · refine m_aload_n rfl rfl rfl ?_
      refine m_iload_n rfl rfl rfl ?_
      refine m_iload_n rfl rfl rfl ?_
      refine m_cv1 rfl rfl lk_7_134 (c_resourceAt hl (i := t) (k := (moSN mem t).toNat) rfl (by omega) (by omega) (by omega)) rfl (by first | decide | assumption | (simp only [cnt]; omega)) (Nat.le_of_ble_eq_true rfl) rfl rfl (Nat.le_of_ble_eq_true rfl) (Nat.le_of_ble_eq_true rfl) (Nat.le_of_ble_eq_true rfl) (Nat.le_of_ble_eq_true rfl) (Nat.le_of_ble_eq_true rfl) ?_
      refine m_iret rfl rfl rfl (Nat.le_of_ble_eq_true rfl) (Nat.le_of_ble_eq_true rfl) ?_
      unfold moHd
      first | (exfalso; omega) | (rw [if_pos (by omega)]; exact ⟨rfl, rfl⟩) | (rw [if_neg (by omega), if_pos (by omega)]; exact ⟨rfl, rfl⟩) | (rw [if_neg (by omega), if_neg (by omega)]; exact ⟨rfl, rfl⟩)
    · refine m_iconst rfl rfl ?_
      refine m_goto (tgt := 35) rfl rfl rfl ?_
      refine m_iret rfl rfl rfl (Nat.le_of_ble_eq_true rfl) (Nat.le_of_ble_eq_true rfl) ?_
      unfold moHd
      first | (exfalso; omega) | (rw [if_pos (by omega)]; exact ⟨rfl, rfl⟩) | (rw [if_neg (by omega), if_pos (by omega)]; exact ⟨rfl, rfl⟩) | (rw [if_neg (by omega), if_neg (by omega)]; exact ⟨rfl, rfl⟩)
  · refine m_iconst rfl rfl ?_
    refine m_goto (tgt := 19) rfl rfl rfl ?_
    refine m_istore_n rfl rfl (Nat.le_of_ble_eq_true rfl) rfl ?_
    refine m_iload_n rfl rfl rfl ?_
    refine m_iconst rfl rfl ?_
    refine m_icmp_ne (tgt := 29) rfl rfl rfl (by omega) (by omega) (fun c22 => ?_) (fun c22 => ?_)
    · exfalso; omega
    · refine m_iconst rfl rfl ?_
      refine m_goto (tgt := 35) rfl rfl rfl ?_
      refine m_iret rfl rfl rfl (Nat.le_of_ble_eq_true rfl) (Nat.le_of_ble_eq_true rfl) ?_
      unfold moHd
      first | (exfalso; omega) | (rw [if_pos (by omega)]; exact ⟨rfl, rfl⟩) | (rw [if_neg (by omega), if_pos (by omega)]; exact ⟨rfl, rfl⟩) | (rw [if_neg (by omega), if_neg (by omega)]; exact ⟨rfl, rfl⟩)

set_option maxRecDepth 10000 in
theorem c_activeOf {l : Launch} {G : zkG} {mem : zkM} (hl : l.stackTraces = false) {x : Int} {t : Nat} (hA : moA mem) (hx : x = t) (ht : t < 5) (hj : inR (mem 36 0 t)) (hp : inR (mem 37 0 t)) : zkCt l G i_Mo_activeOf 3 0 0 [vr 7 0, vi x] mem (zkR1 (vi (moAc mem t)) mem) := by
  refine zkCt_of hl ok_Mo_activeOf (by decide +kernel) rfl rfl (List.forall_mem_cons.mpr ⟨rfl, (List.forall_mem_cons.mpr ⟨rfl, fun _ h => nomatch h⟩)⟩) (Nat.le_of_ble_eq_true rfl) ?_
  subst hx
  have hhd := moHd_b hA ht
  have hpr := moA_p hA ht
  have hce := moCe_b hA (moHd mem t)
  refine m_aload_n rfl rfl rfl ?_
  refine m_iload_n rfl rfl rfl ?_
  refine m_cv1 rfl rfl lk_7_171 (c_heldBy hl hA (t := _) rfl (by omega) (by omega) (by omega)) rfl (by first | decide | assumption | (simp only [cnt]; omega)) (Nat.le_of_ble_eq_true rfl) rfl rfl (Nat.le_of_ble_eq_true rfl) (Nat.le_of_ble_eq_true rfl) (Nat.le_of_ble_eq_true rfl) (Nat.le_of_ble_eq_true rfl) (Nat.le_of_ble_eq_true rfl) ?_
  refine m_istore_n rfl rfl (Nat.le_of_ble_eq_true rfl) rfl ?_
  refine m_iload_n rfl rfl rfl ?_
  refine m_iconst rfl rfl ?_
  refine m_icmp_ne (tgt := 19) rfl rfl rfl (by omega) (by omega) (fun c8 => ?_) (fun c8 => ?_)
  · refine m_aload_n rfl rfl rfl ?_
    refine m_iload_n rfl rfl rfl ?_
    refine m_cv1 rfl rfl lk_7_110 (c_priorityOf hl (i := _) rfl (by omega)) rfl (by first | decide | assumption | (simp only [cnt]; omega)) (Nat.le_of_ble_eq_true rfl) rfl rfl (Nat.le_of_ble_eq_true rfl) (Nat.le_of_ble_eq_true rfl) (Nat.le_of_ble_eq_true rfl) (Nat.le_of_ble_eq_true rfl) (Nat.le_of_ble_eq_true rfl) ?_
    refine m_aload_n rfl rfl rfl ?_
    refine m_iload_n rfl rfl rfl ?_
    refine m_cv1 rfl rfl lk_7_142 (c_ceilingOf hl hA (by omega)) rfl (by first | decide | assumption | (simp only [cnt]; omega)) (Nat.le_of_ble_eq_true rfl) rfl rfl (Nat.le_of_ble_eq_true rfl) (Nat.le_of_ble_eq_true rfl) (Nat.le_of_ble_eq_true rfl) (Nat.le_of_ble_eq_true rfl) (Nat.le_of_ble_eq_true rfl) ?_
    refine m_max rfl rfl (by decide +kernel) (by omega) (by omega) (Nat.le_of_ble_eq_true rfl) (Nat.le_of_ble_eq_true rfl) (Nat.le_of_ble_eq_true rfl) (Nat.le_of_ble_eq_true rfl) ?_
    refine m_iret rfl rfl rfl (Nat.le_of_ble_eq_true rfl) (Nat.le_of_ble_eq_true rfl) ?_
    unfold moAc
    first | (rw [if_pos (by omega)]; exact ⟨rfl, rfl⟩) | (rw [if_neg (by omega)]; exact ⟨rfl, rfl⟩)
  · refine m_aload_n rfl rfl rfl ?_
    refine m_iload_n rfl rfl rfl ?_
    refine m_cv1 rfl rfl lk_7_110 (c_priorityOf hl (i := _) rfl (by omega)) rfl (by first | decide | assumption | (simp only [cnt]; omega)) (Nat.le_of_ble_eq_true rfl) rfl rfl (Nat.le_of_ble_eq_true rfl) (Nat.le_of_ble_eq_true rfl) (Nat.le_of_ble_eq_true rfl) (Nat.le_of_ble_eq_true rfl) (Nat.le_of_ble_eq_true rfl) ?_
    refine m_goto (tgt := 32) rfl rfl rfl ?_
    refine m_iret rfl rfl rfl (Nat.le_of_ble_eq_true rfl) (Nat.le_of_ble_eq_true rfl) ?_
    unfold moAc
    first | (rw [if_pos (by omega)]; exact ⟨rfl, rfl⟩) | (rw [if_neg (by omega)]; exact ⟨rfl, rfl⟩)

def moQf (m : zkM) (bf : Int) (r : Nat) (best : Int) : Int := if (0 < m 41 0 r ∧ m 33 0 (2 * r) < bf) ∧ (best = -1 ∨ m 33 0 (2 * r) < m 33 0 (2 * best.toNat)) then r else best
def moFq (m : zkM) (bf : Int) : Int := lp (moQf m bf) (m 7 0 9).toNat (-1)
theorem moQf_b (m : zkM) (bf : Int) {j : Nat} {s : Int} (h : -1 ≤ s ∧ s < j) : -1 ≤ moQf m bf j s ∧ moQf m bf j s < ((j + 1 : Nat) : Int) := by
  unfold moQf
  split <;> omega
theorem moFq_b (m : zkM) (bf : Int) : -1 ≤ moFq m bf ∧ moFq m bf < ((m 7 0 9).toNat : Int) :=
  lp_inv (fun j s => -1 ≤ s ∧ s < (j : Int)) (moQf m bf) (m 7 0 9).toNat (-1 : Int) (by omega) (fun j s _ h => moQf_b m bf h)
/-- the requests' numbers are in bounds -/
def moQ0 (m : zkM) : Prop := (0 ≤ m 7 0 9 ∧ m 7 0 9 ≤ 12) ∧ (∀ r, r < 12 → inR (m 41 0 r)) ∧ ∀ k, k < 24 → inR (m 33 0 k)
set_option maxRecDepth 10000 in
theorem c_firstRequest {l : Launch} {G : zkG} {mem : zkM} (hl : l.stackTraces = false) {bf : Int} (hQ : moQ0 mem) (hb : inR bf) : zkCt l G i_Mo_firstRequest 0 0 0 [vr 7 0, vi bf] mem (zkR1 (vi (moFq mem bf)) mem) := by
  refine zkCt_of hl ok_Mo_firstRequest (by decide +kernel) rfl rfl (List.forall_mem_cons.mpr ⟨rfl, (List.forall_mem_cons.mpr ⟨rfl, fun _ h => nomatch h⟩)⟩) (Nat.le_of_ble_eq_true rfl) ?_
  obtain ⟨q1, q2, q3⟩ := hQ
  refine m_iconst rfl rfl ?_
  refine m_istore_n rfl rfl (Nat.le_of_ble_eq_true rfl) rfl ?_
  refine m_iconst rfl rfl ?_
  refine m_istore_n rfl rfl (Nat.le_of_ble_eq_true rfl) rfl ?_
  refine zk_loop (P := fun (j : Nat) (s : Int) => zkW l G i_Mo_firstRequest _ 0 0 4 [some (vr 7 0), some (vi bf), some (vi s), some (vi j), none] [] mem) (I := fun j s => -1 ≤ s ∧ s < (j : Int)) (moQf mem bf) (mem 7 0 9).toNat (-1) (by omega) (fun j s hj hI => moQf_b mem bf hI) (fun j s hj hI hk => ?_) (fun _ => ?_)
  · have a1 := q2 j (by omega)
    have a2 := q3 (2 * j) (by omega)
    unfold moQf at hk
    refine m_iload_n rfl rfl rfl ?_
    refine m_aload_n rfl rfl rfl ?_
    refine m_gix (k := 9) (x := mem 7 _ 9) rfl rfl (Nat.le_of_ble_eq_true rfl) rfl rfl (by first | decide | assumption | (simp only [cnt]; omega)) rfl ?_
    refine m_icmp_ge (tgt := 81) rfl rfl rfl (by omega) (by omega) (fun c9 => ?_) (fun c9 => ?_)
    · exfalso; omega
    · refine m_aload_n rfl rfl rfl ?_
      refine m_gr (k := 23) rfl rfl (Nat.le_of_ble_eq_true rfl) rfl rfl (by first | decide | assumption | (simp only [cnt]; omega)) ?_
      refine m_iload_n rfl rfl rfl ?_
      refine m_ialx (n := j) (y := mem 41 _ (j)) rfl rfl (Nat.le_of_ble_eq_true rfl) rfl (by first | decide | assumption | (simp only [cnt]; omega)) (by omega) (by simp only [aln]; omega) rfl ?_
      refine m_if_le (tgt := 37) rfl rfl rfl (by omega) (fun c18 => ?_) (fun c18 => ?_)
      · refine m_iconst rfl rfl ?_
        refine m_istore rfl rfl (Nat.le_of_ble_eq_true rfl) rfl ?_
        refine m_iload rfl rfl rfl ?_
        refine m_if_eq (tgt := 73) rfl rfl rfl (by omega) (fun c42 => ?_) (fun c42 => ?_)
        · refine m_iload_n rfl rfl rfl ?_
          refine m_istore_n rfl rfl (Nat.le_of_ble_eq_true rfl) rfl ?_
          refine m_iinc rfl rfl rfl (Nat.le_of_ble_eq_true rfl) rfl ?_
          refine m_goto (tgt := 4) rfl rfl rfl ?_
          refine zk_fg 4 ?_
          first | (rw [if_pos (by omega)] at hk; exact hk) | (rw [if_neg (by omega)] at hk; exact hk)
        · exfalso; omega
      · refine m_aload_n rfl rfl rfl ?_
        refine m_gr (k := 10) rfl rfl (Nat.le_of_ble_eq_true rfl) rfl rfl (by first | decide | assumption | (simp only [cnt]; omega)) ?_
        refine m_iconst rfl rfl ?_
        refine m_iload_n rfl rfl rfl ?_
        refine m_imul rfl rfl ?_
        refine m_ialx (n := 2 * j) (y := mem 33 _ (2 * j)) rfl rfl (Nat.le_of_ble_eq_true rfl) rfl (by first | decide | assumption | (simp only [cnt]; omega)) (by omega) (by simp only [aln]; omega) rfl ?_
        refine m_iload_n rfl rfl rfl ?_
        refine m_icmp_ge (tgt := 37) rfl rfl rfl (by omega) (by omega) (fun c30 => ?_) (fun c30 => ?_)
        · refine m_iconst rfl rfl ?_
          refine m_istore rfl rfl (Nat.le_of_ble_eq_true rfl) rfl ?_
          refine m_iload rfl rfl rfl ?_
          refine m_if_eq (tgt := 73) rfl rfl rfl (by omega) (fun c42 => ?_) (fun c42 => ?_)
          · refine m_iload_n rfl rfl rfl ?_
            refine m_istore_n rfl rfl (Nat.le_of_ble_eq_true rfl) rfl ?_
            refine m_iinc rfl rfl rfl (Nat.le_of_ble_eq_true rfl) rfl ?_
            refine m_goto (tgt := 4) rfl rfl rfl ?_
            refine zk_fg 4 ?_
            first | (rw [if_pos (by omega)] at hk; exact hk) | (rw [if_neg (by omega)] at hk; exact hk)
          · exfalso; omega
        · refine m_iconst rfl rfl ?_
          refine m_goto (tgt := 38) rfl rfl rfl ?_
          refine m_istore rfl rfl (Nat.le_of_ble_eq_true rfl) rfl ?_
          refine m_iload rfl rfl rfl ?_
          refine m_if_eq (tgt := 73) rfl rfl rfl (by omega) (fun c42 => ?_) (fun c42 => ?_)
          · exfalso; omega
          · refine m_iload_n rfl rfl rfl ?_
            refine m_iconst rfl rfl ?_
            refine m_icmp_eq (tgt := 69) rfl rfl rfl (by omega) (by omega) (fun c47 => ?_) (fun c47 => ?_)
            · refine m_iload_n rfl rfl rfl ?_
              refine m_goto (tgt := 74) rfl rfl rfl ?_
              refine m_istore_n rfl rfl (Nat.le_of_ble_eq_true rfl) rfl ?_
              refine m_iinc rfl rfl rfl (Nat.le_of_ble_eq_true rfl) rfl ?_
              refine m_goto (tgt := 4) rfl rfl rfl ?_
              refine zk_fg 4 ?_
              first | (rw [if_pos (by omega)] at hk; exact hk) | (rw [if_neg (by omega)] at hk; exact hk)
            · have a3 := q3 (2 * s.toNat) (by omega)
              refine m_aload_n rfl rfl rfl ?_
              refine m_gr (k := 10) rfl rfl (Nat.le_of_ble_eq_true rfl) rfl rfl (by first | decide | assumption | (simp only [cnt]; omega)) ?_
              refine m_iconst rfl rfl ?_
              refine m_iload_n rfl rfl rfl ?_
              refine m_imul rfl rfl ?_
              refine m_ialx (n := 2 * j) (y := mem 33 _ (2 * j)) rfl rfl (Nat.le_of_ble_eq_true rfl) rfl (by first | decide | assumption | (simp only [cnt]; omega)) (by omega) (by simp only [aln]; omega) rfl ?_
              refine m_aload_n rfl rfl rfl ?_
              refine m_gr (k := 10) rfl rfl (Nat.le_of_ble_eq_true rfl) rfl rfl (by first | decide | assumption | (simp only [cnt]; omega)) ?_
              refine m_iconst rfl rfl ?_
              refine m_iload_n rfl rfl rfl ?_
              refine m_imul rfl rfl ?_
              refine m_ialx (n := 2 * s.toNat) (y := mem 33 _ (2 * s.toNat)) rfl rfl (Nat.le_of_ble_eq_true rfl) rfl (by first | decide | assumption | (simp only [cnt]; omega)) (by omega) (by simp only [aln]; omega) rfl ?_
              refine m_icmp_ge (tgt := 73) rfl rfl rfl (by omega) (by omega) (fun c66 => ?_) (fun c66 => ?_)
              · refine m_iload_n rfl rfl rfl ?_
                refine m_istore_n rfl rfl (Nat.le_of_ble_eq_true rfl) rfl ?_
                refine m_iinc rfl rfl rfl (Nat.le_of_ble_eq_true rfl) rfl ?_
                refine m_goto (tgt := 4) rfl rfl rfl ?_
                refine zk_fg 4 ?_
                first | (rw [if_pos (by omega)] at hk; exact hk) | (rw [if_neg (by omega)] at hk; exact hk)
              · refine m_iload_n rfl rfl rfl ?_
                refine m_goto (tgt := 74) rfl rfl rfl ?_
                refine m_istore_n rfl rfl (Nat.le_of_ble_eq_true rfl) rfl ?_
                refine m_iinc rfl rfl rfl (Nat.le_of_ble_eq_true rfl) rfl ?_
                refine m_goto (tgt := 4) rfl rfl rfl ?_
                refine zk_fg 4 ?_
                first | (rw [if_pos (by omega)] at hk; exact hk) | (rw [if_neg (by omega)] at hk; exact hk)
  · refine m_iload_n rfl rfl rfl ?_
    refine m_aload_n rfl rfl rfl ?_
    refine m_gix (k := 9) (x := mem 7 _ 9) rfl rfl (Nat.le_of_ble_eq_true rfl) rfl rfl (by first | decide | assumption | (simp only [cnt]; omega)) rfl ?_
    refine m_icmp_ge (tgt := 81) rfl rfl rfl (by omega) (by omega) (fun c9 => ?_) (fun c9 => ?_)
    · refine m_iload_n rfl rfl rfl ?_
      refine m_iret rfl rfl rfl (Nat.le_of_ble_eq_true rfl) (Nat.le_of_ble_eq_true rfl) ?_
      exact ⟨rfl, rfl⟩
    · exfalso; omega

def moRd (m : zkM) (bf : Int) : Prop := 0 < m 7 0 6 ∧ 0 < m 7 0 19 ∧ moFq m bf ≠ -1
theorem moRd_d (m : zkM) (bf : Int) : Nonempty (Decidable (moRd m bf)) := ⟨by unfold moRd; exact inferInstance⟩
def moRb (m : zkM) (bf : Int) : Bool := decide (0 < m 7 0 6 ∧ 0 < m 7 0 19 ∧ moFq m bf ≠ -1)
set_option maxRecDepth 10000 in
theorem c_moisReady {l : Launch} {G : zkG} {mem : zkM} (hl : l.stackTraces = false) {bf : Int} (hQ : moQ0 mem) (hb : inR bf) (h6 : inR (mem 7 0 6)) (h19 : inR (mem 7 0 19)) : zkCt l G i_Mo_isReady 1 0 0 [vr 7 0, vi bf] mem (zkR1 (vi (b2i (moRb mem bf))) mem) := by
  refine zkCt_of hl ok_Mo_isReady (by decide +kernel) rfl rfl (List.forall_mem_cons.mpr ⟨rfl, (List.forall_mem_cons.mpr ⟨rfl, fun _ h => nomatch h⟩)⟩) (Nat.le_of_ble_eq_true rfl) ?_
  have hfq := moFq_b mem bf
  have hq9 := hQ.1
  refine m_aload_n rfl rfl rfl ?_
  refine m_cv1 rfl rfl lk_7_124 (c_hasServer hl (by omega)) rfl (by first | decide | assumption | (simp only [cnt]; omega)) (Nat.le_of_ble_eq_true rfl) rfl rfl (Nat.le_of_ble_eq_true rfl) (Nat.le_of_ble_eq_true rfl) (Nat.le_of_ble_eq_true rfl) (Nat.le_of_ble_eq_true rfl) (Nat.le_of_ble_eq_true rfl) ?_
  refine m_if_eq_d (tgt := 27) rfl rfl rfl (fun c4 => ?_) (fun c4 => ?_)
  · refine m_iconst rfl rfl ?_
    refine m_z0 rfl rfl rfl (Nat.le_of_ble_eq_true rfl) (Nat.le_of_ble_eq_true rfl) ?_
    unfold moRb
    first | exact ⟨by rw [dt (by omega)], rfl⟩ | exact ⟨by rw [df (by omega)], rfl⟩
  · refine m_aload_n rfl rfl rfl ?_
    refine m_gix (k := 19) (x := mem 7 _ 19) rfl rfl (Nat.le_of_ble_eq_true rfl) rfl rfl (by first | decide | assumption | (simp only [cnt]; omega)) rfl ?_
    refine m_if_le (tgt := 27) rfl rfl rfl (by omega) (fun c11 => ?_) (fun c11 => ?_)
    · refine m_iconst rfl rfl ?_
      refine m_z0 rfl rfl rfl (Nat.le_of_ble_eq_true rfl) (Nat.le_of_ble_eq_true rfl) ?_
      unfold moRb
      first | exact ⟨by rw [dt (by omega)], rfl⟩ | exact ⟨by rw [df (by omega)], rfl⟩
    · refine m_aload_n rfl rfl rfl ?_
      refine m_iload_n rfl rfl rfl ?_
      refine m_cv1 rfl rfl lk_7_174 (c_firstRequest hl hQ (by omega)) rfl (by first | decide | assumption | (simp only [cnt]; omega)) (Nat.le_of_ble_eq_true rfl) rfl rfl (Nat.le_of_ble_eq_true rfl) (Nat.le_of_ble_eq_true rfl) (Nat.le_of_ble_eq_true rfl) (Nat.le_of_ble_eq_true rfl) (Nat.le_of_ble_eq_true rfl) ?_
      refine m_iconst rfl rfl ?_
      refine m_icmp_eq (tgt := 27) rfl rfl rfl (by omega) (by omega) (fun c20 => ?_) (fun c20 => ?_)
      · refine m_iconst rfl rfl ?_
        refine m_z0 rfl rfl rfl (Nat.le_of_ble_eq_true rfl) (Nat.le_of_ble_eq_true rfl) ?_
        unfold moRb
        first | exact ⟨by rw [dt (by omega)], rfl⟩ | exact ⟨by rw [df (by omega)], rfl⟩
      · refine m_iconst rfl rfl ?_
        refine m_goto (tgt := 28) rfl rfl rfl ?_
        refine m_z1 rfl rfl rfl (Nat.le_of_ble_eq_true rfl) (Nat.le_of_ble_eq_true rfl) ?_
        unfold moRb
        first | exact ⟨by rw [dt (by omega)], rfl⟩ | exact ⟨by rw [df (by omega)], rfl⟩

def moAa (m : zkM) (t : Nat) : Int := if m 36 0 t = 0 then 0 else moAc m t
def moUf (m : zkM) (t : Nat) (q : Int × Int) : Int × Int := if q.2 < moAa m t ∨ (moAa m t = q.2 ∧ 0 < moAa m t ∧ moHd m t ≠ -1) then ((t : Int), moAa m t) else q
def moU0 (m : zkM) : Int × Int := if moRb m (m 7 0 11 + 1) = true then (9, m 7 0 6) else (-1, 0)
def moMU (m : zkM) : Int := (lp (moUf m) (moN m) (moU0 m)).1
theorem moAa_b {m : zkM} (h : moA m) {t : Nat} (ht : t < 5) : 0 ≤ moAa m t ∧ moAa m t ≤ 9 := by
  have := moAc_b h ht
  unfold moAa
  split <;> omega
theorem moMU_I {m : zkM} (h : moA m) : (-1 ≤ moMU m ∧ moMU m ≤ 9) ∧ 0 ≤ (lp (moUf m) (moN m) (moU0 m)).2 ∧ (lp (moUf m) (moN m) (moU0 m)).2 ≤ 9 := by
  have hn := moA_n h
  have h6 := h.2.2.2.2.2.1
  refine lp_inv (fun _ q => (-1 ≤ q.1 ∧ q.1 ≤ 9) ∧ 0 ≤ q.2 ∧ q.2 ≤ 9) (moUf m) (moN m) (moU0 m) ?_ (fun j q hj hq => ?_)
  · unfold moU0
    split <;> (dsimp only; omega)
  · have := moAa_b h (t := j) (by omega)
    unfold moUf
    split
    · dsimp only; omega
    · exact hq
set_option maxRecDepth 10000 in
theorem c_momostUrgent {l : Launch} {G : zkG} {mem : zkM} (hl : l.stackTraces = false) (hA : moA mem) (hQ : moQ0 mem) (hc : 0 ≤ mem 7 0 11 ∧ mem 7 0 11 ≤ 400) (h19 : inR (mem 7 0 19)) (h1 : ∀ t, t < 5 → inR (mem 36 0 t) ∧ inR (mem 37 0 t)) : zkCt l G i_Mo_mostUrgent 4 0 0 [vr 7 0] mem (zkR1 (vi (moMU mem)) mem) := by
  refine zkCt_of hl ok_Mo_mostUrgent (by decide +kernel) rfl rfl (List.forall_mem_cons.mpr ⟨rfl, fun _ h => nomatch h⟩) (Nat.le_of_ble_eq_true rfl) ?_
  have hn := moA_n hA
  have h6 := hA.2.2.2.2.2.1
  refine m_aload_n rfl rfl rfl ?_
  refine m_aload_n rfl rfl rfl ?_
  refine m_gix (k := 11) (x := mem 7 _ 11) rfl rfl (Nat.le_of_ble_eq_true rfl) rfl rfl (by first | decide | assumption | (simp only [cnt]; omega)) rfl ?_
  refine m_iconst rfl rfl ?_
  refine m_iadd rfl rfl ?_
  refine m_cv1 rfl rfl lk_7_177 (c_moisReady hl hQ (by omega) (by omega) (by omega)) rfl (by first | decide | assumption | (simp only [cnt]; omega)) (Nat.le_of_ble_eq_true rfl) rfl rfl (Nat.le_of_ble_eq_true rfl) (Nat.le_of_ble_eq_true rfl) (Nat.le_of_ble_eq_true rfl) (Nat.le_of_ble_eq_true rfl) (Nat.le_of_ble_eq_true rfl) ?_
  refine m_if_eq_b (tgt := 18) rfl rfl rfl (fun c10 => ?_) (fun c10 => ?_)
  · refine m_iconst rfl rfl ?_
    refine m_istore_n rfl rfl (Nat.le_of_ble_eq_true rfl) rfl ?_
    refine m_iload_n rfl rfl rfl ?_
    refine m_bipush rfl rfl (by decide) ?_
    refine m_icmp_ne (tgt := 33) rfl rfl rfl (by omega) (by omega) (fun c23 => ?_) (fun c23 => ?_)
    · refine m_iconst rfl rfl ?_
      refine m_istore_n rfl rfl (Nat.le_of_ble_eq_true rfl) rfl ?_
      refine m_iconst rfl rfl ?_
      refine m_istore_n rfl rfl (Nat.le_of_ble_eq_true rfl) rfl ?_
      refine zk_loop (P := fun (j : Nat) (q : Int × Int) => zkW l G i_Mo_mostUrgent _ 0 0 37 [some (vr 7 0), some (vi q.1), some (vi q.2), some (vi j), none] [] mem) (I := fun _ q => (-1 ≤ q.1 ∧ q.1 ≤ 9) ∧ 0 ≤ q.2 ∧ q.2 ≤ 9) (moUf mem) (moN mem) (_, _) ?_ (fun j q hj hq => ?_) (fun j q hj hI hk => ?_) (fun _ => ?_)
      · dsimp only; omega
      · have := moAa_b hA (t := j) (by omega)
        unfold moUf
        split
        · dsimp only; omega
        · exact hq
      · obtain ⟨b, s⟩ := q
        dsimp only at hI hk ⊢
        have a0 := h1 j (by omega)
        have a1 := moAc_b hA (t := j) (by omega)
        have a2 := moHd_b hA (t := j) (by omega)
        unfold moUf moAa at hk
        dsimp only at hk
        refine m_iload_n rfl rfl rfl ?_
        refine m_aload_n rfl rfl rfl ?_
        refine m_gix (k := 2) (x := mem 7 _ 2) rfl rfl (Nat.le_of_ble_eq_true rfl) rfl rfl (by first | decide | assumption | (simp only [cnt]; omega)) rfl ?_
        refine m_icmp_ge (tgt := 102) rfl rfl rfl (by omega) (by omega) (fun c42 => ?_) (fun c42 => ?_)
        · exfalso; omega
        · refine m_aload_n rfl rfl rfl ?_
          refine m_gr (k := 14) rfl rfl (Nat.le_of_ble_eq_true rfl) rfl rfl (by first | decide | assumption | (simp only [cnt]; omega)) ?_
          refine m_iload_n rfl rfl rfl ?_
          refine m_ialx (n := j) (y := mem 36 _ (j)) rfl rfl (Nat.le_of_ble_eq_true rfl) rfl (by first | decide | assumption | (simp only [cnt]; omega)) (by omega) (by simp only [aln]; omega) rfl ?_
          refine m_if_ne (tgt := 58) rfl rfl rfl (by omega) (fun c51 => ?_) (fun c51 => ?_)
          · refine m_aload_n rfl rfl rfl ?_
            refine m_iload_n rfl rfl rfl ?_
            refine m_cv1 rfl rfl lk_7_180 (c_activeOf hl hA (t := _) rfl (by omega) (by omega) (by omega)) rfl (by first | decide | assumption | (simp only [cnt]; omega)) (Nat.le_of_ble_eq_true rfl) rfl rfl (Nat.le_of_ble_eq_true rfl) (Nat.le_of_ble_eq_true rfl) (Nat.le_of_ble_eq_true rfl) (Nat.le_of_ble_eq_true rfl) (Nat.le_of_ble_eq_true rfl) ?_
            refine m_istore rfl rfl (Nat.le_of_ble_eq_true rfl) rfl ?_
            refine m_iload rfl rfl rfl ?_
            refine m_iload_n rfl rfl rfl ?_
            refine m_icmp_gt (tgt := 91) rfl rfl rfl (by omega) (by omega) (fun c68 => ?_) (fun c68 => ?_)
            · refine m_iload_n rfl rfl rfl ?_
              refine m_istore_n rfl rfl (Nat.le_of_ble_eq_true rfl) rfl ?_
              refine m_iload rfl rfl rfl ?_
              refine m_istore_n rfl rfl (Nat.le_of_ble_eq_true rfl) rfl ?_
              refine m_iinc rfl rfl rfl (Nat.le_of_ble_eq_true rfl) rfl ?_
              refine m_goto (tgt := 37) rfl rfl rfl ?_
              refine zk_fg 4 ?_
              first | (exfalso; omega) | (rw [if_pos (show mem 36 0 j = 0 by omega)] at hk; first | (rw [if_pos (by omega)] at hk; exact hk) | (rw [if_neg (by omega)] at hk; exact hk)) | (rw [if_neg (show ¬ mem 36 0 j = 0 by omega)] at hk; first | (rw [if_pos (by omega)] at hk; exact hk) | (rw [if_neg (by omega)] at hk; exact hk))
            · refine m_iload rfl rfl rfl ?_
              refine m_iload_n rfl rfl rfl ?_
              refine m_icmp_ne (tgt := 96) rfl rfl rfl (by omega) (by omega) (fun c74 => ?_) (fun c74 => ?_)
              · refine m_iinc rfl rfl rfl (Nat.le_of_ble_eq_true rfl) rfl ?_
                refine m_goto (tgt := 37) rfl rfl rfl ?_
                refine zk_fg 4 ?_
                first | (exfalso; omega) | (rw [if_pos (show mem 36 0 j = 0 by omega)] at hk; first | (rw [if_pos (by omega)] at hk; exact hk) | (rw [if_neg (by omega)] at hk; exact hk)) | (rw [if_neg (show ¬ mem 36 0 j = 0 by omega)] at hk; first | (rw [if_pos (by omega)] at hk; exact hk) | (rw [if_neg (by omega)] at hk; exact hk))
              · refine m_iload rfl rfl rfl ?_
                refine m_if_le (tgt := 96) rfl rfl rfl (by omega) (fun c79 => ?_) (fun c79 => ?_)
                · refine m_iinc rfl rfl rfl (Nat.le_of_ble_eq_true rfl) rfl ?_
                  refine m_goto (tgt := 37) rfl rfl rfl ?_
                  refine zk_fg 4 ?_
                  first | (exfalso; omega) | (rw [if_pos (show mem 36 0 j = 0 by omega)] at hk; first | (rw [if_pos (by omega)] at hk; exact hk) | (rw [if_neg (by omega)] at hk; exact hk)) | (rw [if_neg (show ¬ mem 36 0 j = 0 by omega)] at hk; first | (rw [if_pos (by omega)] at hk; exact hk) | (rw [if_neg (by omega)] at hk; exact hk))
                · refine m_aload_n rfl rfl rfl ?_
                  refine m_iload_n rfl rfl rfl ?_
                  refine m_cv1 rfl rfl lk_7_171 (c_heldBy hl hA (t := _) rfl (by omega) (by omega) (by omega)) rfl (by first | decide | assumption | (simp only [cnt]; omega)) (Nat.le_of_ble_eq_true rfl) rfl rfl (Nat.le_of_ble_eq_true rfl) (Nat.le_of_ble_eq_true rfl) (Nat.le_of_ble_eq_true rfl) (Nat.le_of_ble_eq_true rfl) (Nat.le_of_ble_eq_true rfl) ?_
                  refine m_iconst rfl rfl ?_
                  refine m_icmp_eq (tgt := 96) rfl rfl rfl (by omega) (by omega) (fun c88 => ?_) (fun c88 => ?_)
                  · refine m_iinc rfl rfl rfl (Nat.le_of_ble_eq_true rfl) rfl ?_
                    refine m_goto (tgt := 37) rfl rfl rfl ?_
                    refine zk_fg 4 ?_
                    first | (exfalso; omega) | (rw [if_pos (show mem 36 0 j = 0 by omega)] at hk; first | (rw [if_pos (by omega)] at hk; exact hk) | (rw [if_neg (by omega)] at hk; exact hk)) | (rw [if_neg (show ¬ mem 36 0 j = 0 by omega)] at hk; first | (rw [if_pos (by omega)] at hk; exact hk) | (rw [if_neg (by omega)] at hk; exact hk))
                  · refine m_iload_n rfl rfl rfl ?_
                    refine m_istore_n rfl rfl (Nat.le_of_ble_eq_true rfl) rfl ?_
                    refine m_iload rfl rfl rfl ?_
                    refine m_istore_n rfl rfl (Nat.le_of_ble_eq_true rfl) rfl ?_
                    refine m_iinc rfl rfl rfl (Nat.le_of_ble_eq_true rfl) rfl ?_
                    refine m_goto (tgt := 37) rfl rfl rfl ?_
                    refine zk_fg 4 ?_
                    first | (exfalso; omega) | (rw [if_pos (show mem 36 0 j = 0 by omega)] at hk; first | (rw [if_pos (by omega)] at hk; exact hk) | (rw [if_neg (by omega)] at hk; exact hk)) | (rw [if_neg (show ¬ mem 36 0 j = 0 by omega)] at hk; first | (rw [if_pos (by omega)] at hk; exact hk) | (rw [if_neg (by omega)] at hk; exact hk))
          · refine m_iconst rfl rfl ?_
            refine m_goto (tgt := 63) rfl rfl rfl ?_
            refine m_istore rfl rfl (Nat.le_of_ble_eq_true rfl) rfl ?_
            refine m_iload rfl rfl rfl ?_
            refine m_iload_n rfl rfl rfl ?_
            refine m_icmp_gt (tgt := 91) rfl rfl rfl (by omega) (by omega) (fun c68 => ?_) (fun c68 => ?_)
            · refine m_iload_n rfl rfl rfl ?_
              refine m_istore_n rfl rfl (Nat.le_of_ble_eq_true rfl) rfl ?_
              refine m_iload rfl rfl rfl ?_
              refine m_istore_n rfl rfl (Nat.le_of_ble_eq_true rfl) rfl ?_
              refine m_iinc rfl rfl rfl (Nat.le_of_ble_eq_true rfl) rfl ?_
              refine m_goto (tgt := 37) rfl rfl rfl ?_
              refine zk_fg 4 ?_
              first | (exfalso; omega) | (rw [if_pos (show mem 36 0 j = 0 by omega)] at hk; first | (rw [if_pos (by omega)] at hk; exact hk) | (rw [if_neg (by omega)] at hk; exact hk)) | (rw [if_neg (show ¬ mem 36 0 j = 0 by omega)] at hk; first | (rw [if_pos (by omega)] at hk; exact hk) | (rw [if_neg (by omega)] at hk; exact hk))
            · refine m_iload rfl rfl rfl ?_
              refine m_iload_n rfl rfl rfl ?_
              refine m_icmp_ne (tgt := 96) rfl rfl rfl (by omega) (by omega) (fun c74 => ?_) (fun c74 => ?_)
              · refine m_iinc rfl rfl rfl (Nat.le_of_ble_eq_true rfl) rfl ?_
                refine m_goto (tgt := 37) rfl rfl rfl ?_
                refine zk_fg 4 ?_
                first | (exfalso; omega) | (rw [if_pos (show mem 36 0 j = 0 by omega)] at hk; first | (rw [if_pos (by omega)] at hk; exact hk) | (rw [if_neg (by omega)] at hk; exact hk)) | (rw [if_neg (show ¬ mem 36 0 j = 0 by omega)] at hk; first | (rw [if_pos (by omega)] at hk; exact hk) | (rw [if_neg (by omega)] at hk; exact hk))
              · refine m_iload rfl rfl rfl ?_
                refine m_if_le (tgt := 96) rfl rfl rfl (by omega) (fun c79 => ?_) (fun c79 => ?_)
                · refine m_iinc rfl rfl rfl (Nat.le_of_ble_eq_true rfl) rfl ?_
                  refine m_goto (tgt := 37) rfl rfl rfl ?_
                  refine zk_fg 4 ?_
                  first | (exfalso; omega) | (rw [if_pos (show mem 36 0 j = 0 by omega)] at hk; first | (rw [if_pos (by omega)] at hk; exact hk) | (rw [if_neg (by omega)] at hk; exact hk)) | (rw [if_neg (show ¬ mem 36 0 j = 0 by omega)] at hk; first | (rw [if_pos (by omega)] at hk; exact hk) | (rw [if_neg (by omega)] at hk; exact hk))
                · exfalso; omega
      · refine m_iload_n rfl rfl rfl ?_
        refine m_aload_n rfl rfl rfl ?_
        refine m_gix (k := 2) (x := mem 7 _ 2) rfl rfl (Nat.le_of_ble_eq_true rfl) rfl rfl (by first | decide | assumption | (simp only [cnt]; omega)) rfl ?_
        refine m_icmp_ge (tgt := 102) rfl rfl rfl (by omega) (by omega) (fun c42 => ?_) (fun c42 => ?_)
        · refine m_iload_n rfl rfl rfl ?_
          refine m_iret rfl rfl rfl (Nat.le_of_ble_eq_true rfl) (Nat.le_of_ble_eq_true rfl) ?_
          unfold moMU moU0
          first | (rw [if_pos c10]; exact ⟨rfl, rfl⟩) | (rw [if_neg (by rw [c10]; decide)]; exact ⟨rfl, rfl⟩)
        · exfalso; omega
    · exfalso; omega
  · refine m_bipush rfl rfl (by decide) ?_
    refine m_goto (tgt := 19) rfl rfl rfl ?_
    refine m_istore_n rfl rfl (Nat.le_of_ble_eq_true rfl) rfl ?_
    refine m_iload_n rfl rfl rfl ?_
    refine m_bipush rfl rfl (by decide) ?_
    refine m_icmp_ne (tgt := 33) rfl rfl rfl (by omega) (by omega) (fun c23 => ?_) (fun c23 => ?_)
    · exfalso; omega
    · refine m_aload_n rfl rfl rfl ?_
      refine m_gix (k := 6) (x := mem 7 _ 6) rfl rfl (Nat.le_of_ble_eq_true rfl) rfl rfl (by first | decide | assumption | (simp only [cnt]; omega)) rfl ?_
      refine m_goto (tgt := 34) rfl rfl rfl ?_
      refine m_istore_n rfl rfl (Nat.le_of_ble_eq_true rfl) rfl ?_
      refine m_iconst rfl rfl ?_
      refine m_istore_n rfl rfl (Nat.le_of_ble_eq_true rfl) rfl ?_
      refine zk_loop (P := fun (j : Nat) (q : Int × Int) => zkW l G i_Mo_mostUrgent _ 0 0 37 [some (vr 7 0), some (vi q.1), some (vi q.2), some (vi j), none] [] mem) (I := fun _ q => (-1 ≤ q.1 ∧ q.1 ≤ 9) ∧ 0 ≤ q.2 ∧ q.2 ≤ 9) (moUf mem) (moN mem) (_, _) ?_ (fun j q hj hq => ?_) (fun j q hj hI hk => ?_) (fun _ => ?_)
      · dsimp only; omega
      · have := moAa_b hA (t := j) (by omega)
        unfold moUf
        split
        · dsimp only; omega
        · exact hq
      · obtain ⟨b, s⟩ := q
        dsimp only at hI hk ⊢
        have a0 := h1 j (by omega)
        have a1 := moAc_b hA (t := j) (by omega)
        have a2 := moHd_b hA (t := j) (by omega)
        unfold moUf moAa at hk
        dsimp only at hk
        refine m_iload_n rfl rfl rfl ?_
        refine m_aload_n rfl rfl rfl ?_
        refine m_gix (k := 2) (x := mem 7 _ 2) rfl rfl (Nat.le_of_ble_eq_true rfl) rfl rfl (by first | decide | assumption | (simp only [cnt]; omega)) rfl ?_
        refine m_icmp_ge (tgt := 102) rfl rfl rfl (by omega) (by omega) (fun c42 => ?_) (fun c42 => ?_)
        · exfalso; omega
        · refine m_aload_n rfl rfl rfl ?_
          refine m_gr (k := 14) rfl rfl (Nat.le_of_ble_eq_true rfl) rfl rfl (by first | decide | assumption | (simp only [cnt]; omega)) ?_
          refine m_iload_n rfl rfl rfl ?_
          refine m_ialx (n := j) (y := mem 36 _ (j)) rfl rfl (Nat.le_of_ble_eq_true rfl) rfl (by first | decide | assumption | (simp only [cnt]; omega)) (by omega) (by simp only [aln]; omega) rfl ?_
          refine m_if_ne (tgt := 58) rfl rfl rfl (by omega) (fun c51 => ?_) (fun c51 => ?_)
          · refine m_aload_n rfl rfl rfl ?_
            refine m_iload_n rfl rfl rfl ?_
            refine m_cv1 rfl rfl lk_7_180 (c_activeOf hl hA (t := _) rfl (by omega) (by omega) (by omega)) rfl (by first | decide | assumption | (simp only [cnt]; omega)) (Nat.le_of_ble_eq_true rfl) rfl rfl (Nat.le_of_ble_eq_true rfl) (Nat.le_of_ble_eq_true rfl) (Nat.le_of_ble_eq_true rfl) (Nat.le_of_ble_eq_true rfl) (Nat.le_of_ble_eq_true rfl) ?_
            refine m_istore rfl rfl (Nat.le_of_ble_eq_true rfl) rfl ?_
            refine m_iload rfl rfl rfl ?_
            refine m_iload_n rfl rfl rfl ?_
            refine m_icmp_gt (tgt := 91) rfl rfl rfl (by omega) (by omega) (fun c68 => ?_) (fun c68 => ?_)
            · refine m_iload_n rfl rfl rfl ?_
              refine m_istore_n rfl rfl (Nat.le_of_ble_eq_true rfl) rfl ?_
              refine m_iload rfl rfl rfl ?_
              refine m_istore_n rfl rfl (Nat.le_of_ble_eq_true rfl) rfl ?_
              refine m_iinc rfl rfl rfl (Nat.le_of_ble_eq_true rfl) rfl ?_
              refine m_goto (tgt := 37) rfl rfl rfl ?_
              refine zk_fg 4 ?_
              first | (exfalso; omega) | (rw [if_pos (show mem 36 0 j = 0 by omega)] at hk; first | (rw [if_pos (by omega)] at hk; exact hk) | (rw [if_neg (by omega)] at hk; exact hk)) | (rw [if_neg (show ¬ mem 36 0 j = 0 by omega)] at hk; first | (rw [if_pos (by omega)] at hk; exact hk) | (rw [if_neg (by omega)] at hk; exact hk))
            · refine m_iload rfl rfl rfl ?_
              refine m_iload_n rfl rfl rfl ?_
              refine m_icmp_ne (tgt := 96) rfl rfl rfl (by omega) (by omega) (fun c74 => ?_) (fun c74 => ?_)
              · refine m_iinc rfl rfl rfl (Nat.le_of_ble_eq_true rfl) rfl ?_
                refine m_goto (tgt := 37) rfl rfl rfl ?_
                refine zk_fg 4 ?_
                first | (exfalso; omega) | (rw [if_pos (show mem 36 0 j = 0 by omega)] at hk; first | (rw [if_pos (by omega)] at hk; exact hk) | (rw [if_neg (by omega)] at hk; exact hk)) | (rw [if_neg (show ¬ mem 36 0 j = 0 by omega)] at hk; first | (rw [if_pos (by omega)] at hk; exact hk) | (rw [if_neg (by omega)] at hk; exact hk))
              · refine m_iload rfl rfl rfl ?_
                refine m_if_le (tgt := 96) rfl rfl rfl (by omega) (fun c79 => ?_) (fun c79 => ?_)
                · refine m_iinc rfl rfl rfl (Nat.le_of_ble_eq_true rfl) rfl ?_
                  refine m_goto (tgt := 37) rfl rfl rfl ?_
                  refine zk_fg 4 ?_
                  first | (exfalso; omega) | (rw [if_pos (show mem 36 0 j = 0 by omega)] at hk; first | (rw [if_pos (by omega)] at hk; exact hk) | (rw [if_neg (by omega)] at hk; exact hk)) | (rw [if_neg (show ¬ mem 36 0 j = 0 by omega)] at hk; first | (rw [if_pos (by omega)] at hk; exact hk) | (rw [if_neg (by omega)] at hk; exact hk))
                · refine m_aload_n rfl rfl rfl ?_
                  refine m_iload_n rfl rfl rfl ?_
                  refine m_cv1 rfl rfl lk_7_171 (c_heldBy hl hA (t := _) rfl (by omega) (by omega) (by omega)) rfl (by first | decide | assumption | (simp only [cnt]; omega)) (Nat.le_of_ble_eq_true rfl) rfl rfl (Nat.le_of_ble_eq_true rfl) (Nat.le_of_ble_eq_true rfl) (Nat.le_of_ble_eq_true rfl) (Nat.le_of_ble_eq_true rfl) (Nat.le_of_ble_eq_true rfl) ?_
                  refine m_iconst rfl rfl ?_
                  refine m_icmp_eq (tgt := 96) rfl rfl rfl (by omega) (by omega) (fun c88 => ?_) (fun c88 => ?_)
                  · refine m_iinc rfl rfl rfl (Nat.le_of_ble_eq_true rfl) rfl ?_
                    refine m_goto (tgt := 37) rfl rfl rfl ?_
                    refine zk_fg 4 ?_
                    first | (exfalso; omega) | (rw [if_pos (show mem 36 0 j = 0 by omega)] at hk; first | (rw [if_pos (by omega)] at hk; exact hk) | (rw [if_neg (by omega)] at hk; exact hk)) | (rw [if_neg (show ¬ mem 36 0 j = 0 by omega)] at hk; first | (rw [if_pos (by omega)] at hk; exact hk) | (rw [if_neg (by omega)] at hk; exact hk))
                  · refine m_iload_n rfl rfl rfl ?_
                    refine m_istore_n rfl rfl (Nat.le_of_ble_eq_true rfl) rfl ?_
                    refine m_iload rfl rfl rfl ?_
                    refine m_istore_n rfl rfl (Nat.le_of_ble_eq_true rfl) rfl ?_
                    refine m_iinc rfl rfl rfl (Nat.le_of_ble_eq_true rfl) rfl ?_
                    refine m_goto (tgt := 37) rfl rfl rfl ?_
                    refine zk_fg 4 ?_
                    first | (exfalso; omega) | (rw [if_pos (show mem 36 0 j = 0 by omega)] at hk; first | (rw [if_pos (by omega)] at hk; exact hk) | (rw [if_neg (by omega)] at hk; exact hk)) | (rw [if_neg (show ¬ mem 36 0 j = 0 by omega)] at hk; first | (rw [if_pos (by omega)] at hk; exact hk) | (rw [if_neg (by omega)] at hk; exact hk))
          · refine m_iconst rfl rfl ?_
            refine m_goto (tgt := 63) rfl rfl rfl ?_
            refine m_istore rfl rfl (Nat.le_of_ble_eq_true rfl) rfl ?_
            refine m_iload rfl rfl rfl ?_
            refine m_iload_n rfl rfl rfl ?_
            refine m_icmp_gt (tgt := 91) rfl rfl rfl (by omega) (by omega) (fun c68 => ?_) (fun c68 => ?_)
            · refine m_iload_n rfl rfl rfl ?_
              refine m_istore_n rfl rfl (Nat.le_of_ble_eq_true rfl) rfl ?_
              refine m_iload rfl rfl rfl ?_
              refine m_istore_n rfl rfl (Nat.le_of_ble_eq_true rfl) rfl ?_
              refine m_iinc rfl rfl rfl (Nat.le_of_ble_eq_true rfl) rfl ?_
              refine m_goto (tgt := 37) rfl rfl rfl ?_
              refine zk_fg 4 ?_
              first | (exfalso; omega) | (rw [if_pos (show mem 36 0 j = 0 by omega)] at hk; first | (rw [if_pos (by omega)] at hk; exact hk) | (rw [if_neg (by omega)] at hk; exact hk)) | (rw [if_neg (show ¬ mem 36 0 j = 0 by omega)] at hk; first | (rw [if_pos (by omega)] at hk; exact hk) | (rw [if_neg (by omega)] at hk; exact hk))
            · refine m_iload rfl rfl rfl ?_
              refine m_iload_n rfl rfl rfl ?_
              refine m_icmp_ne (tgt := 96) rfl rfl rfl (by omega) (by omega) (fun c74 => ?_) (fun c74 => ?_)
              · refine m_iinc rfl rfl rfl (Nat.le_of_ble_eq_true rfl) rfl ?_
                refine m_goto (tgt := 37) rfl rfl rfl ?_
                refine zk_fg 4 ?_
                first | (exfalso; omega) | (rw [if_pos (show mem 36 0 j = 0 by omega)] at hk; first | (rw [if_pos (by omega)] at hk; exact hk) | (rw [if_neg (by omega)] at hk; exact hk)) | (rw [if_neg (show ¬ mem 36 0 j = 0 by omega)] at hk; first | (rw [if_pos (by omega)] at hk; exact hk) | (rw [if_neg (by omega)] at hk; exact hk))
              · refine m_iload rfl rfl rfl ?_
                refine m_if_le (tgt := 96) rfl rfl rfl (by omega) (fun c79 => ?_) (fun c79 => ?_)
                · refine m_iinc rfl rfl rfl (Nat.le_of_ble_eq_true rfl) rfl ?_
                  refine m_goto (tgt := 37) rfl rfl rfl ?_
                  refine zk_fg 4 ?_
                  first | (exfalso; omega) | (rw [if_pos (show mem 36 0 j = 0 by omega)] at hk; first | (rw [if_pos (by omega)] at hk; exact hk) | (rw [if_neg (by omega)] at hk; exact hk)) | (rw [if_neg (show ¬ mem 36 0 j = 0 by omega)] at hk; first | (rw [if_pos (by omega)] at hk; exact hk) | (rw [if_neg (by omega)] at hk; exact hk))
                · exfalso; omega
      · refine m_iload_n rfl rfl rfl ?_
        refine m_aload_n rfl rfl rfl ?_
        refine m_gix (k := 2) (x := mem 7 _ 2) rfl rfl (Nat.le_of_ble_eq_true rfl) rfl rfl (by first | decide | assumption | (simp only [cnt]; omega)) rfl ?_
        refine m_icmp_ge (tgt := 102) rfl rfl rfl (by omega) (by omega) (fun c42 => ?_) (fun c42 => ?_)
        · refine m_iload_n rfl rfl rfl ?_
          refine m_iret rfl rfl rfl (Nat.le_of_ble_eq_true rfl) (Nat.le_of_ble_eq_true rfl) ?_
          unfold moMU moU0
          first | (rw [if_pos c10]; exact ⟨rfl, rfl⟩) | (rw [if_neg (by rw [c10]; decide)]; exact ⟨rfl, rfl⟩)
        · exfalso; omega
end
section
/-! the reference: a unit -/
def moV1 (m : zkM) : zkM := if m 7 0 20 = 0 then mset (mset (mset m 7 0 20 1) 7 0 21 (m 7 0 11)) 7 0 22 0 else m
def moV2 (m : zkM) : zkM := mset (mset (moV1 m) 7 0 19 (m 7 0 19 - 1)) 7 0 22 (moV1 m 7 0 22 + 1)
def moV3 (m : zkM) (r : Nat) : zkM := mset (moV2 m) 41 0 r (m 41 0 r - 1)
def moServe (m : zkM) (r : Nat) : zkM := mset (moV3 m r) 42 0 r (if m 41 0 r - 1 = 0 then m 7 0 11 + 1 else -1)
set_option maxRecDepth 10000 in
theorem c_morunServer {l : Launch} {G : zkG} {mem : zkM} (hl : l.stackTraces = false) (hQ : moQ0 mem) (hc : 0 ≤ mem 7 0 11 ∧ mem 7 0 11 ≤ 400) (hb : inR (mem 7 0 20)) (hq : 0 ≤ moFq mem (mem 7 0 11 + 1)) (hlf : ∀ r, r < 12 → 0 ≤ mem 41 0 r ∧ mem 41 0 r ≤ 100) : zkCt l G i_Mo_runServer 1 0 0 [vr 7 0] mem (zkR0 (moServe mem (moFq mem (mem 7 0 11 + 1)).toNat)) := by
  refine zkCt_of hl ok_Mo_runServer (by decide +kernel) rfl rfl (List.forall_mem_cons.mpr ⟨rfl, fun _ h => nomatch h⟩) (Nat.le_of_ble_eq_true rfl) ?_
  have hfq := moFq_b mem (mem 7 0 11 + 1)
  have hq9 := hQ.1
  have hlf2 := hlf (moFq mem (mem 7 0 11 + 1)).toNat (by omega)
  refine m_aload_n rfl rfl rfl ?_
  refine m_gix (k := 20) (x := mem 7 _ 20) rfl rfl (Nat.le_of_ble_eq_true rfl) rfl rfl (by first | decide | assumption | (simp only [cnt]; omega)) rfl ?_
  refine m_if_ne (tgt := 25) rfl rfl rfl (by omega) (fun c4 => ?_) (fun c4 => ?_)
  · refine m_aload_n rfl rfl rfl ?_
    refine m_dup rfl rfl rfl ?_
    refine m_gix (k := 19) (x := mem 7 _ 19) rfl rfl (Nat.le_of_ble_eq_true rfl) rfl rfl (by first | decide | assumption | (simp only [cnt]; omega)) rfl ?_
    refine m_iconst rfl rfl ?_
    refine m_isub rfl rfl ?_
    refine m_pi (k := 19) rfl rfl (Nat.le_of_ble_eq_true rfl) rfl rfl rfl rfl (by first | decide | assumption | (simp only [cnt]; omega)) ?_
    refine m_aload_n rfl rfl rfl ?_
    refine m_dup rfl rfl rfl ?_
    refine m_gix (k := 22) (x := mem 7 _ 22) rfl rfl (Nat.le_of_ble_eq_true rfl) rfl rfl (by first | decide | assumption | (simp only [cnt]; omega)) rfl ?_
    refine m_iconst rfl rfl ?_
    refine m_iadd rfl rfl ?_
    refine m_pi (k := 22) rfl rfl (Nat.le_of_ble_eq_true rfl) rfl rfl rfl rfl (by first | decide | assumption | (simp only [cnt]; omega)) ?_
    refine m_aload_n rfl rfl rfl ?_
    refine m_aload_n rfl rfl rfl ?_
    refine m_gix (k := 11) (x := mem 7 _ 11) rfl rfl (Nat.le_of_ble_eq_true rfl) rfl rfl (by first | decide | assumption | (simp only [cnt]; omega)) rfl ?_
    refine m_iconst rfl rfl ?_
    refine m_iadd rfl rfl ?_
    refine m_cv1 rfl rfl lk_7_174 (show zkCt l G i_Mo_firstRequest _ 0 0 _ _ (zkR1 (vi (moFq mem (mem 7 0 11 + 1))) _) from c_firstRequest hl (show moQ0 _ from hQ) (by omega)) rfl (by first | decide | assumption | (simp only [cnt]; omega)) (Nat.le_of_ble_eq_true rfl) rfl rfl (Nat.le_of_ble_eq_true rfl) (Nat.le_of_ble_eq_true rfl) (Nat.le_of_ble_eq_true rfl) (Nat.le_of_ble_eq_true rfl) (Nat.le_of_ble_eq_true rfl) ?_
    refine m_istore_n rfl rfl (Nat.le_of_ble_eq_true rfl) rfl ?_
    refine m_aload_n rfl rfl rfl ?_
    refine m_gr (k := 23) rfl rfl (Nat.le_of_ble_eq_true rfl) rfl rfl (by first | decide | assumption | (simp only [cnt]; omega)) ?_
    refine m_iload_n rfl rfl rfl ?_
    refine m_dup2 rfl rfl rfl rfl ?_
    refine m_ialx (n := (moFq mem (mem 7 0 11 + 1)).toNat) (y := mem 41 _ ((moFq mem (mem 7 0 11 + 1)).toNat)) rfl rfl (Nat.le_of_ble_eq_true rfl) rfl (by first | decide | assumption | (simp only [cnt]; omega)) (by omega) (by simp only [aln]; omega) rfl ?_
    refine m_iconst rfl rfl ?_
    refine m_isub rfl rfl ?_
    refine m_iasn (n := (moFq mem (mem 7 0 11 + 1)).toNat) rfl rfl (Nat.le_of_ble_eq_true rfl) rfl (by first | decide | assumption | (simp only [cnt]; omega)) (by omega) (by simp only [aln]; omega) ?_
    refine m_aload_n rfl rfl rfl ?_
    refine m_gr (k := 24) rfl rfl (Nat.le_of_ble_eq_true rfl) rfl rfl (by first | decide | assumption | (simp only [cnt]; omega)) ?_
    refine m_iload_n rfl rfl rfl ?_
    refine m_aload_n rfl rfl rfl ?_
    refine m_gr (k := 23) rfl rfl (Nat.le_of_ble_eq_true rfl) rfl rfl (by first | decide | assumption | (simp only [cnt]; omega)) ?_
    refine m_iload_n rfl rfl rfl ?_
    refine m_ialn (n := (moFq mem (mem 7 0 11 + 1)).toNat) rfl rfl (Nat.le_of_ble_eq_true rfl) rfl (by first | decide | assumption | (simp only [cnt]; omega)) (by omega) (by simp only [aln]; omega) ?_
    rw [ms_s]
    refine m_if_ne (tgt := 89) rfl rfl rfl (by omega) (fun c77 => ?_) (fun c77 => ?_)
    · refine m_iconst rfl rfl ?_
      refine m_iasn (n := (moFq mem (mem 7 0 11 + 1)).toNat) rfl rfl (Nat.le_of_ble_eq_true rfl) rfl (by first | decide | assumption | (simp only [cnt]; omega)) (by omega) (by simp only [aln]; omega) ?_
      refine m_vret rfl rfl rfl (Nat.le_of_ble_eq_true rfl) (Nat.le_of_ble_eq_true rfl) ?_
      refine ⟨rfl, ?_⟩
      unfold moServe moV3 moV2 moV1
      first | (rw [if_pos (show mem 7 0 20 = 0 by omega)]; first | (rw [if_pos (by omega)] <;> rfl) | (rw [if_neg (by omega)] <;> rfl)) | (rw [if_neg (show ¬ mem 7 0 20 = 0 by omega)]; first | (rw [if_pos (by omega)] <;> rfl) | (rw [if_neg (by omega)] <;> rfl))
    · refine m_aload_n rfl rfl rfl ?_
      refine m_gix (k := 11) (x := mem 7 _ 11) rfl rfl (Nat.le_of_ble_eq_true rfl) rfl rfl (by first | decide | assumption | (simp only [cnt]; omega)) rfl ?_
      refine m_iconst rfl rfl ?_
      refine m_iadd rfl rfl ?_
      refine m_goto (tgt := 90) rfl rfl rfl ?_
      refine m_iasn (n := (moFq mem (mem 7 0 11 + 1)).toNat) rfl rfl (Nat.le_of_ble_eq_true rfl) rfl (by first | decide | assumption | (simp only [cnt]; omega)) (by omega) (by simp only [aln]; omega) ?_
      refine m_vret rfl rfl rfl (Nat.le_of_ble_eq_true rfl) (Nat.le_of_ble_eq_true rfl) ?_
      refine ⟨rfl, ?_⟩
      unfold moServe moV3 moV2 moV1
      first | (rw [if_pos (show mem 7 0 20 = 0 by omega)]; first | (rw [if_pos (by omega)] <;> rfl) | (rw [if_neg (by omega)] <;> rfl)) | (rw [if_neg (show ¬ mem 7 0 20 = 0 by omega)]; first | (rw [if_pos (by omega)] <;> rfl) | (rw [if_neg (by omega)] <;> rfl))
  · refine m_aload_n rfl rfl rfl ?_
    refine m_iconst rfl rfl ?_
    refine m_pi (k := 20) rfl rfl (Nat.le_of_ble_eq_true rfl) rfl rfl rfl rfl (by first | decide | assumption | (simp only [cnt]; omega)) ?_
    refine m_aload_n rfl rfl rfl ?_
    refine m_aload_n rfl rfl rfl ?_
    refine m_gix (k := 11) (x := mem 7 _ 11) rfl rfl (Nat.le_of_ble_eq_true rfl) rfl rfl (by first | decide | assumption | (simp only [cnt]; omega)) rfl ?_
    refine m_pi (k := 21) rfl rfl (Nat.le_of_ble_eq_true rfl) rfl rfl rfl rfl (by first | decide | assumption | (simp only [cnt]; omega)) ?_
    refine m_aload_n rfl rfl rfl ?_
    refine m_iconst rfl rfl ?_
    refine m_pi (k := 22) rfl rfl (Nat.le_of_ble_eq_true rfl) rfl rfl rfl rfl (by first | decide | assumption | (simp only [cnt]; omega)) ?_
    refine m_aload_n rfl rfl rfl ?_
    refine m_dup rfl rfl rfl ?_
    refine m_gix (k := 19) (x := mem 7 _ 19) rfl rfl (Nat.le_of_ble_eq_true rfl) rfl rfl (by first | decide | assumption | (simp only [cnt]; omega)) rfl ?_
    refine m_iconst rfl rfl ?_
    refine m_isub rfl rfl ?_
    refine m_pi (k := 19) rfl rfl (Nat.le_of_ble_eq_true rfl) rfl rfl rfl rfl (by first | decide | assumption | (simp only [cnt]; omega)) ?_
    refine m_aload_n rfl rfl rfl ?_
    refine m_dup rfl rfl rfl ?_
    refine m_gix (k := 22) (x := 0) rfl rfl (Nat.le_of_ble_eq_true rfl) rfl rfl (by first | decide | assumption | (simp only [cnt]; omega)) rfl ?_
    refine m_iconst rfl rfl ?_
    refine m_iadd rfl rfl ?_
    refine m_pi (k := 22) rfl rfl (Nat.le_of_ble_eq_true rfl) rfl rfl rfl rfl (by first | decide | assumption | (simp only [cnt]; omega)) ?_
    refine m_aload_n rfl rfl rfl ?_
    refine m_aload_n rfl rfl rfl ?_
    refine m_gix (k := 11) (x := mem 7 _ 11) rfl rfl (Nat.le_of_ble_eq_true rfl) rfl rfl (by first | decide | assumption | (simp only [cnt]; omega)) rfl ?_
    refine m_iconst rfl rfl ?_
    refine m_iadd rfl rfl ?_
    refine m_cv1 rfl rfl lk_7_174 (show zkCt l G i_Mo_firstRequest _ 0 0 _ _ (zkR1 (vi (moFq mem (mem 7 0 11 + 1))) _) from c_firstRequest hl (show moQ0 _ from hQ) (by omega)) rfl (by first | decide | assumption | (simp only [cnt]; omega)) (Nat.le_of_ble_eq_true rfl) rfl rfl (Nat.le_of_ble_eq_true rfl) (Nat.le_of_ble_eq_true rfl) (Nat.le_of_ble_eq_true rfl) (Nat.le_of_ble_eq_true rfl) (Nat.le_of_ble_eq_true rfl) ?_
    refine m_istore_n rfl rfl (Nat.le_of_ble_eq_true rfl) rfl ?_
    refine m_aload_n rfl rfl rfl ?_
    refine m_gr (k := 23) rfl rfl (Nat.le_of_ble_eq_true rfl) rfl rfl (by first | decide | assumption | (simp only [cnt]; omega)) ?_
    refine m_iload_n rfl rfl rfl ?_
    refine m_dup2 rfl rfl rfl rfl ?_
    refine m_ialx (n := (moFq mem (mem 7 0 11 + 1)).toNat) (y := mem 41 _ ((moFq mem (mem 7 0 11 + 1)).toNat)) rfl rfl (Nat.le_of_ble_eq_true rfl) rfl (by first | decide | assumption | (simp only [cnt]; omega)) (by omega) (by simp only [aln]; omega) rfl ?_
    refine m_iconst rfl rfl ?_
    refine m_isub rfl rfl ?_
    refine m_iasn (n := (moFq mem (mem 7 0 11 + 1)).toNat) rfl rfl (Nat.le_of_ble_eq_true rfl) rfl (by first | decide | assumption | (simp only [cnt]; omega)) (by omega) (by simp only [aln]; omega) ?_
    refine m_aload_n rfl rfl rfl ?_
    refine m_gr (k := 24) rfl rfl (Nat.le_of_ble_eq_true rfl) rfl rfl (by first | decide | assumption | (simp only [cnt]; omega)) ?_
    refine m_iload_n rfl rfl rfl ?_
    refine m_aload_n rfl rfl rfl ?_
    refine m_gr (k := 23) rfl rfl (Nat.le_of_ble_eq_true rfl) rfl rfl (by first | decide | assumption | (simp only [cnt]; omega)) ?_
    refine m_iload_n rfl rfl rfl ?_
    refine m_ialn (n := (moFq mem (mem 7 0 11 + 1)).toNat) rfl rfl (Nat.le_of_ble_eq_true rfl) rfl (by first | decide | assumption | (simp only [cnt]; omega)) (by omega) (by simp only [aln]; omega) ?_
    rw [ms_s]
    refine m_if_ne (tgt := 89) rfl rfl rfl (by omega) (fun c77 => ?_) (fun c77 => ?_)
    · refine m_iconst rfl rfl ?_
      refine m_iasn (n := (moFq mem (mem 7 0 11 + 1)).toNat) rfl rfl (Nat.le_of_ble_eq_true rfl) rfl (by first | decide | assumption | (simp only [cnt]; omega)) (by omega) (by simp only [aln]; omega) ?_
      refine m_vret rfl rfl rfl (Nat.le_of_ble_eq_true rfl) (Nat.le_of_ble_eq_true rfl) ?_
      refine ⟨rfl, ?_⟩
      unfold moServe moV3 moV2 moV1
      first | (rw [if_pos (show mem 7 0 20 = 0 by omega)]; first | (rw [if_pos (by omega)] <;> rfl) | (rw [if_neg (by omega)] <;> rfl)) | (rw [if_neg (show ¬ mem 7 0 20 = 0 by omega)]; first | (rw [if_pos (by omega)] <;> rfl) | (rw [if_neg (by omega)] <;> rfl))
    · refine m_aload_n rfl rfl rfl ?_
      refine m_gix (k := 11) (x := mem 7 _ 11) rfl rfl (Nat.le_of_ble_eq_true rfl) rfl rfl (by first | decide | assumption | (simp only [cnt]; omega)) rfl ?_
      refine m_iconst rfl rfl ?_
      refine m_iadd rfl rfl ?_
      refine m_goto (tgt := 90) rfl rfl rfl ?_
      refine m_iasn (n := (moFq mem (mem 7 0 11 + 1)).toNat) rfl rfl (Nat.le_of_ble_eq_true rfl) rfl (by first | decide | assumption | (simp only [cnt]; omega)) (by omega) (by simp only [aln]; omega) ?_
      refine m_vret rfl rfl rfl (Nat.le_of_ble_eq_true rfl) (Nat.le_of_ble_eq_true rfl) ?_
      refine ⟨rfl, ?_⟩
      unfold moServe moV3 moV2 moV1
      first | (rw [if_pos (show mem 7 0 20 = 0 by omega)]; first | (rw [if_pos (by omega)] <;> rfl) | (rw [if_neg (by omega)] <;> rfl)) | (rw [if_neg (show ¬ mem 7 0 20 = 0 by omega)]; first | (rw [if_pos (by omega)] <;> rfl) | (rw [if_neg (by omega)] <;> rfl))

def moJ1 (m : zkM) (t : Nat) : zkM := mset m 37 0 t (m 37 0 t + 1)
def moRsp (m : zkM) (t : Nat) : Int := m 7 0 11 + 1 - m 35 0 (401 * t)
def moJ2 (m : zkM) (t : Nat) : zkM := mset (moJ1 m t) 39 0 (6 * t) (m 39 0 (6 * t) + 1)
def moJ3 (m : zkM) (t : Nat) : zkM := mset (moJ2 m t) 39 0 (6 * t + 5) (max (moJ2 m t 39 0 (6 * t + 5)) (moRsp m t))
def moJ4 (m : zkM) (t : Nat) : zkM := mset (moJ3 m t) 40 0 t (m 40 0 t + moRsp m t)
def moRJ (m : zkM) (t : Nat) : Int × zkM := if m 37 0 t + 1 < moDe m t then (0, moJ1 m t) else (1, moTJ (moJ4 m t) t 0)
set_option maxRecDepth 10000 in
theorem c_morunJob {l : Launch} {G : zkG} {mem : zkM} (hl : l.stackTraces = false) {x : Int} {t : Nat} (hA : moA mem) (hx : x = t) (ht : t < 5) (hc : 0 ≤ mem 7 0 11 ∧ mem 7 0 11 ≤ 400) (hp : 0 ≤ mem 37 0 t ∧ mem 37 0 t ≤ 100000) (h0 : 0 ≤ mem 35 0 (401 * t) ∧ mem 35 0 (401 * t) ≤ 400) (hr : inR (mem 39 0 (6 * t + 5))) (hj : 0 < mem 36 0 t ∧ mem 36 0 t ≤ 401) : zkCt l G i_Mo_runJob 2 0 0 [vr 7 0, vi x] mem (zkR1 (vi (moRJ mem t).1) (moRJ mem t).2) := by
  refine zkCt_of hl ok_Mo_runJob (by decide +kernel) rfl rfl (List.forall_mem_cons.mpr ⟨rfl, (List.forall_mem_cons.mpr ⟨rfl, fun _ h => nomatch h⟩)⟩) (Nat.le_of_ble_eq_true rfl) ?_
  subst hx
  have hde := moDe_b hA ht
  refine m_aload_n rfl rfl rfl ?_
  refine m_gr (k := 15) rfl rfl (Nat.le_of_ble_eq_true rfl) rfl rfl (by first | decide | assumption | (simp only [cnt]; omega)) ?_
  refine m_iload_n rfl rfl rfl ?_
  refine m_dup2 rfl rfl rfl rfl ?_
  refine m_ialx (n := t) (y := mem 37 _ (t)) rfl rfl (Nat.le_of_ble_eq_true rfl) rfl (by first | decide | assumption | (simp only [cnt]; omega)) (by omega) (by simp only [aln]; omega) rfl ?_
  refine m_iconst rfl rfl ?_
  refine m_iadd rfl rfl ?_
  refine m_iasn (n := t) rfl rfl (Nat.le_of_ble_eq_true rfl) rfl (by first | decide | assumption | (simp only [cnt]; omega)) (by omega) (by simp only [aln]; omega) ?_
  refine m_aload_n rfl rfl rfl ?_
  refine m_gr (k := 15) rfl rfl (Nat.le_of_ble_eq_true rfl) rfl rfl (by first | decide | assumption | (simp only [cnt]; omega)) ?_
  refine m_iload_n rfl rfl rfl ?_
  refine m_ialn (n := t) rfl rfl (Nat.le_of_ble_eq_true rfl) rfl (by first | decide | assumption | (simp only [cnt]; omega)) (by omega) (by simp only [aln]; omega) ?_
  rw [ms_s]
  refine m_aload_n rfl rfl rfl ?_
  refine m_iload_n rfl rfl rfl ?_
  refine m_cv1 rfl rfl lk_7_131 (show zkCt l G i_Mo_demandOf _ 0 0 _ _ (zkR1 (vi (moDe mem t)) _) from c_demandOf hl (show moA _ from hA) (i := t) rfl (by omega)) rfl (by first | decide | assumption | (simp only [cnt]; omega)) (Nat.le_of_ble_eq_true rfl) rfl rfl (Nat.le_of_ble_eq_true rfl) (Nat.le_of_ble_eq_true rfl) (Nat.le_of_ble_eq_true rfl) (Nat.le_of_ble_eq_true rfl) (Nat.le_of_ble_eq_true rfl) ?_
  refine m_icmp_ge (tgt := 26) rfl rfl rfl (by omega) (by omega) (fun c21 => ?_) (fun c21 => ?_)
  · refine m_aload_n rfl rfl rfl ?_
    refine m_gix (k := 11) (x := mem 7 _ 11) rfl rfl (Nat.le_of_ble_eq_true rfl) rfl rfl (by first | decide | assumption | (simp only [cnt]; omega)) rfl ?_
    refine m_iconst rfl rfl ?_
    refine m_iadd rfl rfl ?_
    refine m_aload_n rfl rfl rfl ?_
    refine m_gr (k := 13) rfl rfl (Nat.le_of_ble_eq_true rfl) rfl rfl (by first | decide | assumption | (simp only [cnt]; omega)) ?_
    refine m_sipush rfl rfl (by decide) ?_
    refine m_iload_n rfl rfl rfl ?_
    refine m_imul rfl rfl ?_
    refine m_ialx (n := 401 * t) (y := mem 35 _ (401 * t)) rfl rfl (Nat.le_of_ble_eq_true rfl) rfl (by first | decide | assumption | (simp only [cnt]; omega)) (by omega) (by simp only [aln]; omega) rfl ?_
    refine m_isub rfl rfl ?_
    refine m_istore_n rfl rfl (Nat.le_of_ble_eq_true rfl) rfl ?_
    refine m_aload_n rfl rfl rfl ?_
    refine m_gr (k := 17) rfl rfl (Nat.le_of_ble_eq_true rfl) rfl rfl (by first | decide | assumption | (simp only [cnt]; omega)) ?_
    refine m_bipush rfl rfl (by decide) ?_
    refine m_iload_n rfl rfl rfl ?_
    refine m_imul rfl rfl ?_
    refine m_dup2 rfl rfl rfl rfl ?_
    refine m_ialx (n := 6 * t) (y := mem 39 _ (6 * t)) rfl rfl (Nat.le_of_ble_eq_true rfl) rfl (by first | decide | assumption | (simp only [cnt]; omega)) (by omega) (by simp only [aln]; omega) rfl ?_
    refine m_iconst rfl rfl ?_
    refine m_iadd rfl rfl ?_
    refine m_iasn (n := 6 * t) rfl rfl (Nat.le_of_ble_eq_true rfl) rfl (by first | decide | assumption | (simp only [cnt]; omega)) (by omega) (by simp only [aln]; omega) ?_
    refine m_aload_n rfl rfl rfl ?_
    refine m_gr (k := 17) rfl rfl (Nat.le_of_ble_eq_true rfl) rfl rfl (by first | decide | assumption | (simp only [cnt]; omega)) ?_
    refine m_bipush rfl rfl (by decide) ?_
    refine m_iload_n rfl rfl rfl ?_
    refine m_imul rfl rfl ?_
    refine m_iconst rfl rfl ?_
    refine m_iadd rfl rfl ?_
    refine m_aload_n rfl rfl rfl ?_
    refine m_gr (k := 17) rfl rfl (Nat.le_of_ble_eq_true rfl) rfl rfl (by first | decide | assumption | (simp only [cnt]; omega)) ?_
    refine m_bipush rfl rfl (by decide) ?_
    refine m_iload_n rfl rfl rfl ?_
    refine m_imul rfl rfl ?_
    refine m_iconst rfl rfl ?_
    refine m_iadd rfl rfl ?_
    refine m_ialn (n := 6 * t + 5) rfl rfl (Nat.le_of_ble_eq_true rfl) rfl (by first | decide | assumption | (simp only [cnt]; omega)) (by omega) (by simp only [aln]; omega) ?_
    refine m_iload_n rfl rfl rfl ?_
    refine m_max rfl rfl (by decide +kernel) (by rw [ms_k (by omega)]; exact hr) (by omega) (Nat.le_of_ble_eq_true rfl) (Nat.le_of_ble_eq_true rfl) (Nat.le_of_ble_eq_true rfl) (Nat.le_of_ble_eq_true rfl) ?_
    refine m_iasn (n := 6 * t + 5) rfl rfl (Nat.le_of_ble_eq_true rfl) rfl (by first | decide | assumption | (simp only [cnt]; omega)) (by omega) (by simp only [aln]; omega) ?_
    refine m_aload_n rfl rfl rfl ?_
    refine m_gr (k := 18) rfl rfl (Nat.le_of_ble_eq_true rfl) rfl rfl (by first | decide | assumption | (simp only [cnt]; omega)) ?_
    refine m_iload_n rfl rfl rfl ?_
    refine m_dup2 rfl rfl rfl rfl ?_
    refine m_ialx (n := t) (y := mem 40 _ (t)) rfl rfl (Nat.le_of_ble_eq_true rfl) rfl (by first | decide | assumption | (simp only [cnt]; omega)) (by omega) (by simp only [aln]; omega) rfl ?_
    refine m_iload_n rfl rfl rfl ?_
    refine m_iadd rfl rfl ?_
    refine m_iasn (n := t) rfl rfl (Nat.le_of_ble_eq_true rfl) rfl (by first | decide | assumption | (simp only [cnt]; omega)) (by omega) (by simp only [aln]; omega) ?_
    refine m_aload_n rfl rfl rfl ?_
    refine m_iload_n rfl rfl rfl ?_
    refine m_iconst rfl rfl ?_
    refine m_cv0 rfl rfl lk_7_163 (c_motakeJob hl (t := t) (ix := 0) rfl rfl (by omega) (show ((0 : Nat) : Int) < mem 36 0 t ∧ mem 36 0 t ≤ 401 by omega)) rfl (by first | decide | assumption | (simp only [cnt]; omega)) (Nat.le_of_ble_eq_true rfl) rfl rfl (Nat.le_of_ble_eq_true rfl) (Nat.le_of_ble_eq_true rfl) (Nat.le_of_ble_eq_true rfl) (Nat.le_of_ble_eq_true rfl) (Nat.le_of_ble_eq_true rfl) ?_
    refine m_iconst rfl rfl ?_
    refine m_iret rfl rfl rfl (Nat.le_of_ble_eq_true rfl) (Nat.le_of_ble_eq_true rfl) ?_
    unfold moRJ
    rw [if_neg (by omega)]
    exact ⟨rfl, rfl⟩
  · refine m_iconst rfl rfl ?_
    refine m_iret rfl rfl rfl (Nat.le_of_ble_eq_true rfl) (Nat.le_of_ble_eq_true rfl) ?_
    unfold moRJ
    rw [if_pos (by omega)]
    exact ⟨rfl, rfl⟩

def moBf2 (m : zkM) : Int := if m 7 0 11 = 0 then -1 else m 34 0 (m 7 0 11 - 1).toNat
def moPre (m : zkM) (now : Int) : zkM := if (0 ≤ moBf2 m ∧ moBf2 m ≤ m 7 0 2 - 1) ∧ moBf2 m ≠ now ∧ 0 < m 37 0 (moBf2 m).toNat then mset m 39 0 (6 * (moBf2 m).toNat + 4) (m 39 0 (6 * (moBf2 m).toNat + 4) + 1) else m
set_option maxRecDepth 10000 in
theorem c_mocountPre {l : Launch} {G : zkG} {mem : zkM} (hl : l.stackTraces = false) {x : Int} (hm : 0 ≤ mem 7 0 2 ∧ mem 7 0 2 ≤ 5) (hx : inR x) (hc : 0 ≤ mem 7 0 11 ∧ mem 7 0 11 ≤ 400) (hr : ∀ k, k < 400 → inR (mem 34 0 k)) (hp : ∀ t, t < 5 → inR (mem 37 0 t)) : zkCt l G i_Mo_countPreemption 2 0 0 [vr 7 0, vi x] mem (zkR0 (moPre mem x)) := by
  refine zkCt_of hl ok_Mo_countPreemption (by decide +kernel) rfl rfl (List.forall_mem_cons.mpr ⟨rfl, (List.forall_mem_cons.mpr ⟨rfl, fun _ h => nomatch h⟩)⟩) (Nat.le_of_ble_eq_true rfl) ?_
  refine m_aload_n rfl rfl rfl ?_
  refine m_gix (k := 11) (x := mem 7 _ 11) rfl rfl (Nat.le_of_ble_eq_true rfl) rfl rfl (by first | decide | assumption | (simp only [cnt]; omega)) rfl ?_
  refine m_if_ne (tgt := 11) rfl rfl rfl (by omega) (fun c4 => ?_) (fun c4 => ?_)
  · have e9 : moBf2 mem = mem 34 0 (mem 7 0 11 - 1).toNat := if_neg c4
    have e8 := hr (mem 7 0 11 - 1).toNat (by omega)
    refine m_aload_n rfl rfl rfl ?_
    refine m_gr (k := 12) rfl rfl (Nat.le_of_ble_eq_true rfl) rfl rfl (by first | decide | assumption | (simp only [cnt]; omega)) ?_
    refine m_aload_n rfl rfl rfl ?_
    refine m_gix (k := 11) (x := mem 7 _ 11) rfl rfl (Nat.le_of_ble_eq_true rfl) rfl rfl (by first | decide | assumption | (simp only [cnt]; omega)) rfl ?_
    refine m_iconst rfl rfl ?_
    refine m_isub rfl rfl ?_
    refine m_ialx (n := (mem 7 0 11 - 1).toNat) (y := mem 34 _ ((mem 7 0 11 - 1).toNat)) rfl rfl (Nat.le_of_ble_eq_true rfl) rfl (by first | decide | assumption | (simp only [cnt]; omega)) (by omega) (by simp only [aln]; omega) rfl ?_
    refine m_istore_n rfl rfl (Nat.le_of_ble_eq_true rfl) rfl ?_
    refine m_aload_n rfl rfl rfl ?_
    refine m_iload_n rfl rfl rfl ?_
    refine m_cv1 rfl rfl lk_7_121 (c_isTask hl (by omega) (by omega)) rfl (by first | decide | assumption | (simp only [cnt]; omega)) (Nat.le_of_ble_eq_true rfl) rfl rfl (Nat.le_of_ble_eq_true rfl) (Nat.le_of_ble_eq_true rfl) (Nat.le_of_ble_eq_true rfl) (Nat.le_of_ble_eq_true rfl) (Nat.le_of_ble_eq_true rfl) ?_
    refine m_if_eq_d (tgt := 60) rfl rfl rfl (fun c28 => ?_) (fun c28 => ?_)
    · refine m_vret rfl rfl rfl (Nat.le_of_ble_eq_true rfl) (Nat.le_of_ble_eq_true rfl) ?_
      refine ⟨rfl, ?_⟩
      unfold moPre
      first | (exfalso; omega) | (rw [if_neg (by omega)] <;> rfl) | (rw [if_pos (by omega)] <;> rfl)
    · have e7 := hp (moBf2 mem).toNat (by omega)
      refine m_iload_n rfl rfl rfl ?_
      refine m_iload_n rfl rfl rfl ?_
      refine m_icmp_eq (tgt := 60) rfl rfl rfl (by omega) (by omega) (fun c33 => ?_) (fun c33 => ?_)
      · refine m_vret rfl rfl rfl (Nat.le_of_ble_eq_true rfl) (Nat.le_of_ble_eq_true rfl) ?_
        refine ⟨rfl, ?_⟩
        unfold moPre
        first | (exfalso; omega) | (rw [if_neg (by omega)] <;> rfl) | (rw [if_pos (by omega)] <;> rfl)
      · refine m_aload_n rfl rfl rfl ?_
        refine m_gr (k := 15) rfl rfl (Nat.le_of_ble_eq_true rfl) rfl rfl (by first | decide | assumption | (simp only [cnt]; omega)) ?_
        refine m_iload_n rfl rfl rfl ?_
        refine m_ialx (n := (moBf2 mem).toNat) (y := mem 37 _ ((moBf2 mem).toNat)) rfl rfl (Nat.le_of_ble_eq_true rfl) rfl (by first | decide | assumption | (simp only [cnt]; omega)) (by omega) (by simp only [aln]; omega) rfl ?_
        refine m_if_le (tgt := 60) rfl rfl rfl (by omega) (fun c42 => ?_) (fun c42 => ?_)
        · refine m_vret rfl rfl rfl (Nat.le_of_ble_eq_true rfl) (Nat.le_of_ble_eq_true rfl) ?_
          refine ⟨rfl, ?_⟩
          unfold moPre
          first | (exfalso; omega) | (rw [if_neg (by omega)] <;> rfl) | (rw [if_pos (by omega)] <;> rfl)
        · refine m_aload_n rfl rfl rfl ?_
          refine m_gr (k := 17) rfl rfl (Nat.le_of_ble_eq_true rfl) rfl rfl (by first | decide | assumption | (simp only [cnt]; omega)) ?_
          refine m_bipush rfl rfl (by decide) ?_
          refine m_iload_n rfl rfl rfl ?_
          refine m_imul rfl rfl ?_
          refine m_iconst rfl rfl ?_
          refine m_iadd rfl rfl ?_
          refine m_dup2 rfl rfl rfl rfl ?_
          refine m_ialx (n := 6 * (moBf2 mem).toNat + 4) (y := mem 39 _ (6 * (moBf2 mem).toNat + 4)) rfl rfl (Nat.le_of_ble_eq_true rfl) rfl (by first | decide | assumption | (simp only [cnt]; omega)) (by omega) (by simp only [aln]; omega) rfl ?_
          refine m_iconst rfl rfl ?_
          refine m_iadd rfl rfl ?_
          refine m_iasn (n := 6 * (moBf2 mem).toNat + 4) rfl rfl (Nat.le_of_ble_eq_true rfl) rfl (by first | decide | assumption | (simp only [cnt]; omega)) (by omega) (by simp only [aln]; omega) ?_
          refine m_vret rfl rfl rfl (Nat.le_of_ble_eq_true rfl) (Nat.le_of_ble_eq_true rfl) ?_
          refine ⟨rfl, ?_⟩
          unfold moPre
          first | (exfalso; omega) | (rw [if_neg (by omega)] <;> rfl) | (rw [if_pos (by omega)] <;> rfl)
  · have e9 : moBf2 mem = -1 := if_pos c4
    refine m_iconst rfl rfl ?_
    refine m_goto (tgt := 22) rfl rfl rfl ?_
    refine m_istore_n rfl rfl (Nat.le_of_ble_eq_true rfl) rfl ?_
    refine m_aload_n rfl rfl rfl ?_
    refine m_iload_n rfl rfl rfl ?_
    refine m_cv1 rfl rfl lk_7_121 (c_isTask hl (by omega) (by omega)) rfl (by first | decide | assumption | (simp only [cnt]; omega)) (Nat.le_of_ble_eq_true rfl) rfl rfl (Nat.le_of_ble_eq_true rfl) (Nat.le_of_ble_eq_true rfl) (Nat.le_of_ble_eq_true rfl) (Nat.le_of_ble_eq_true rfl) (Nat.le_of_ble_eq_true rfl) ?_
    refine m_if_eq_d (tgt := 60) rfl rfl rfl (fun c28 => ?_) (fun c28 => ?_)
    · refine m_vret rfl rfl rfl (Nat.le_of_ble_eq_true rfl) (Nat.le_of_ble_eq_true rfl) ?_
      refine ⟨rfl, ?_⟩
      unfold moPre
      first | (exfalso; omega) | (rw [if_neg (by omega)] <;> rfl) | (rw [if_pos (by omega)] <;> rfl)
    · have e7 := hp (moBf2 mem).toNat (by omega)
      refine m_iload_n rfl rfl rfl ?_
      refine m_iload_n rfl rfl rfl ?_
      refine m_icmp_eq (tgt := 60) rfl rfl rfl (by omega) (by omega) (fun c33 => ?_) (fun c33 => ?_)
      · refine m_vret rfl rfl rfl (Nat.le_of_ble_eq_true rfl) (Nat.le_of_ble_eq_true rfl) ?_
        refine ⟨rfl, ?_⟩
        unfold moPre
        first | (exfalso; omega) | (rw [if_neg (by omega)] <;> rfl) | (rw [if_pos (by omega)] <;> rfl)
      · refine m_aload_n rfl rfl rfl ?_
        refine m_gr (k := 15) rfl rfl (Nat.le_of_ble_eq_true rfl) rfl rfl (by first | decide | assumption | (simp only [cnt]; omega)) ?_
        refine m_iload_n rfl rfl rfl ?_
        refine m_ialx (n := (moBf2 mem).toNat) (y := mem 37 _ ((moBf2 mem).toNat)) rfl rfl (Nat.le_of_ble_eq_true rfl) rfl (by first | decide | assumption | (simp only [cnt]; omega)) (by omega) (by simp only [aln]; omega) rfl ?_
        refine m_if_le (tgt := 60) rfl rfl rfl (by omega) (fun c42 => ?_) (fun c42 => ?_)
        · refine m_vret rfl rfl rfl (Nat.le_of_ble_eq_true rfl) (Nat.le_of_ble_eq_true rfl) ?_
          refine ⟨rfl, ?_⟩
          unfold moPre
          first | (exfalso; omega) | (rw [if_neg (by omega)] <;> rfl) | (rw [if_pos (by omega)] <;> rfl)
        · refine m_aload_n rfl rfl rfl ?_
          refine m_gr (k := 17) rfl rfl (Nat.le_of_ble_eq_true rfl) rfl rfl (by first | decide | assumption | (simp only [cnt]; omega)) ?_
          refine m_bipush rfl rfl (by decide) ?_
          refine m_iload_n rfl rfl rfl ?_
          refine m_imul rfl rfl ?_
          refine m_iconst rfl rfl ?_
          refine m_iadd rfl rfl ?_
          refine m_dup2 rfl rfl rfl rfl ?_
          refine m_ialx (n := 6 * (moBf2 mem).toNat + 4) (y := mem 39 _ (6 * (moBf2 mem).toNat + 4)) rfl rfl (Nat.le_of_ble_eq_true rfl) rfl (by first | decide | assumption | (simp only [cnt]; omega)) (by omega) (by simp only [aln]; omega) rfl ?_
          refine m_iconst rfl rfl ?_
          refine m_iadd rfl rfl ?_
          refine m_iasn (n := 6 * (moBf2 mem).toNat + 4) rfl rfl (Nat.le_of_ble_eq_true rfl) rfl (by first | decide | assumption | (simp only [cnt]; omega)) (by omega) (by simp only [aln]; omega) ?_
          refine m_vret rfl rfl rfl (Nat.le_of_ble_eq_true rfl) (Nat.le_of_ble_eq_true rfl) ?_
          refine ⟨rfl, ?_⟩
          unfold moPre
          first | (exfalso; omega) | (rw [if_neg (by omega)] <;> rfl) | (rw [if_pos (by omega)] <;> rfl)

def moEB (m : zkM) : zkM := if m 7 0 20 = 1 ∧ moRb m (m 7 0 11) = false then mset (mset (mset (mset m 7 0 20 0) 43 0 (2 * (m 7 0 26).toNat) (max (m 7 0 21 + m 7 0 8) (m 7 0 11))) 43 0 (2 * (m 7 0 26).toNat + 1) (m 7 0 22)) 7 0 26 (m 7 0 26 + 1) else m
set_option maxRecDepth 10000 in
theorem c_moendBusy {l : Launch} {G : zkG} {mem : zkM} (hl : l.stackTraces = false) (hQ : moQ0 mem) (hc : 0 ≤ mem 7 0 11 ∧ mem 7 0 11 ≤ 400) (hb : inR (mem 7 0 20)) (h6 : inR (mem 7 0 6)) (h19 : inR (mem 7 0 19)) (h21 : 0 ≤ mem 7 0 21 ∧ mem 7 0 21 ≤ 1000) (h8 : 0 ≤ mem 7 0 8 ∧ mem 7 0 8 ≤ 1000) (h26 : 0 ≤ mem 7 0 26 ∧ mem 7 0 26 ≤ 399) : zkCt l G i_Mo_endBusy 2 0 0 [vr 7 0] mem (zkR0 (moEB mem)) := by
  refine zkCt_of hl ok_Mo_endBusy (by decide +kernel) rfl rfl (List.forall_mem_cons.mpr ⟨rfl, fun _ h => nomatch h⟩) (Nat.le_of_ble_eq_true rfl) ?_
  refine m_aload_n rfl rfl rfl ?_
  refine m_gix (k := 20) (x := mem 7 _ 20) rfl rfl (Nat.le_of_ble_eq_true rfl) rfl rfl (by first | decide | assumption | (simp only [cnt]; omega)) rfl ?_
  refine m_iconst rfl rfl ?_
  refine m_icmp_ne (tgt := 78) rfl rfl rfl (by omega) (by omega) (fun c5 => ?_) (fun c5 => ?_)
  · refine m_vret rfl rfl rfl (Nat.le_of_ble_eq_true rfl) (Nat.le_of_ble_eq_true rfl) ?_
    refine ⟨rfl, ?_⟩
    unfold moEB
    first | (rw [if_neg (by omega)] <;> rfl) | (rw [if_neg (by rw [c16]; rintro ⟨-, h⟩; cases h)] <;> rfl) | (rw [if_pos ⟨by omega, c16⟩] <;> rfl)
  · refine m_aload_n rfl rfl rfl ?_
    refine m_aload_n rfl rfl rfl ?_
    refine m_gix (k := 11) (x := mem 7 _ 11) rfl rfl (Nat.le_of_ble_eq_true rfl) rfl rfl (by first | decide | assumption | (simp only [cnt]; omega)) rfl ?_
    refine m_cv1 rfl rfl lk_7_177 (c_moisReady hl hQ (by omega) (by omega) (by omega)) rfl (by first | decide | assumption | (simp only [cnt]; omega)) (Nat.le_of_ble_eq_true rfl) rfl rfl (Nat.le_of_ble_eq_true rfl) (Nat.le_of_ble_eq_true rfl) (Nat.le_of_ble_eq_true rfl) (Nat.le_of_ble_eq_true rfl) (Nat.le_of_ble_eq_true rfl) ?_
    refine m_if_ne_b (tgt := 78) rfl rfl rfl (fun c16 => ?_) (fun c16 => ?_)
    · refine m_vret rfl rfl rfl (Nat.le_of_ble_eq_true rfl) (Nat.le_of_ble_eq_true rfl) ?_
      refine ⟨rfl, ?_⟩
      unfold moEB
      first | (rw [if_neg (by omega)] <;> rfl) | (rw [if_neg (by rw [c16]; rintro ⟨-, h⟩; cases h)] <;> rfl) | (rw [if_pos ⟨by omega, c16⟩] <;> rfl)
    · refine m_aload_n rfl rfl rfl ?_
      refine m_iconst rfl rfl ?_
      refine m_pi (k := 20) rfl rfl (Nat.le_of_ble_eq_true rfl) rfl rfl rfl rfl (by first | decide | assumption | (simp only [cnt]; omega)) ?_
      refine m_aload_n rfl rfl rfl ?_
      refine m_gr (k := 25) rfl rfl (Nat.le_of_ble_eq_true rfl) rfl rfl (by first | decide | assumption | (simp only [cnt]; omega)) ?_
      refine m_iconst rfl rfl ?_
      refine m_aload_n rfl rfl rfl ?_
      refine m_gix (k := 26) (x := mem 7 _ 26) rfl rfl (Nat.le_of_ble_eq_true rfl) rfl rfl (by first | decide | assumption | (simp only [cnt]; omega)) rfl ?_
      refine m_imul rfl rfl ?_
      refine m_aload_n rfl rfl rfl ?_
      refine m_gix (k := 21) (x := mem 7 _ 21) rfl rfl (Nat.le_of_ble_eq_true rfl) rfl rfl (by first | decide | assumption | (simp only [cnt]; omega)) rfl ?_
      refine m_aload_n rfl rfl rfl ?_
      refine m_gix (k := 8) (x := mem 7 _ 8) rfl rfl (Nat.le_of_ble_eq_true rfl) rfl rfl (by first | decide | assumption | (simp only [cnt]; omega)) rfl ?_
      refine m_iadd rfl rfl ?_
      refine m_aload_n rfl rfl rfl ?_
      refine m_gix (k := 11) (x := mem 7 _ 11) rfl rfl (Nat.le_of_ble_eq_true rfl) rfl rfl (by first | decide | assumption | (simp only [cnt]; omega)) rfl ?_
      refine m_max rfl rfl (by decide +kernel) (by omega) (by omega) (Nat.le_of_ble_eq_true rfl) (Nat.le_of_ble_eq_true rfl) (Nat.le_of_ble_eq_true rfl) (Nat.le_of_ble_eq_true rfl) ?_
      refine m_iasn (n := 2 * (mem 7 0 26).toNat) rfl rfl (Nat.le_of_ble_eq_true rfl) rfl (by first | decide | assumption | (simp only [cnt]; omega)) (by omega) (by simp only [aln]; omega) ?_
      refine m_aload_n rfl rfl rfl ?_
      refine m_gr (k := 25) rfl rfl (Nat.le_of_ble_eq_true rfl) rfl rfl (by first | decide | assumption | (simp only [cnt]; omega)) ?_
      refine m_iconst rfl rfl ?_
      refine m_aload_n rfl rfl rfl ?_
      refine m_gix (k := 26) (x := mem 7 _ 26) rfl rfl (Nat.le_of_ble_eq_true rfl) rfl rfl (by first | decide | assumption | (simp only [cnt]; omega)) rfl ?_
      refine m_imul rfl rfl ?_
      refine m_iconst rfl rfl ?_
      refine m_iadd rfl rfl ?_
      refine m_aload_n rfl rfl rfl ?_
      refine m_gix (k := 22) (x := mem 7 _ 22) rfl rfl (Nat.le_of_ble_eq_true rfl) rfl rfl (by first | decide | assumption | (simp only [cnt]; omega)) rfl ?_
      refine m_iasn (n := 2 * (mem 7 0 26).toNat + 1) rfl rfl (Nat.le_of_ble_eq_true rfl) rfl (by first | decide | assumption | (simp only [cnt]; omega)) (by omega) (by simp only [aln]; omega) ?_
      refine m_aload_n rfl rfl rfl ?_
      refine m_dup rfl rfl rfl ?_
      refine m_gix (k := 26) (x := mem 7 _ 26) rfl rfl (Nat.le_of_ble_eq_true rfl) rfl rfl (by first | decide | assumption | (simp only [cnt]; omega)) rfl ?_
      refine m_iconst rfl rfl ?_
      refine m_iadd rfl rfl ?_
      refine m_pi (k := 26) rfl rfl (Nat.le_of_ble_eq_true rfl) rfl rfl rfl rfl (by first | decide | assumption | (simp only [cnt]; omega)) ?_
      refine m_vret rfl rfl rfl (Nat.le_of_ble_eq_true rfl) (Nat.le_of_ble_eq_true rfl) ?_
      refine ⟨rfl, ?_⟩
      unfold moEB
      first | (rw [if_neg (by omega)] <;> rfl) | (rw [if_neg (by rw [c16]; rintro ⟨-, h⟩; cases h)] <;> rfl) | (rw [if_pos ⟨by omega, c16⟩] <;> rfl)

/-- one unit: the memory behind each step -/
def moS3 (m : zkM) : zkM := moMeet (moRel (moRepl m))
def moS4 (m : zkM) : zkM := mset (moPre (moS3 m) (moMU (moS3 m))) 34 0 (m 7 0 11).toNat (moMU (moS3 m))
def moS5 (m : zkM) : Int × zkM := if moMU (moS3 m) = 9 then (0, moServe (moS4 m) (moFq (moS4 m) (moS4 m 7 0 11 + 1)).toNat) else if moMU (moS3 m) = -1 then (0, moS4 m) else moRJ (moS4 m) (moMU (moS3 m)).toNat
def moS6 (m : zkM) : zkM := mset (moS5 m).2 7 0 11 ((moS5 m).2 7 0 11 + 1)
def moUnit (m : zkM) : Int × zkM := ((moS5 m).1, moEB (moS6 m))
/-- what each step asks of the memory ahead of it -/
def moOk (m : zkM) : Prop :=
  ((0 ≤ m 7 0 26 ∧ m 7 0 26 ≤ 399) ∧ inR (m 7 0 11) ∧ ∀ k, k < 800 → inR (m 43 0 k)) ∧
  (moA (moRepl m) ∧ (0 ≤ moRepl m 7 0 11 ∧ moRepl m 7 0 11 ≤ 400) ∧ (∀ t, t < 5 → 0 ≤ moRepl m 36 0 t ∧ moRepl m 36 0 t ≤ 400) ∧ ∀ t, t < 5 → inR (moRepl m 38 0 t)) ∧
  (moA (moRel (moRepl m)) ∧ inR (moRel (moRepl m) 7 0 11) ∧ inR (moRel (moRepl m) 7 0 1) ∧ (∀ t, t < 5 → 0 ≤ moRel (moRepl m) 36 0 t ∧ moRel (moRepl m) 36 0 t ≤ 401) ∧ ∀ k, k < 2005 → 0 ≤ moRel (moRepl m) 35 0 k ∧ moRel (moRepl m) 35 0 k ≤ 400) ∧
  (moA (moS3 m) ∧ moQ0 (moS3 m) ∧ (0 ≤ moS3 m 7 0 11 ∧ moS3 m 7 0 11 < 400) ∧ moS3 m 7 0 11 = m 7 0 11 ∧ inR (moS3 m 7 0 19) ∧ (∀ t, t < 5 → inR (moS3 m 36 0 t) ∧ inR (moS3 m 37 0 t)) ∧ ∀ k, k < 400 → inR (moS3 m 34 0 k)) ∧
  (moS4 m 7 0 11 = m 7 0 11 ∧ moQ0 (moS4 m) ∧ moA (moS4 m)) ∧
  (moMU (moS3 m) = 9 → inR (moS4 m 7 0 20) ∧ 0 ≤ moFq (moS4 m) (moS4 m 7 0 11 + 1) ∧ ∀ r, r < 12 → 0 ≤ moS4 m 41 0 r ∧ moS4 m 41 0 r ≤ 100) ∧
  (moMU (moS3 m) ≠ 9 → moMU (moS3 m) ≠ -1 → moMU (moS3 m) < 5 ∧ (0 ≤ moS4 m 37 0 (moMU (moS3 m)).toNat ∧ moS4 m 37 0 (moMU (moS3 m)).toNat ≤ 100000) ∧ (0 ≤ moS4 m 35 0 (401 * (moMU (moS3 m)).toNat) ∧ moS4 m 35 0 (401 * (moMU (moS3 m)).toNat) ≤ 400) ∧ inR (moS4 m 39 0 (6 * (moMU (moS3 m)).toNat + 5)) ∧ (0 < moS4 m 36 0 (moMU (moS3 m)).toNat ∧ moS4 m 36 0 (moMU (moS3 m)).toNat ≤ 401)) ∧
  (moQ0 (moS6 m) ∧ (0 ≤ moS6 m 7 0 11 ∧ moS6 m 7 0 11 ≤ 400) ∧ inR (moS6 m 7 0 20) ∧ inR (moS6 m 7 0 6) ∧ inR (moS6 m 7 0 19) ∧ (0 ≤ moS6 m 7 0 21 ∧ moS6 m 7 0 21 ≤ 1000) ∧ (0 ≤ moS6 m 7 0 8 ∧ moS6 m 7 0 8 ≤ 1000) ∧ (0 ≤ moS6 m 7 0 26 ∧ moS6 m 7 0 26 ≤ 399))
theorem moPre_o {m : zkM} {x : Int} {t : Nat} (h : t ≠ 39) (i k : Nat) : moPre m x t i k = m t i k := by
  unfold moPre
  split
  · exact ms_t h _ _ _ _ _ _
  · rfl
set_option maxRecDepth 10000 in
theorem w_mu58 {l : Launch} {G : zkG} {mem : zkM} (hl : l.stackTraces = false) (hO : moOk mem) {now : zkV} {r : Int} {X : zkM} (hS : moS5 mem = (r, X)) : zkW l G i_Mo_makeUnit (zkKm G 5 0 0 (zkR1 (vi (moUnit mem).1) (moUnit mem).2)) 0 0 58 [some (vr 7 0), some now, some (vi r)] [] X := by
  obtain ⟨-, -, -, -, -, -, -, ⟨k1, k2, k3, k4, k5, k6, k7, k8⟩⟩ := hO
  obtain rfl : X = (moS5 mem).2 := by rw [hS]
  obtain rfl : r = (moS5 mem).1 := by rw [hS]
  refine m_aload_n rfl rfl rfl ?_
  refine m_dup rfl rfl rfl ?_
  refine m_gix (k := 11) (x := (moS5 mem).2 7 _ 11) rfl rfl (Nat.le_of_ble_eq_true rfl) rfl rfl (by first | decide | assumption | (simp only [cnt]; omega)) rfl ?_
  refine m_iconst rfl rfl ?_
  refine m_iadd rfl rfl ?_
  refine m_pi (k := 11) rfl rfl (Nat.le_of_ble_eq_true rfl) rfl rfl rfl rfl (by first | decide | assumption | (simp only [cnt]; omega)) ?_
  refine m_aload_n rfl rfl rfl ?_
  refine m_cv0 rfl rfl lk_7_209 (show zkCt l G i_Mo_endBusy _ 0 0 _ _ (zkR0 (moEB (moS6 mem))) from c_moendBusy hl k1 k2 k3 k4 k5 k6 k7 k8) rfl (by first | decide | assumption | (simp only [cnt]; omega)) (Nat.le_of_ble_eq_true rfl) rfl rfl (Nat.le_of_ble_eq_true rfl) (Nat.le_of_ble_eq_true rfl) (Nat.le_of_ble_eq_true rfl) (Nat.le_of_ble_eq_true rfl) (Nat.le_of_ble_eq_true rfl) ?_
  refine m_iload_n rfl rfl rfl ?_
  refine m_iret rfl rfl rfl (Nat.le_of_ble_eq_true rfl) (Nat.le_of_ble_eq_true rfl) ?_
  exact ⟨rfl, rfl⟩

set_option maxRecDepth 10000 in
theorem c_momakeUnit {l : Launch} {G : zkG} {mem : zkM} (hl : l.stackTraces = false) (hO : moOk mem) : zkCt l G i_Mo_makeUnit 5 0 0 [vr 7 0] mem (zkR1 (vi (moUnit mem).1) (moUnit mem).2) := by
  refine zkCt_of hl ok_Mo_makeUnit (by decide +kernel) rfl rfl (List.forall_mem_cons.mpr ⟨rfl, fun _ h => nomatch h⟩) (Nat.le_of_ble_eq_true rfl) ?_
  obtain ⟨⟨a1, a2, a3⟩, ⟨b1, b2, b3, b4⟩, ⟨d1, d2, d3, d4, d5⟩, ⟨e1, e2, e3, e4, e5, e6, e7⟩, ⟨f1, f2, f3⟩, g1, g2, -⟩ := id hO
  have hmu := moMU_I e1
  have hne := e1.1
  refine m_aload_n rfl rfl rfl ?_
  refine m_cv0 rfl rfl lk_7_186 (c_motakeRepl hl a1 a2 a3) rfl (by first | decide | assumption | (simp only [cnt]; omega)) (Nat.le_of_ble_eq_true rfl) rfl rfl (Nat.le_of_ble_eq_true rfl) (Nat.le_of_ble_eq_true rfl) (Nat.le_of_ble_eq_true rfl) (Nat.le_of_ble_eq_true rfl) (Nat.le_of_ble_eq_true rfl) ?_
  refine m_aload_n rfl rfl rfl ?_
  refine m_cv0 rfl rfl lk_7_189 (c_morelease hl b1 b2 b3 b4) rfl (by first | decide | assumption | (simp only [cnt]; omega)) (Nat.le_of_ble_eq_true rfl) rfl rfl (Nat.le_of_ble_eq_true rfl) (Nat.le_of_ble_eq_true rfl) (Nat.le_of_ble_eq_true rfl) (Nat.le_of_ble_eq_true rfl) (Nat.le_of_ble_eq_true rfl) ?_
  refine m_aload_n rfl rfl rfl ?_
  refine m_cv0 rfl rfl lk_7_192 (show zkCt l G i_Mo_meetDeadlines _ 0 0 _ _ (zkR0 (moS3 mem)) from c_momeet hl d1 d2 d3 d4 d5) rfl (by first | decide | assumption | (simp only [cnt]; omega)) (Nat.le_of_ble_eq_true rfl) rfl rfl (Nat.le_of_ble_eq_true rfl) (Nat.le_of_ble_eq_true rfl) (Nat.le_of_ble_eq_true rfl) (Nat.le_of_ble_eq_true rfl) (Nat.le_of_ble_eq_true rfl) ?_
  refine m_aload_n rfl rfl rfl ?_
  refine m_cv1 rfl rfl lk_7_195 (c_momostUrgent hl e1 e2 (by omega) e5 e6) rfl (by first | decide | assumption | (simp only [cnt]; omega)) (Nat.le_of_ble_eq_true rfl) rfl rfl (Nat.le_of_ble_eq_true rfl) (Nat.le_of_ble_eq_true rfl) (Nat.le_of_ble_eq_true rfl) (Nat.le_of_ble_eq_true rfl) (Nat.le_of_ble_eq_true rfl) ?_
  refine m_istore_n rfl rfl (Nat.le_of_ble_eq_true rfl) rfl ?_
  refine m_aload_n rfl rfl rfl ?_
  refine m_iload_n rfl rfl rfl ?_
  refine m_cv0 rfl rfl lk_7_199 (c_mocountPre hl (by omega) (by omega) (by omega) e7 (fun t ht => (e6 t ht).2)) rfl (by first | decide | assumption | (simp only [cnt]; omega)) (Nat.le_of_ble_eq_true rfl) rfl rfl (Nat.le_of_ble_eq_true rfl) (Nat.le_of_ble_eq_true rfl) (Nat.le_of_ble_eq_true rfl) (Nat.le_of_ble_eq_true rfl) (Nat.le_of_ble_eq_true rfl) ?_
  refine m_aload_n rfl rfl rfl ?_
  refine m_gr (k := 12) rfl rfl (Nat.le_of_ble_eq_true rfl) rfl rfl (by first | decide | assumption | (simp only [cnt]; omega)) ?_
  refine m_aload_n rfl rfl rfl ?_
  refine m_gix (k := 11) (x := mem 7 0 11) rfl rfl (Nat.le_of_ble_eq_true rfl) rfl rfl (by decide) (by rw [moPre_o (by decide)]; exact e4) ?_
  refine m_iload_n rfl rfl rfl ?_
  refine m_iasn (n := (mem 7 0 11).toNat) rfl rfl (Nat.le_of_ble_eq_true rfl) rfl (by first | decide | assumption | (simp only [cnt]; omega)) (by omega) (by simp only [aln]; omega) ?_
  refine m_iconst rfl rfl ?_
  refine m_istore_n rfl rfl (Nat.le_of_ble_eq_true rfl) rfl ?_
  refine m_iload_n rfl rfl rfl ?_
  refine m_bipush rfl rfl (by decide) ?_
  refine m_icmp_ne (tgt := 47) rfl rfl rfl (by omega) (by omega) (fun c37 => ?_) (fun c37 => ?_)
  · refine m_iload_n rfl rfl rfl ?_
    refine m_iconst rfl rfl ?_
    refine m_icmp_eq (tgt := 58) rfl rfl rfl (by omega) (by omega) (fun c49 => ?_) (fun c49 => ?_)
    · first | exact w_mu58 hl hO (by unfold moS5; rw [if_pos (by omega)] <;> rfl) | exact w_mu58 hl hO (by unfold moS5; rw [if_neg (by omega), if_pos (by omega)] <;> rfl) | exact w_mu58 hl hO (by unfold moS5; rw [if_neg (by omega), if_neg (by omega)])
    · refine m_aload_n rfl rfl rfl ?_
      refine m_iload_n rfl rfl rfl ?_
      refine m_cv1 rfl rfl lk_7_206 (show zkCt l G i_Mo_runJob _ 0 0 _ _ (zkR1 (vi (moRJ (moS4 mem) (moMU (moS3 mem)).toNat).1) (moRJ (moS4 mem) (moMU (moS3 mem)).toNat).2) from c_morunJob (mem := moS4 mem) hl (t := (moMU (moS3 mem)).toNat) f3 (by omega) (by have := (g2 (by omega) (by omega)).1; omega) (by omega) (g2 (by omega) (by omega)).2.1 (g2 (by omega) (by omega)).2.2.1 (g2 (by omega) (by omega)).2.2.2.1 (g2 (by omega) (by omega)).2.2.2.2) rfl (by first | decide | assumption | (simp only [cnt]; omega)) (Nat.le_of_ble_eq_true rfl) rfl rfl (Nat.le_of_ble_eq_true rfl) (Nat.le_of_ble_eq_true rfl) (Nat.le_of_ble_eq_true rfl) (Nat.le_of_ble_eq_true rfl) (Nat.le_of_ble_eq_true rfl) ?_
      refine m_istore_n rfl rfl (Nat.le_of_ble_eq_true rfl) rfl ?_
      first | exact w_mu58 hl hO (by unfold moS5; rw [if_pos (by omega)] <;> rfl) | exact w_mu58 hl hO (by unfold moS5; rw [if_neg (by omega), if_pos (by omega)] <;> rfl) | exact w_mu58 hl hO (by unfold moS5; rw [if_neg (by omega), if_neg (by omega)])
  · refine m_aload_n rfl rfl rfl ?_
    refine m_cv0 rfl rfl lk_7_203 (show zkCt l G i_Mo_runServer _ 0 0 _ _ (zkR0 (moServe (moS4 mem) (moFq (moS4 mem) (moS4 mem 7 0 11 + 1)).toNat)) from c_morunServer (mem := moS4 mem) hl f2 (by omega) (g1 (by omega)).1 (g1 (by omega)).2.1 (g1 (by omega)).2.2) rfl (by first | decide | assumption | (simp only [cnt]; omega)) (Nat.le_of_ble_eq_true rfl) rfl rfl (Nat.le_of_ble_eq_true rfl) (Nat.le_of_ble_eq_true rfl) (Nat.le_of_ble_eq_true rfl) (Nat.le_of_ble_eq_true rfl) (Nat.le_of_ble_eq_true rfl) ?_
    refine m_goto (tgt := 58) rfl rfl rfl ?_
    first | exact w_mu58 hl hO (by unfold moS5; rw [if_pos (by omega)] <;> rfl) | exact w_mu58 hl hO (by unfold moS5; rw [if_neg (by omega), if_pos (by omega)] <;> rfl) | exact w_mu58 hl hO (by unfold moS5; rw [if_neg (by omega), if_neg (by omega)])

/-- some units: the jobs that are finished, the memory -/
def moUf1 (_ : Nat) (q : Int × zkM) : Int × zkM := (q.1 + (moUnit q.2).1, (moUnit q.2).2)
def moRun (m : zkM) (u : Int) : Int × zkM := if ¬ (1 ≤ u ∧ u ≤ 100) then (0, mset (mset m 7 0 0 0) 7 0 0 1) else if 400 < m 7 0 11 + u then (0, mset (mset m 7 0 0 0) 7 0 0 2) else lp moUf1 u.toNat (0, mset m 7 0 0 0)
set_option maxRecDepth 10000 in
theorem c_morun {l : Launch} {G : zkG} {mem : zkM} (hl : l.stackTraces = false) {u : Int} (hu : inR u) (hc : 0 ≤ mem 7 0 11 ∧ mem 7 0 11 ≤ 400) (hO : 1 ≤ u ∧ u ≤ 100 → ¬ 400 < mem 7 0 11 + u → ∀ j, j < u.toNat → moOk (lp moUf1 j (0, mset mem 7 0 0 0)).2) : zkCt l G i_Mo_run 6 0 0 [vr 7 0, vi u] mem (zkR1 (vi (moRun mem u).1) (moRun mem u).2) := by
  refine zkCt_of hl ok_Mo_run (by decide +kernel) rfl rfl (List.forall_mem_cons.mpr ⟨rfl, (List.forall_mem_cons.mpr ⟨rfl, fun _ h => nomatch h⟩)⟩) (Nat.le_of_ble_eq_true rfl) ?_
  refine m_aload_n rfl rfl rfl ?_
  refine m_iconst rfl rfl ?_
  refine m_pi (k := 0) rfl rfl (Nat.le_of_ble_eq_true rfl) rfl rfl rfl rfl (by first | decide | assumption | (simp only [cnt]; omega)) ?_
  refine m_iload_n rfl rfl rfl ?_
  refine m_iconst rfl rfl ?_
  refine m_bipush rfl rfl (by decide) ?_
  refine m_cs1 rfl rfl lk_7_75 (c_isIn hl (by omega) (by omega) (by omega)) rfl rfl (Nat.le_of_ble_eq_true rfl) (Nat.le_of_ble_eq_true rfl) (Nat.le_of_ble_eq_true rfl) (Nat.le_of_ble_eq_true rfl) (Nat.le_of_ble_eq_true rfl) ?_
  refine m_if_ne_d (tgt := 21) rfl rfl rfl (fun c12 => ?_) (fun c12 => ?_)
  · refine m_aload_n rfl rfl rfl ?_
    refine m_gix (k := 11) (x := mem 7 _ 11) rfl rfl (Nat.le_of_ble_eq_true rfl) rfl rfl (by first | decide | assumption | (simp only [cnt]; omega)) rfl ?_
    refine m_iload_n rfl rfl rfl ?_
    refine m_iadd rfl rfl ?_
    refine m_sipush rfl rfl (by decide) ?_
    refine m_icmp_le (tgt := 39) rfl rfl rfl (by omega) (by omega) (fun c30 => ?_) (fun c30 => ?_)
    · refine m_iconst rfl rfl ?_
      refine m_istore_n rfl rfl (Nat.le_of_ble_eq_true rfl) rfl ?_
      refine m_iconst rfl rfl ?_
      refine m_istore_n rfl rfl (Nat.le_of_ble_eq_true rfl) rfl ?_
      have hO2 := hO (by omega) (by omega)
      refine zk_loop (P := fun (j : Nat) (q : Int × zkM) => zkW l G i_Mo_run _ 0 0 43 [some (vr 7 0), some (vi u), some (vi q.1), some (vi j)] [] q.2) (I := fun j q => q = lp moUf1 j (0, mset mem 7 0 0 0)) moUf1 u.toNat (0, mset mem 7 0 0 0) rfl (fun j q hj hq => by rw [hq]; rfl) (fun j q hj hq hk => ?_) (fun hq => ?_)
      · have hOj := hO2 j hj
        rw [← hq] at hOj
        clear hq
        obtain ⟨r, X⟩ := q
        dsimp only at hOj hk ⊢
        refine m_iload_n rfl rfl rfl ?_
        refine m_iload_n rfl rfl rfl ?_
        refine m_icmp_ge (tgt := 61) rfl rfl rfl (by omega) (by omega) (fun c45 => ?_) (fun c45 => ?_)
        · exfalso; omega
        · refine m_iload_n rfl rfl rfl ?_
          refine m_aload_n rfl rfl rfl ?_
          refine m_cv1 rfl rfl lk_7_212 (c_momakeUnit hl hOj) rfl (by first | decide | assumption | (simp only [cnt]; omega)) (Nat.le_of_ble_eq_true rfl) rfl rfl (Nat.le_of_ble_eq_true rfl) (Nat.le_of_ble_eq_true rfl) (Nat.le_of_ble_eq_true rfl) (Nat.le_of_ble_eq_true rfl) (Nat.le_of_ble_eq_true rfl) ?_
          refine m_iadd rfl rfl ?_
          refine m_istore_n rfl rfl (Nat.le_of_ble_eq_true rfl) rfl ?_
          refine m_iinc rfl rfl rfl (Nat.le_of_ble_eq_true rfl) rfl ?_
          refine m_goto (tgt := 43) rfl rfl rfl ?_
          exact hk
      · refine m_iload_n rfl rfl rfl ?_
        refine m_iload_n rfl rfl rfl ?_
        refine m_icmp_ge (tgt := 61) rfl rfl rfl (by omega) (by omega) (fun c45 => ?_) (fun c45 => ?_)
        · refine m_iload_n rfl rfl rfl ?_
          refine m_iret rfl rfl rfl (Nat.le_of_ble_eq_true rfl) (Nat.le_of_ble_eq_true rfl) ?_
          unfold moRun
          rw [if_neg (by omega), if_neg (by omega)]
          exact ⟨rfl, rfl⟩
        · exfalso; omega
    · refine m_aload_n rfl rfl rfl ?_
      refine m_iconst rfl rfl ?_
      refine m_cv1 rfl rfl lk_7_114 (c_fail hl) rfl (by first | decide | assumption | (simp only [cnt]; omega)) (Nat.le_of_ble_eq_true rfl) rfl rfl (Nat.le_of_ble_eq_true rfl) (Nat.le_of_ble_eq_true rfl) (Nat.le_of_ble_eq_true rfl) (Nat.le_of_ble_eq_true rfl) (Nat.le_of_ble_eq_true rfl) ?_
      refine m_iret rfl rfl rfl (Nat.le_of_ble_eq_true rfl) (Nat.le_of_ble_eq_true rfl) ?_
      unfold moRun
      rw [if_neg (by omega), if_pos (by omega)]
      exact ⟨rfl, rfl⟩
  · refine m_aload_n rfl rfl rfl ?_
    refine m_iconst rfl rfl ?_
    refine m_cv1 rfl rfl lk_7_114 (c_fail hl) rfl (by first | decide | assumption | (simp only [cnt]; omega)) (Nat.le_of_ble_eq_true rfl) rfl rfl (Nat.le_of_ble_eq_true rfl) (Nat.le_of_ble_eq_true rfl) (Nat.le_of_ble_eq_true rfl) (Nat.le_of_ble_eq_true rfl) (Nat.le_of_ble_eq_true rfl) ?_
    refine m_iret rfl rfl rfl (Nat.le_of_ble_eq_true rfl) (Nat.le_of_ble_eq_true rfl) ?_
    unfold moRun
    rw [if_pos (by omega)]
    exact ⟨rfl, rfl⟩

def moRew (m : zkM) : Int × zkM := (m 7 0 11, moRs (mset m 7 0 0 0))
set_option maxRecDepth 10000 in
theorem c_morewind {l : Launch} {G : zkG} {mem : zkM} (hl : l.stackTraces = false) : zkCt l G i_Mo_rewind 1 0 0 [vr 7 0] mem (zkR1 (vi (moRew mem).1) (moRew mem).2) := by
  refine zkCt_of hl ok_Mo_rewind (by decide +kernel) rfl rfl (List.forall_mem_cons.mpr ⟨rfl, fun _ h => nomatch h⟩) (Nat.le_of_ble_eq_true rfl) ?_
  refine m_aload_n rfl rfl rfl ?_
  refine m_iconst rfl rfl ?_
  refine m_pi (k := 0) rfl rfl (Nat.le_of_ble_eq_true rfl) rfl rfl rfl rfl (by first | decide | assumption | (simp only [cnt]; omega)) ?_
  refine m_aload_n rfl rfl rfl ?_
  refine m_gix (k := 11) (x := mem 7 _ 11) rfl rfl (Nat.le_of_ble_eq_true rfl) rfl rfl (by first | decide | assumption | (simp only [cnt]; omega)) rfl ?_
  refine m_istore_n rfl rfl (Nat.le_of_ble_eq_true rfl) rfl ?_
  refine m_aload_n rfl rfl rfl ?_
  refine m_cv0 rfl rfl lk_7_107 (c_restart hl) rfl (by first | decide | assumption | (simp only [cnt]; omega)) (Nat.le_of_ble_eq_true rfl) rfl rfl (Nat.le_of_ble_eq_true rfl) (Nat.le_of_ble_eq_true rfl) (Nat.le_of_ble_eq_true rfl) (Nat.le_of_ble_eq_true rfl) (Nat.le_of_ble_eq_true rfl) ?_
  refine m_iload_n rfl rfl rfl ?_
  refine m_iret rfl rfl rfl (Nat.le_of_ble_eq_true rfl) (Nat.le_of_ble_eq_true rfl) ?_
  exact ⟨rfl, rfl⟩
end
section
/-! the reference: answers about the simulation -/
def moRan (m : zkM) (x : Int) : Int × zkM := if 0 ≤ x ∧ x ≤ m 7 0 11 - 1 then (m 34 0 x.toNat, mset m 7 0 0 0) else (0, mset (mset m 7 0 0 0) 7 0 0 1)
set_option maxRecDepth 10000 in
theorem c_moranAt {l : Launch} {G : zkG} {mem : zkM} (hl : l.stackTraces = false) {x : Int} (hx : inR x) (hc : 0 ≤ mem 7 0 11 ∧ mem 7 0 11 ≤ 400) : zkCt l G i_Mo_ranAt 1 0 0 [vr 7 0, vi x] mem (zkR1 (vi (moRan mem x).1) (moRan mem x).2) := by
  refine zkCt_of hl ok_Mo_ranAt (by decide +kernel) rfl rfl (List.forall_mem_cons.mpr ⟨rfl, (List.forall_mem_cons.mpr ⟨rfl, fun _ h => nomatch h⟩)⟩) (Nat.le_of_ble_eq_true rfl) ?_
  refine m_aload_n rfl rfl rfl ?_
  refine m_iconst rfl rfl ?_
  refine m_pi (k := 0) rfl rfl (Nat.le_of_ble_eq_true rfl) rfl rfl rfl rfl (by first | decide | assumption | (simp only [cnt]; omega)) ?_
  refine m_iload_n rfl rfl rfl ?_
  refine m_iconst rfl rfl ?_
  refine m_aload_n rfl rfl rfl ?_
  refine m_gix (k := 11) (x := mem 7 _ 11) rfl rfl (Nat.le_of_ble_eq_true rfl) rfl rfl (by first | decide | assumption | (simp only [cnt]; omega)) rfl ?_
  refine m_iconst rfl rfl ?_
  refine m_isub rfl rfl ?_
  refine m_cs1 rfl rfl lk_7_75 (c_isIn hl (by omega) (by omega) (by omega)) rfl rfl (Nat.le_of_ble_eq_true rfl) (Nat.le_of_ble_eq_true rfl) (Nat.le_of_ble_eq_true rfl) (Nat.le_of_ble_eq_true rfl) (Nat.le_of_ble_eq_true rfl) ?_
  refine m_if_eq_d (tgt := 28) rfl rfl rfl (fun c16 => ?_) (fun c16 => ?_)
  · refine m_aload_n rfl rfl rfl ?_
    refine m_iconst rfl rfl ?_
    refine m_cv1 rfl rfl lk_7_114 (c_fail hl) rfl (by first | decide | assumption | (simp only [cnt]; omega)) (Nat.le_of_ble_eq_true rfl) rfl rfl (Nat.le_of_ble_eq_true rfl) (Nat.le_of_ble_eq_true rfl) (Nat.le_of_ble_eq_true rfl) (Nat.le_of_ble_eq_true rfl) (Nat.le_of_ble_eq_true rfl) ?_
    refine m_iret rfl rfl rfl (Nat.le_of_ble_eq_true rfl) (Nat.le_of_ble_eq_true rfl) ?_
    unfold moRan
    first | (rw [if_pos (by omega)]; exact ⟨rfl, rfl⟩) | (rw [if_neg (by omega)]; exact ⟨rfl, rfl⟩)
  · refine m_aload_n rfl rfl rfl ?_
    refine m_gr (k := 12) rfl rfl (Nat.le_of_ble_eq_true rfl) rfl rfl (by first | decide | assumption | (simp only [cnt]; omega)) ?_
    refine m_iload_n rfl rfl rfl ?_
    refine m_ialx (n := x.toNat) (y := mem 34 _ (x.toNat)) rfl rfl (Nat.le_of_ble_eq_true rfl) rfl (by first | decide | assumption | (simp only [cnt]; omega)) (by omega) (by simp only [aln]; omega) rfl ?_
    refine m_goto (tgt := 33) rfl rfl rfl ?_
    refine m_iret rfl rfl rfl (Nat.le_of_ble_eq_true rfl) (Nat.le_of_ble_eq_true rfl) ?_
    unfold moRan
    first | (rw [if_pos (by omega)]; exact ⟨rfl, rfl⟩) | (rw [if_neg (by omega)]; exact ⟨rfl, rfl⟩)

def moPnd (m : zkM) (x : Int) : Int × zkM := if 0 ≤ x ∧ x ≤ m 7 0 2 - 1 then (m 36 0 x.toNat, mset m 7 0 0 0) else (0, mset (mset m 7 0 0 0) 7 0 0 1)
set_option maxRecDepth 10000 in
theorem c_mopending {l : Launch} {G : zkG} {mem : zkM} (hl : l.stackTraces = false) {x : Int} (hx : inR x) (hm : 0 ≤ mem 7 0 2 ∧ mem 7 0 2 ≤ 5) : zkCt l G i_Mo_pending 2 0 0 [vr 7 0, vi x] mem (zkR1 (vi (moPnd mem x).1) (moPnd mem x).2) := by
  refine zkCt_of hl ok_Mo_pending (by decide +kernel) rfl rfl (List.forall_mem_cons.mpr ⟨rfl, (List.forall_mem_cons.mpr ⟨rfl, fun _ h => nomatch h⟩)⟩) (Nat.le_of_ble_eq_true rfl) ?_
  refine m_aload_n rfl rfl rfl ?_
  refine m_iconst rfl rfl ?_
  refine m_pi (k := 0) rfl rfl (Nat.le_of_ble_eq_true rfl) rfl rfl rfl rfl (by first | decide | assumption | (simp only [cnt]; omega)) ?_
  refine m_aload_n rfl rfl rfl ?_
  refine m_iload_n rfl rfl rfl ?_
  refine m_cv1 rfl rfl lk_7_121 (show zkCt l G i_Mo_isTask _ 0 0 _ _ (zkR1 (vi (b2i (decide (0 ≤ x ∧ x ≤ mem 7 0 2 - 1)))) _) from c_isTask hl (by omega) (show 0 ≤ mem 7 0 2 ∧ mem 7 0 2 ≤ 5 by omega)) rfl (by first | decide | assumption | (simp only [cnt]; omega)) (Nat.le_of_ble_eq_true rfl) rfl rfl (Nat.le_of_ble_eq_true rfl) (Nat.le_of_ble_eq_true rfl) (Nat.le_of_ble_eq_true rfl) (Nat.le_of_ble_eq_true rfl) (Nat.le_of_ble_eq_true rfl) ?_
  refine m_if_eq_d (tgt := 22) rfl rfl rfl (fun c10 => ?_) (fun c10 => ?_)
  · refine m_aload_n rfl rfl rfl ?_
    refine m_iconst rfl rfl ?_
    refine m_cv1 rfl rfl lk_7_114 (c_fail hl) rfl (by first | decide | assumption | (simp only [cnt]; omega)) (Nat.le_of_ble_eq_true rfl) rfl rfl (Nat.le_of_ble_eq_true rfl) (Nat.le_of_ble_eq_true rfl) (Nat.le_of_ble_eq_true rfl) (Nat.le_of_ble_eq_true rfl) (Nat.le_of_ble_eq_true rfl) ?_
    refine m_iret rfl rfl rfl (Nat.le_of_ble_eq_true rfl) (Nat.le_of_ble_eq_true rfl) ?_
    unfold moPnd
    first | (rw [if_pos (by omega)]; exact ⟨rfl, rfl⟩) | (rw [if_neg (by omega)]; exact ⟨rfl, rfl⟩)
  · refine m_aload_n rfl rfl rfl ?_
    refine m_gr (k := 14) rfl rfl (Nat.le_of_ble_eq_true rfl) rfl rfl (by first | decide | assumption | (simp only [cnt]; omega)) ?_
    refine m_iload_n rfl rfl rfl ?_
    refine m_ialx (n := x.toNat) (y := mem 36 _ (x.toNat)) rfl rfl (Nat.le_of_ble_eq_true rfl) rfl (by first | decide | assumption | (simp only [cnt]; omega)) (by omega) (by simp only [aln]; omega) rfl ?_
    refine m_goto (tgt := 27) rfl rfl rfl ?_
    refine m_iret rfl rfl rfl (Nat.le_of_ble_eq_true rfl) (Nat.le_of_ble_eq_true rfl) ?_
    unfold moPnd
    first | (rw [if_pos (by omega)]; exact ⟨rfl, rfl⟩) | (rw [if_neg (by omega)]; exact ⟨rfl, rfl⟩)

theorem moSNf_c {m m' : zkM} {t : Nat} (h1 : m' 37 0 t = m 37 0 t) (h2 : ∀ k, moLe m' t k = moLe m t k) : ∀ (r k : Nat) (b : Int), moSNf m' t r k b = moSNf m t r k b
  | 0, _, _ => rfl
  | r + 1, k, b => by
    unfold moSNf
    rw [h1, h2 k, moSNf_c h1 h2 r]
theorem moHd_T (m : zkM) (x : Int) (t : Nat) : moHd (mset m 7 0 0 x) t = moHd m t := by
  unfold moHd moSN
  rw [moSNf_c (m := m) (m' := mset m 7 0 0 x) rfl (fun _ => rfl)]
  rfl
theorem moAc_T (m : zkM) (x : Int) (t : Nat) : moAc (mset m 7 0 0 x) t = moAc m t := by
  unfold moAc
  rw [moHd_T]
  rfl
def moAct (m : zkM) (x : Int) : Int × zkM := if ¬ (0 ≤ x ∧ x ≤ m 7 0 2 - 1) then (0, mset m 7 0 0 1) else if m 36 0 x.toNat = 0 then (0, mset m 7 0 0 2) else (moAc m x.toNat, mset m 7 0 0 0)
set_option maxRecDepth 10000 in
theorem c_moactive {l : Launch} {G : zkG} {mem : zkM} (hl : l.stackTraces = false) {x : Int} (hA : moA mem) (hx : inR x) (h1 : ∀ t, t < 5 → inR (mem 36 0 t) ∧ inR (mem 37 0 t)) : zkCt l G i_Mo_activePriority 4 0 0 [vr 7 0, vi x] mem (zkR1 (vi (moAct mem x).1) (moAct mem x).2) := by
  refine zkCt_of hl ok_Mo_activePriority (by decide +kernel) rfl rfl (List.forall_mem_cons.mpr ⟨rfl, (List.forall_mem_cons.mpr ⟨rfl, fun _ h => nomatch h⟩)⟩) (Nat.le_of_ble_eq_true rfl) ?_
  have hm := hA.1
  refine m_aload_n rfl rfl rfl ?_
  refine m_aload_n rfl rfl rfl ?_
  refine m_iload_n rfl rfl rfl ?_
  refine m_cv1 rfl rfl lk_7_121 (c_isTask hl (by omega) (by omega)) rfl (by first | decide | assumption | (simp only [cnt]; omega)) (Nat.le_of_ble_eq_true rfl) rfl rfl (Nat.le_of_ble_eq_true rfl) (Nat.le_of_ble_eq_true rfl) (Nat.le_of_ble_eq_true rfl) (Nat.le_of_ble_eq_true rfl) (Nat.le_of_ble_eq_true rfl) ?_
  refine m_if_ne_d (tgt := 13) rfl rfl rfl (fun c6 => ?_) (fun c6 => ?_)
  · have h2 := h1 x.toNat (by omega)
    refine m_aload_n rfl rfl rfl ?_
    refine m_gr (k := 14) rfl rfl (Nat.le_of_ble_eq_true rfl) rfl rfl (by first | decide | assumption | (simp only [cnt]; omega)) ?_
    refine m_iload_n rfl rfl rfl ?_
    refine m_ialx (n := x.toNat) (y := mem 36 _ (x.toNat)) rfl rfl (Nat.le_of_ble_eq_true rfl) rfl (by first | decide | assumption | (simp only [cnt]; omega)) (by omega) (by simp only [aln]; omega) rfl ?_
    refine m_if_ne (tgt := 26) rfl rfl rfl (by omega) (fun c19 => ?_) (fun c19 => ?_)
    · refine m_iconst rfl rfl ?_
      refine m_pi (k := 0) rfl rfl (Nat.le_of_ble_eq_true rfl) rfl rfl rfl rfl (by first | decide | assumption | (simp only [cnt]; omega)) ?_
      refine m_aload_n rfl rfl rfl ?_
      refine m_gix (k := 0) (x := 0) rfl rfl (Nat.le_of_ble_eq_true rfl) rfl rfl (by first | decide | assumption | (simp only [cnt]; omega)) rfl ?_
      refine m_if_ne (tgt := 45) rfl rfl rfl (by omega) (fun c34 => ?_) (fun c34 => ?_)
      · exfalso; omega
      · refine m_aload_n rfl rfl rfl ?_
        refine m_iload_n rfl rfl rfl ?_
        refine m_cv1 rfl rfl lk_7_180 (by have h := c_activeOf (l := l) (G := G) (mem := mset mem 7 0 0 0) hl (show moA _ from hA) (t := x.toNat) (x := x) (by omega) (by omega) h2.1 h2.2; rw [moAc_T] at h; exact h) rfl (by first | decide | assumption | (simp only [cnt]; omega)) (Nat.le_of_ble_eq_true rfl) rfl rfl (Nat.le_of_ble_eq_true rfl) (Nat.le_of_ble_eq_true rfl) (Nat.le_of_ble_eq_true rfl) (Nat.le_of_ble_eq_true rfl) (Nat.le_of_ble_eq_true rfl) ?_
        refine m_goto (tgt := 46) rfl rfl rfl ?_
        refine m_iret rfl rfl rfl (Nat.le_of_ble_eq_true rfl) (Nat.le_of_ble_eq_true rfl) ?_
        unfold moAct
        first | (rw [if_pos (by omega)]; exact ⟨rfl, rfl⟩) | (rw [if_neg (by omega), if_pos (by omega)]; exact ⟨rfl, rfl⟩) | (rw [if_neg (by omega), if_neg (by omega)]; exact ⟨rfl, rfl⟩)
    · refine m_iconst rfl rfl ?_
      refine m_goto (tgt := 27) rfl rfl rfl ?_
      refine m_pi (k := 0) rfl rfl (Nat.le_of_ble_eq_true rfl) rfl rfl rfl rfl (by first | decide | assumption | (simp only [cnt]; omega)) ?_
      refine m_aload_n rfl rfl rfl ?_
      refine m_gix (k := 0) (x := 2) rfl rfl (Nat.le_of_ble_eq_true rfl) rfl rfl (by first | decide | assumption | (simp only [cnt]; omega)) rfl ?_
      refine m_if_ne (tgt := 45) rfl rfl rfl (by omega) (fun c34 => ?_) (fun c34 => ?_)
      · refine m_iconst rfl rfl ?_
        refine m_iret rfl rfl rfl (Nat.le_of_ble_eq_true rfl) (Nat.le_of_ble_eq_true rfl) ?_
        unfold moAct
        first | (rw [if_pos (by omega)]; exact ⟨rfl, rfl⟩) | (rw [if_neg (by omega), if_pos (by omega)]; exact ⟨rfl, rfl⟩) | (rw [if_neg (by omega), if_neg (by omega)]; exact ⟨rfl, rfl⟩)
      · exfalso; omega
  · refine m_iconst rfl rfl ?_
    refine m_goto (tgt := 27) rfl rfl rfl ?_
    refine m_pi (k := 0) rfl rfl (Nat.le_of_ble_eq_true rfl) rfl rfl rfl rfl (by first | decide | assumption | (simp only [cnt]; omega)) ?_
    refine m_aload_n rfl rfl rfl ?_
    refine m_gix (k := 0) (x := 1) rfl rfl (Nat.le_of_ble_eq_true rfl) rfl rfl (by first | decide | assumption | (simp only [cnt]; omega)) rfl ?_
    refine m_if_ne (tgt := 45) rfl rfl rfl (by omega) (fun c34 => ?_) (fun c34 => ?_)
    · refine m_iconst rfl rfl ?_
      refine m_iret rfl rfl rfl (Nat.le_of_ble_eq_true rfl) (Nat.le_of_ble_eq_true rfl) ?_
      unfold moAct
      first | (rw [if_pos (by omega)]; exact ⟨rfl, rfl⟩) | (rw [if_neg (by omega), if_pos (by omega)]; exact ⟨rfl, rfl⟩) | (rw [if_neg (by omega), if_neg (by omega)]; exact ⟨rfl, rfl⟩)
    · exfalso; omega

def moHf (m : zkM) (r : Int) (t : Nat) (h : Int) : Int := if moHd m t = r then t else h
def moHol (m : zkM) (r : Int) : Int × zkM := if ¬ (0 ≤ r ∧ r ≤ 3) then (0, mset (mset m 7 0 0 0) 7 0 0 1) else (lp (moHf m r) (moN m) (-1), mset m 7 0 0 0)
set_option maxRecDepth 10000 in
theorem c_moholder {l : Launch} {G : zkG} {mem : zkM} (hl : l.stackTraces = false) {r : Int} (hA : moA mem) (hr : inR r) (h1 : ∀ t, t < 5 → inR (mem 36 0 t) ∧ inR (mem 37 0 t)) : zkCt l G i_Mo_holder 3 0 0 [vr 7 0, vi r] mem (zkR1 (vi (moHol mem r).1) (moHol mem r).2) := by
  refine zkCt_of hl ok_Mo_holder (by decide +kernel) rfl rfl (List.forall_mem_cons.mpr ⟨rfl, (List.forall_mem_cons.mpr ⟨rfl, fun _ h => nomatch h⟩)⟩) (Nat.le_of_ble_eq_true rfl) ?_
  have hn := moA_n hA
  refine m_aload_n rfl rfl rfl ?_
  refine m_iconst rfl rfl ?_
  refine m_pi (k := 0) rfl rfl (Nat.le_of_ble_eq_true rfl) rfl rfl rfl rfl (by first | decide | assumption | (simp only [cnt]; omega)) ?_
  refine m_iload_n rfl rfl rfl ?_
  refine m_iconst rfl rfl ?_
  refine m_iconst rfl rfl ?_
  refine m_cs1 rfl rfl lk_7_75 (c_isIn hl (by omega) (by omega) (by omega)) rfl rfl (Nat.le_of_ble_eq_true rfl) (Nat.le_of_ble_eq_true rfl) (Nat.le_of_ble_eq_true rfl) (Nat.le_of_ble_eq_true rfl) (Nat.le_of_ble_eq_true rfl) ?_
  refine m_if_ne_d (tgt := 20) rfl rfl rfl (fun c11 => ?_) (fun c11 => ?_)
  · refine m_iconst rfl rfl ?_
    refine m_istore_n rfl rfl (Nat.le_of_ble_eq_true rfl) rfl ?_
    refine m_iconst rfl rfl ?_
    refine m_istore_n rfl rfl (Nat.le_of_ble_eq_true rfl) rfl ?_
    refine zk_loop (P := fun (j : Nat) (s : Int) => zkW l G i_Mo_holder _ 0 0 24 [some (vr 7 0), some (vi r), some (vi s), some (vi j)] [] (mset mem 7 0 0 0)) (I := fun _ _ => True) (moHf mem r) (moN mem) (-1) trivial (fun _ _ _ _ => trivial) (fun j s hj _ hk => ?_) (fun _ => ?_)
    · have h2 := h1 j (by omega)
      have h3 := moHd_b hA (t := j) (by omega)
      unfold moHf at hk
      refine m_iload_n rfl rfl rfl ?_
      refine m_aload_n rfl rfl rfl ?_
      refine m_gix (k := 2) (x := mem 7 _ 2) rfl rfl (Nat.le_of_ble_eq_true rfl) rfl rfl (by first | decide | assumption | (simp only [cnt]; omega)) rfl ?_
      refine m_icmp_ge (tgt := 53) rfl rfl rfl (by omega) (by omega) (fun c29 => ?_) (fun c29 => ?_)
      · exfalso; omega
      · refine m_aload_n rfl rfl rfl ?_
        refine m_iload_n rfl rfl rfl ?_
        refine m_cv1 rfl rfl lk_7_171 (by have h := c_heldBy (l := l) (G := G) (mem := mset mem 7 0 0 0) hl (show moA _ from hA) (t := j) rfl (by omega) h2.1 h2.2; rw [moHd_T] at h; exact h) rfl (by first | decide | assumption | (simp only [cnt]; omega)) (Nat.le_of_ble_eq_true rfl) rfl rfl (Nat.le_of_ble_eq_true rfl) (Nat.le_of_ble_eq_true rfl) (Nat.le_of_ble_eq_true rfl) (Nat.le_of_ble_eq_true rfl) (Nat.le_of_ble_eq_true rfl) ?_
        refine m_iload_n rfl rfl rfl ?_
        refine m_icmp_ne (tgt := 45) rfl rfl rfl (by omega) (by omega) (fun c38 => ?_) (fun c38 => ?_)
        · refine m_iload_n rfl rfl rfl ?_
          refine m_istore_n rfl rfl (Nat.le_of_ble_eq_true rfl) rfl ?_
          refine m_iinc rfl rfl rfl (Nat.le_of_ble_eq_true rfl) rfl ?_
          refine m_goto (tgt := 24) rfl rfl rfl ?_
          first | (rw [if_pos (by omega)] at hk; exact hk) | (rw [if_neg (by omega)] at hk; exact hk)
        · refine m_iload_n rfl rfl rfl ?_
          refine m_goto (tgt := 46) rfl rfl rfl ?_
          refine m_istore_n rfl rfl (Nat.le_of_ble_eq_true rfl) rfl ?_
          refine m_iinc rfl rfl rfl (Nat.le_of_ble_eq_true rfl) rfl ?_
          refine m_goto (tgt := 24) rfl rfl rfl ?_
          first | (rw [if_pos (by omega)] at hk; exact hk) | (rw [if_neg (by omega)] at hk; exact hk)
    · refine m_iload_n rfl rfl rfl ?_
      refine m_aload_n rfl rfl rfl ?_
      refine m_gix (k := 2) (x := mem 7 _ 2) rfl rfl (Nat.le_of_ble_eq_true rfl) rfl rfl (by first | decide | assumption | (simp only [cnt]; omega)) rfl ?_
      refine m_icmp_ge (tgt := 53) rfl rfl rfl (by omega) (by omega) (fun c29 => ?_) (fun c29 => ?_)
      · refine m_iload_n rfl rfl rfl ?_
        refine m_iret rfl rfl rfl (Nat.le_of_ble_eq_true rfl) (Nat.le_of_ble_eq_true rfl) ?_
        unfold moHol
        first | (rw [if_neg (by omega)]; exact ⟨rfl, rfl⟩)
      · exfalso; omega
  · refine m_aload_n rfl rfl rfl ?_
    refine m_iconst rfl rfl ?_
    refine m_cv1 rfl rfl lk_7_114 (c_fail hl) rfl (by first | decide | assumption | (simp only [cnt]; omega)) (Nat.le_of_ble_eq_true rfl) rfl rfl (Nat.le_of_ble_eq_true rfl) (Nat.le_of_ble_eq_true rfl) (Nat.le_of_ble_eq_true rfl) (Nat.le_of_ble_eq_true rfl) (Nat.le_of_ble_eq_true rfl) ?_
    refine m_iret rfl rfl rfl (Nat.le_of_ble_eq_true rfl) (Nat.le_of_ble_eq_true rfl) ?_
    unfold moHol
    first | (rw [if_pos (by omega)]; exact ⟨rfl, rfl⟩)

def moRes (m : zkM) (x w : Int) : Int × zkM := if ¬ (0 ≤ x ∧ x ≤ m 7 0 2 - 1) then (0, mset m 7 0 0 1) else if ¬ (0 ≤ w ∧ w ≤ 5) then (0, mset m 7 0 0 2) else (m 39 0 (6 * x.toNat + w.toNat), mset m 7 0 0 0)
set_option maxRecDepth 10000 in
theorem c_moresult {l : Launch} {G : zkG} {mem : zkM} (hl : l.stackTraces = false) {x w : Int} (hx : inR x) (hw : inR w) (hm : 0 ≤ mem 7 0 2 ∧ mem 7 0 2 ≤ 5) : zkCt l G i_Mo_result 2 0 0 [vr 7 0, vi x, vi w] mem (zkR1 (vi (moRes mem x w).1) (moRes mem x w).2) := by
  refine zkCt_of hl ok_Mo_result (by decide +kernel) rfl rfl (List.forall_mem_cons.mpr ⟨rfl, (List.forall_mem_cons.mpr ⟨rfl, (List.forall_mem_cons.mpr ⟨rfl, fun _ h => nomatch h⟩)⟩)⟩) (Nat.le_of_ble_eq_true rfl) ?_
  refine m_aload_n rfl rfl rfl ?_
  refine m_aload_n rfl rfl rfl ?_
  refine m_iload_n rfl rfl rfl ?_
  refine m_cv1 rfl rfl lk_7_121 (c_isTask hl (by omega) (by omega)) rfl (by first | decide | assumption | (simp only [cnt]; omega)) (Nat.le_of_ble_eq_true rfl) rfl rfl (Nat.le_of_ble_eq_true rfl) (Nat.le_of_ble_eq_true rfl) (Nat.le_of_ble_eq_true rfl) (Nat.le_of_ble_eq_true rfl) (Nat.le_of_ble_eq_true rfl) ?_
  refine m_if_ne_d (tgt := 13) rfl rfl rfl (fun c6 => ?_) (fun c6 => ?_)
  · refine m_iload_n rfl rfl rfl ?_
    refine m_iconst rfl rfl ?_
    refine m_iconst rfl rfl ?_
    refine m_cs1 rfl rfl lk_7_75 (c_isIn hl (by omega) (by omega) (by omega)) rfl rfl (Nat.le_of_ble_eq_true rfl) (Nat.le_of_ble_eq_true rfl) (Nat.le_of_ble_eq_true rfl) (Nat.le_of_ble_eq_true rfl) (Nat.le_of_ble_eq_true rfl) ?_
    refine m_if_ne_d (tgt := 26) rfl rfl rfl (fun c19 => ?_) (fun c19 => ?_)
    · refine m_iconst rfl rfl ?_
      refine m_pi (k := 0) rfl rfl (Nat.le_of_ble_eq_true rfl) rfl rfl rfl rfl (by first | decide | assumption | (simp only [cnt]; omega)) ?_
      refine m_aload_n rfl rfl rfl ?_
      refine m_gix (k := 0) (x := 0) rfl rfl (Nat.le_of_ble_eq_true rfl) rfl rfl (by first | decide | assumption | (simp only [cnt]; omega)) rfl ?_
      refine m_if_ne (tgt := 51) rfl rfl rfl (by omega) (fun c34 => ?_) (fun c34 => ?_)
      · exfalso; omega
      · refine m_aload_n rfl rfl rfl ?_
        refine m_gr (k := 17) rfl rfl (Nat.le_of_ble_eq_true rfl) rfl rfl (by first | decide | assumption | (simp only [cnt]; omega)) ?_
        refine m_bipush rfl rfl (by decide) ?_
        refine m_iload_n rfl rfl rfl ?_
        refine m_imul rfl rfl ?_
        refine m_iload_n rfl rfl rfl ?_
        refine m_iadd rfl rfl ?_
        refine m_ialx (n := 6 * x.toNat + w.toNat) (y := mem 39 _ (6 * x.toNat + w.toNat)) rfl rfl (Nat.le_of_ble_eq_true rfl) rfl (by first | decide | assumption | (simp only [cnt]; omega)) (by omega) (by simp only [aln]; omega) rfl ?_
        refine m_goto (tgt := 52) rfl rfl rfl ?_
        refine m_iret rfl rfl rfl (Nat.le_of_ble_eq_true rfl) (Nat.le_of_ble_eq_true rfl) ?_
        unfold moRes
        first | (rw [if_pos (by omega)]; exact ⟨rfl, rfl⟩) | (rw [if_neg (by omega), if_pos (by omega)]; exact ⟨rfl, rfl⟩) | (rw [if_neg (by omega), if_neg (by omega)]; exact ⟨rfl, rfl⟩)
    · refine m_iconst rfl rfl ?_
      refine m_goto (tgt := 27) rfl rfl rfl ?_
      refine m_pi (k := 0) rfl rfl (Nat.le_of_ble_eq_true rfl) rfl rfl rfl rfl (by first | decide | assumption | (simp only [cnt]; omega)) ?_
      refine m_aload_n rfl rfl rfl ?_
      refine m_gix (k := 0) (x := 2) rfl rfl (Nat.le_of_ble_eq_true rfl) rfl rfl (by first | decide | assumption | (simp only [cnt]; omega)) rfl ?_
      refine m_if_ne (tgt := 51) rfl rfl rfl (by omega) (fun c34 => ?_) (fun c34 => ?_)
      · refine m_iconst rfl rfl ?_
        refine m_iret rfl rfl rfl (Nat.le_of_ble_eq_true rfl) (Nat.le_of_ble_eq_true rfl) ?_
        unfold moRes
        first | (rw [if_pos (by omega)]; exact ⟨rfl, rfl⟩) | (rw [if_neg (by omega), if_pos (by omega)]; exact ⟨rfl, rfl⟩) | (rw [if_neg (by omega), if_neg (by omega)]; exact ⟨rfl, rfl⟩)
      · exfalso; omega
  · refine m_iconst rfl rfl ?_
    refine m_goto (tgt := 27) rfl rfl rfl ?_
    refine m_pi (k := 0) rfl rfl (Nat.le_of_ble_eq_true rfl) rfl rfl rfl rfl (by first | decide | assumption | (simp only [cnt]; omega)) ?_
    refine m_aload_n rfl rfl rfl ?_
    refine m_gix (k := 0) (x := 1) rfl rfl (Nat.le_of_ble_eq_true rfl) rfl rfl (by first | decide | assumption | (simp only [cnt]; omega)) rfl ?_
    refine m_if_ne (tgt := 51) rfl rfl rfl (by omega) (fun c34 => ?_) (fun c34 => ?_)
    · refine m_iconst rfl rfl ?_
      refine m_iret rfl rfl rfl (Nat.le_of_ble_eq_true rfl) (Nat.le_of_ble_eq_true rfl) ?_
      unfold moRes
      first | (rw [if_pos (by omega)]; exact ⟨rfl, rfl⟩) | (rw [if_neg (by omega), if_pos (by omega)]; exact ⟨rfl, rfl⟩) | (rw [if_neg (by omega), if_neg (by omega)]; exact ⟨rfl, rfl⟩)
    · exfalso; omega

def moAvg (m : zkM) (x : Int) : UInt32 := FP.fdiv (FP.i2f (Int32.ofInt (m 40 0 x.toNat))) (FP.i2f (Int32.ofInt (m 39 0 (6 * x.toNat))))
def moAve (m : zkM) (x : Int) : UInt32 × zkM := if ¬ (0 ≤ x ∧ x ≤ m 7 0 2 - 1) then (FP.fconst0, mset m 7 0 0 1) else if m 39 0 (6 * x.toNat) = 0 then (FP.fconst0, mset m 7 0 0 2) else (moAvg m x, mset m 7 0 0 0)
set_option maxRecDepth 10000 in
theorem c_moaverage {l : Launch} {G : zkG} {mem : zkM} (hl : l.stackTraces = false) {x : Int} (hx : inR x) (hm : 0 ≤ mem 7 0 2 ∧ mem 7 0 2 ≤ 5) (hr : ∀ k, k < 30 → inR (mem 39 0 k)) (hN : 0 ≤ x ∧ x ≤ mem 7 0 2 - 1 → mem 39 0 (6 * x.toNat) ≠ 0 → vf_n32 (moAvg mem x)) : zkCt l G i_Mo_averageResponse 2 0 0 [vr 7 0, vi x] mem (zkR1 (vf (moAve mem x).1) (moAve mem x).2) := by
  refine zkCt_of hl ok_Mo_averageResponse (by decide +kernel) rfl rfl (List.forall_mem_cons.mpr ⟨rfl, (List.forall_mem_cons.mpr ⟨rfl, fun _ h => nomatch h⟩)⟩) (Nat.le_of_ble_eq_true rfl) ?_
  refine m_aload_n rfl rfl rfl ?_
  refine m_aload_n rfl rfl rfl ?_
  refine m_iload_n rfl rfl rfl ?_
  refine m_cv1 rfl rfl lk_7_121 (c_isTask hl (by omega) (by omega)) rfl (by first | decide | assumption | (simp only [cnt]; omega)) (Nat.le_of_ble_eq_true rfl) rfl rfl (Nat.le_of_ble_eq_true rfl) (Nat.le_of_ble_eq_true rfl) (Nat.le_of_ble_eq_true rfl) (Nat.le_of_ble_eq_true rfl) (Nat.le_of_ble_eq_true rfl) ?_
  refine m_if_ne_d (tgt := 13) rfl rfl rfl (fun c6 => ?_) (fun c6 => ?_)
  · have hr2 := hr (6 * x.toNat) (by omega)
    refine m_aload_n rfl rfl rfl ?_
    refine m_gr (k := 17) rfl rfl (Nat.le_of_ble_eq_true rfl) rfl rfl (by first | decide | assumption | (simp only [cnt]; omega)) ?_
    refine m_bipush rfl rfl (by decide) ?_
    refine m_iload_n rfl rfl rfl ?_
    refine m_imul rfl rfl ?_
    refine m_ialx (n := 6 * x.toNat) (y := mem 39 _ (6 * x.toNat)) rfl rfl (Nat.le_of_ble_eq_true rfl) rfl (by first | decide | assumption | (simp only [cnt]; omega)) (by omega) (by simp only [aln]; omega) rfl ?_
    refine m_if_ne (tgt := 29) rfl rfl rfl (by omega) (fun c22 => ?_) (fun c22 => ?_)
    · refine m_iconst rfl rfl ?_
      refine m_pi (k := 0) rfl rfl (Nat.le_of_ble_eq_true rfl) rfl rfl rfl rfl (by first | decide | assumption | (simp only [cnt]; omega)) ?_
      refine m_aload_n rfl rfl rfl ?_
      refine m_gix (k := 0) (x := 0) rfl rfl (Nat.le_of_ble_eq_true rfl) rfl rfl (by first | decide | assumption | (simp only [cnt]; omega)) rfl ?_
      refine m_if_ne (tgt := 61) rfl rfl rfl (by omega) (fun c37 => ?_) (fun c37 => ?_)
      · exfalso; omega
      · refine m_aload_n rfl rfl rfl ?_
        refine m_gr (k := 18) rfl rfl (Nat.le_of_ble_eq_true rfl) rfl rfl (by first | decide | assumption | (simp only [cnt]; omega)) ?_
        refine m_iload_n rfl rfl rfl ?_
        refine m_ialx (n := x.toNat) (y := mem 40 _ (x.toNat)) rfl rfl (Nat.le_of_ble_eq_true rfl) rfl (by first | decide | assumption | (simp only [cnt]; omega)) (by omega) (by simp only [aln]; omega) rfl ?_
        refine m_i2f rfl rfl ?_
        refine m_aload_n rfl rfl rfl ?_
        refine m_gr (k := 17) rfl rfl (Nat.le_of_ble_eq_true rfl) rfl rfl (by first | decide | assumption | (simp only [cnt]; omega)) ?_
        refine m_bipush rfl rfl (by decide) ?_
        refine m_iload_n rfl rfl rfl ?_
        refine m_imul rfl rfl ?_
        refine m_ialx (n := 6 * x.toNat) (y := mem 39 _ (6 * x.toNat)) rfl rfl (Nat.le_of_ble_eq_true rfl) rfl (by first | decide | assumption | (simp only [cnt]; omega)) (by omega) (by simp only [aln]; omega) rfl ?_
        refine m_i2f rfl rfl ?_
        refine m_fdiv rfl rfl (hN (by omega) (by omega)) ?_
        refine m_goto (tgt := 62) rfl rfl rfl ?_
        refine m_fret rfl rfl rfl (Nat.le_of_ble_eq_true rfl) (Nat.le_of_ble_eq_true rfl) ?_
        unfold moAve
        first | (rw [if_pos (by omega)]; exact ⟨rfl, rfl⟩) | (rw [if_neg (by omega), if_pos (by omega)]; exact ⟨rfl, rfl⟩) | (rw [if_neg (by omega), if_neg (by omega)]; exact ⟨rfl, rfl⟩)
    · refine m_iconst rfl rfl ?_
      refine m_goto (tgt := 30) rfl rfl rfl ?_
      refine m_pi (k := 0) rfl rfl (Nat.le_of_ble_eq_true rfl) rfl rfl rfl rfl (by first | decide | assumption | (simp only [cnt]; omega)) ?_
      refine m_aload_n rfl rfl rfl ?_
      refine m_gix (k := 0) (x := 2) rfl rfl (Nat.le_of_ble_eq_true rfl) rfl rfl (by first | decide | assumption | (simp only [cnt]; omega)) rfl ?_
      refine m_if_ne (tgt := 61) rfl rfl rfl (by omega) (fun c37 => ?_) (fun c37 => ?_)
      · refine m_fconst0 rfl rfl ?_
        refine m_fret rfl rfl rfl (Nat.le_of_ble_eq_true rfl) (Nat.le_of_ble_eq_true rfl) ?_
        unfold moAve
        first | (rw [if_pos (by omega)]; exact ⟨rfl, rfl⟩) | (rw [if_neg (by omega), if_pos (by omega)]; exact ⟨rfl, rfl⟩) | (rw [if_neg (by omega), if_neg (by omega)]; exact ⟨rfl, rfl⟩)
      · exfalso; omega
  · refine m_iconst rfl rfl ?_
    refine m_goto (tgt := 30) rfl rfl rfl ?_
    refine m_pi (k := 0) rfl rfl (Nat.le_of_ble_eq_true rfl) rfl rfl rfl rfl (by first | decide | assumption | (simp only [cnt]; omega)) ?_
    refine m_aload_n rfl rfl rfl ?_
    refine m_gix (k := 0) (x := 1) rfl rfl (Nat.le_of_ble_eq_true rfl) rfl rfl (by first | decide | assumption | (simp only [cnt]; omega)) rfl ?_
    refine m_if_ne (tgt := 61) rfl rfl rfl (by omega) (fun c37 => ?_) (fun c37 => ?_)
    · refine m_fconst0 rfl rfl ?_
      refine m_fret rfl rfl rfl (Nat.le_of_ble_eq_true rfl) (Nat.le_of_ble_eq_true rfl) ?_
      unfold moAve
      first | (rw [if_pos (by omega)]; exact ⟨rfl, rfl⟩) | (rw [if_neg (by omega), if_pos (by omega)]; exact ⟨rfl, rfl⟩) | (rw [if_neg (by omega), if_neg (by omega)]; exact ⟨rfl, rfl⟩)
    · exfalso; omega

def moBal (m : zkM) : Int × zkM := if 0 < m 7 0 6 then (m 7 0 19, mset m 7 0 0 0) else (0, mset (mset m 7 0 0 0) 7 0 0 1)
set_option maxRecDepth 10000 in
theorem c_mobalance {l : Launch} {G : zkG} {mem : zkM} (hl : l.stackTraces = false) (h6 : inR (mem 7 0 6)) : zkCt l G i_Mo_balance 1 0 0 [vr 7 0] mem (zkR1 (vi (moBal mem).1) (moBal mem).2) := by
  refine zkCt_of hl ok_Mo_balance (by decide +kernel) rfl rfl (List.forall_mem_cons.mpr ⟨rfl, fun _ h => nomatch h⟩) (Nat.le_of_ble_eq_true rfl) ?_
  refine m_aload_n rfl rfl rfl ?_
  refine m_iconst rfl rfl ?_
  refine m_pi (k := 0) rfl rfl (Nat.le_of_ble_eq_true rfl) rfl rfl rfl rfl (by first | decide | assumption | (simp only [cnt]; omega)) ?_
  refine m_aload_n rfl rfl rfl ?_
  refine m_cv1 rfl rfl lk_7_124 (show zkCt l G i_Mo_hasServer _ 0 0 _ _ (zkR1 (vi (b2i (decide (0 < mem 7 0 6)))) _) from c_hasServer hl (show inR (mem 7 0 6) by omega)) rfl (by first | decide | assumption | (simp only [cnt]; omega)) (Nat.le_of_ble_eq_true rfl) rfl rfl (Nat.le_of_ble_eq_true rfl) (Nat.le_of_ble_eq_true rfl) (Nat.le_of_ble_eq_true rfl) (Nat.le_of_ble_eq_true rfl) (Nat.le_of_ble_eq_true rfl) ?_
  refine m_if_eq_d (tgt := 19) rfl rfl rfl (fun c9 => ?_) (fun c9 => ?_)
  · refine m_aload_n rfl rfl rfl ?_
    refine m_iconst rfl rfl ?_
    refine m_cv1 rfl rfl lk_7_114 (c_fail hl) rfl (by first | decide | assumption | (simp only [cnt]; omega)) (Nat.le_of_ble_eq_true rfl) rfl rfl (Nat.le_of_ble_eq_true rfl) (Nat.le_of_ble_eq_true rfl) (Nat.le_of_ble_eq_true rfl) (Nat.le_of_ble_eq_true rfl) (Nat.le_of_ble_eq_true rfl) ?_
    refine m_iret rfl rfl rfl (Nat.le_of_ble_eq_true rfl) (Nat.le_of_ble_eq_true rfl) ?_
    unfold moBal
    first | (rw [if_pos (by omega)]; exact ⟨rfl, rfl⟩) | (rw [if_neg (by omega)]; exact ⟨rfl, rfl⟩)
  · refine m_aload_n rfl rfl rfl ?_
    refine m_gix (k := 19) (x := mem 7 _ 19) rfl rfl (Nat.le_of_ble_eq_true rfl) rfl rfl (by first | decide | assumption | (simp only [cnt]; omega)) rfl ?_
    refine m_goto (tgt := 24) rfl rfl rfl ?_
    refine m_iret rfl rfl rfl (Nat.le_of_ble_eq_true rfl) (Nat.le_of_ble_eq_true rfl) ?_
    unfold moBal
    first | (rw [if_pos (by omega)]; exact ⟨rfl, rfl⟩) | (rw [if_neg (by omega)]; exact ⟨rfl, rfl⟩)

def moNf (m : zkM) (k : Nat) (nx : Int) : Int := if nx = -1 then m 43 0 (2 * k) else min nx (m 43 0 (2 * k))
def moNr (m : zkM) : Int := lp (moNf m) (m 7 0 26).toNat (-1)
def moNex (m : zkM) : Int × zkM := if ¬ 0 < m 7 0 6 then (0, mset (mset m 7 0 0 0) 7 0 0 1) else if moNr m = -1 then (0, mset (mset m 7 0 0 0) 7 0 0 2) else (moNr m, mset m 7 0 0 0)
theorem moNf_b {m : zkM} (h : ∀ k, k < 800 → inR (m 43 0 k)) {k : Nat} (hk : k < 400) {s : Int} (hs : inR s) : inR (moNf m k s) := by
  have := h (2 * k) (by omega)
  unfold moNf
  split <;> omega
set_option maxRecDepth 10000 in
theorem c_monext {l : Launch} {G : zkG} {mem : zkM} (hl : l.stackTraces = false) (h6 : inR (mem 7 0 6)) (h26 : 0 ≤ mem 7 0 26 ∧ mem 7 0 26 ≤ 399) (hp : ∀ k, k < 800 → inR (mem 43 0 k)) : zkCt l G i_Mo_nextReplenishment 1 0 0 [vr 7 0] mem (zkR1 (vi (moNex mem).1) (moNex mem).2) := by
  refine zkCt_of hl ok_Mo_nextReplenishment (by decide +kernel) rfl rfl (List.forall_mem_cons.mpr ⟨rfl, fun _ h => nomatch h⟩) (Nat.le_of_ble_eq_true rfl) ?_
  refine m_aload_n rfl rfl rfl ?_
  refine m_iconst rfl rfl ?_
  refine m_pi (k := 0) rfl rfl (Nat.le_of_ble_eq_true rfl) rfl rfl rfl rfl (by first | decide | assumption | (simp only [cnt]; omega)) ?_
  refine m_aload_n rfl rfl rfl ?_
  refine m_cv1 rfl rfl lk_7_124 (show zkCt l G i_Mo_hasServer _ 0 0 _ _ (zkR1 (vi (b2i (decide (0 < mem 7 0 6)))) _) from c_hasServer hl (show inR (mem 7 0 6) by omega)) rfl (by first | decide | assumption | (simp only [cnt]; omega)) (Nat.le_of_ble_eq_true rfl) rfl rfl (Nat.le_of_ble_eq_true rfl) (Nat.le_of_ble_eq_true rfl) (Nat.le_of_ble_eq_true rfl) (Nat.le_of_ble_eq_true rfl) (Nat.le_of_ble_eq_true rfl) ?_
  refine m_if_ne_d (tgt := 18) rfl rfl rfl (fun c9 => ?_) (fun c9 => ?_)
  · refine m_iconst rfl rfl ?_
    refine m_istore_n rfl rfl (Nat.le_of_ble_eq_true rfl) rfl ?_
    refine m_iconst rfl rfl ?_
    refine m_istore_n rfl rfl (Nat.le_of_ble_eq_true rfl) rfl ?_
    refine zk_loop (P := fun (j : Nat) (s : Int) => zkW l G i_Mo_nextReplenishment _ 0 0 22 [some (vr 7 0), some (vi s), some (vi j)] [] (mset mem 7 0 0 0)) (I := fun _ s => inR s) (moNf mem) (mem 7 0 26).toNat (-1) (by omega) (fun j s hj hI => moNf_b hp (by omega) hI) (fun j s hj hI hk => ?_) (fun hI => ?_)
    · have h3 := hp (2 * j) (by omega)
      unfold moNf at hk
      refine m_iload_n rfl rfl rfl ?_
      refine m_aload_n rfl rfl rfl ?_
      refine m_gix (k := 26) (x := mem 7 _ 26) rfl rfl (Nat.le_of_ble_eq_true rfl) rfl rfl (by first | decide | assumption | (simp only [cnt]; omega)) rfl ?_
      refine m_icmp_ge (tgt := 65) rfl rfl rfl (by omega) (by omega) (fun c27 => ?_) (fun c27 => ?_)
      · exfalso; omega
      · refine m_iload_n rfl rfl rfl ?_
        refine m_iconst rfl rfl ?_
        refine m_icmp_ne (tgt := 46) rfl rfl rfl (by omega) (by omega) (fun c32 => ?_) (fun c32 => ?_)
        · refine m_iload_n rfl rfl rfl ?_
          refine m_aload_n rfl rfl rfl ?_
          refine m_gr (k := 25) rfl rfl (Nat.le_of_ble_eq_true rfl) rfl rfl (by first | decide | assumption | (simp only [cnt]; omega)) ?_
          refine m_iconst rfl rfl ?_
          refine m_iload_n rfl rfl rfl ?_
          refine m_imul rfl rfl ?_
          refine m_ialx (n := 2 * j) (y := mem 43 _ (2 * j)) rfl rfl (Nat.le_of_ble_eq_true rfl) rfl (by first | decide | assumption | (simp only [cnt]; omega)) (by omega) (by simp only [aln]; omega) rfl ?_
          refine m_min rfl rfl (by decide +kernel) (by omega) (by omega) (Nat.le_of_ble_eq_true rfl) (Nat.le_of_ble_eq_true rfl) (Nat.le_of_ble_eq_true rfl) (Nat.le_of_ble_eq_true rfl) ?_
          refine m_istore_n rfl rfl (Nat.le_of_ble_eq_true rfl) rfl ?_
          refine m_iinc rfl rfl rfl (Nat.le_of_ble_eq_true rfl) rfl ?_
          refine m_goto (tgt := 22) rfl rfl rfl ?_
          first | (rw [if_pos (by omega)] at hk; exact hk) | (rw [if_neg (by omega)] at hk; exact hk)
        · refine m_aload_n rfl rfl rfl ?_
          refine m_gr (k := 25) rfl rfl (Nat.le_of_ble_eq_true rfl) rfl rfl (by first | decide | assumption | (simp only [cnt]; omega)) ?_
          refine m_iconst rfl rfl ?_
          refine m_iload_n rfl rfl rfl ?_
          refine m_imul rfl rfl ?_
          refine m_ialx (n := 2 * j) (y := mem 43 _ (2 * j)) rfl rfl (Nat.le_of_ble_eq_true rfl) rfl (by first | decide | assumption | (simp only [cnt]; omega)) (by omega) (by simp only [aln]; omega) rfl ?_
          refine m_goto (tgt := 58) rfl rfl rfl ?_
          refine m_istore_n rfl rfl (Nat.le_of_ble_eq_true rfl) rfl ?_
          refine m_iinc rfl rfl rfl (Nat.le_of_ble_eq_true rfl) rfl ?_
          refine m_goto (tgt := 22) rfl rfl rfl ?_
          first | (rw [if_pos (by omega)] at hk; exact hk) | (rw [if_neg (by omega)] at hk; exact hk)
    · have e9 : moNr mem = lp (moNf mem) (mem 7 0 26).toNat (-1) := rfl
      rw [← e9] at hI ⊢
      refine m_iload_n rfl rfl rfl ?_
      refine m_aload_n rfl rfl rfl ?_
      refine m_gix (k := 26) (x := mem 7 _ 26) rfl rfl (Nat.le_of_ble_eq_true rfl) rfl rfl (by first | decide | assumption | (simp only [cnt]; omega)) rfl ?_
      refine m_icmp_ge (tgt := 65) rfl rfl rfl (by omega) (by omega) (fun c27 => ?_) (fun c27 => ?_)
      · refine m_iload_n rfl rfl rfl ?_
        refine m_iconst rfl rfl ?_
        refine m_icmp_ne (tgt := 78) rfl rfl rfl (by omega) (by omega) (fun c67 => ?_) (fun c67 => ?_)
        · refine m_iload_n rfl rfl rfl ?_
          refine m_iret rfl rfl rfl (Nat.le_of_ble_eq_true rfl) (Nat.le_of_ble_eq_true rfl) ?_
          unfold moNex
          first | (rw [if_neg (by omega), if_pos (by omega)]; exact ⟨rfl, rfl⟩) | (rw [if_neg (by omega), if_neg (by omega)]; exact ⟨rfl, rfl⟩)
        · refine m_aload_n rfl rfl rfl ?_
          refine m_iconst rfl rfl ?_
          refine m_cv1 rfl rfl lk_7_114 (c_fail hl) rfl (by first | decide | assumption | (simp only [cnt]; omega)) (Nat.le_of_ble_eq_true rfl) rfl rfl (Nat.le_of_ble_eq_true rfl) (Nat.le_of_ble_eq_true rfl) (Nat.le_of_ble_eq_true rfl) (Nat.le_of_ble_eq_true rfl) (Nat.le_of_ble_eq_true rfl) ?_
          refine m_goto (tgt := 79) rfl rfl rfl ?_
          refine m_iret rfl rfl rfl (Nat.le_of_ble_eq_true rfl) (Nat.le_of_ble_eq_true rfl) ?_
          unfold moNex
          first | (rw [if_neg (by omega), if_pos (by omega)]; exact ⟨rfl, rfl⟩) | (rw [if_neg (by omega), if_neg (by omega)]; exact ⟨rfl, rfl⟩)
      · exfalso; omega
  · refine m_aload_n rfl rfl rfl ?_
    refine m_iconst rfl rfl ?_
    refine m_cv1 rfl rfl lk_7_114 (c_fail hl) rfl (by first | decide | assumption | (simp only [cnt]; omega)) (Nat.le_of_ble_eq_true rfl) rfl rfl (Nat.le_of_ble_eq_true rfl) (Nat.le_of_ble_eq_true rfl) (Nat.le_of_ble_eq_true rfl) (Nat.le_of_ble_eq_true rfl) (Nat.le_of_ble_eq_true rfl) ?_
    refine m_iret rfl rfl rfl (Nat.le_of_ble_eq_true rfl) (Nat.le_of_ble_eq_true rfl) ?_
    unfold moNex
    first | (rw [if_pos (by omega)]; exact ⟨rfl, rfl⟩)

def moRq (m : zkM) (x : Int) : Int × zkM := if ¬ (0 ≤ x ∧ x ≤ m 7 0 9 - 1) then (0, mset m 7 0 0 1) else if m 42 0 x.toNat = -1 then (0, mset m 7 0 0 2) else (m 42 0 x.toNat - m 33 0 (2 * x.toNat), mset m 7 0 0 0)
set_option maxRecDepth 10000 in
theorem c_moreqresp {l : Launch} {G : zkG} {mem : zkM} (hl : l.stackTraces = false) {x : Int} (hx : inR x) (h9 : 0 ≤ mem 7 0 9 ∧ mem 7 0 9 ≤ 12) (hf : ∀ r, r < 12 → inR (mem 42 0 r)) : zkCt l G i_Mo_requestResponse 1 0 0 [vr 7 0, vi x] mem (zkR1 (vi (moRq mem x).1) (moRq mem x).2) := by
  refine zkCt_of hl ok_Mo_requestResponse (by decide +kernel) rfl rfl (List.forall_mem_cons.mpr ⟨rfl, (List.forall_mem_cons.mpr ⟨rfl, fun _ h => nomatch h⟩)⟩) (Nat.le_of_ble_eq_true rfl) ?_
  refine m_aload_n rfl rfl rfl ?_
  refine m_iload_n rfl rfl rfl ?_
  refine m_iconst rfl rfl ?_
  refine m_aload_n rfl rfl rfl ?_
  refine m_gix (k := 9) (x := mem 7 _ 9) rfl rfl (Nat.le_of_ble_eq_true rfl) rfl rfl (by first | decide | assumption | (simp only [cnt]; omega)) rfl ?_
  refine m_iconst rfl rfl ?_
  refine m_isub rfl rfl ?_
  refine m_cs1 rfl rfl lk_7_75 (c_isIn hl (by omega) (by omega) (by omega)) rfl rfl (Nat.le_of_ble_eq_true rfl) (Nat.le_of_ble_eq_true rfl) (Nat.le_of_ble_eq_true rfl) (Nat.le_of_ble_eq_true rfl) (Nat.le_of_ble_eq_true rfl) ?_
  refine m_if_ne_d (tgt := 19) rfl rfl rfl (fun c12 => ?_) (fun c12 => ?_)
  · have hf2 := hf x.toNat (by omega)
    refine m_aload_n rfl rfl rfl ?_
    refine m_gr (k := 24) rfl rfl (Nat.le_of_ble_eq_true rfl) rfl rfl (by first | decide | assumption | (simp only [cnt]; omega)) ?_
    refine m_iload_n rfl rfl rfl ?_
    refine m_ialx (n := x.toNat) (y := mem 42 _ (x.toNat)) rfl rfl (Nat.le_of_ble_eq_true rfl) rfl (by first | decide | assumption | (simp only [cnt]; omega)) (by omega) (by simp only [aln]; omega) rfl ?_
    refine m_iconst rfl rfl ?_
    refine m_icmp_ne (tgt := 33) rfl rfl rfl (by omega) (by omega) (fun c26 => ?_) (fun c26 => ?_)
    · refine m_iconst rfl rfl ?_
      refine m_pi (k := 0) rfl rfl (Nat.le_of_ble_eq_true rfl) rfl rfl rfl rfl (by first | decide | assumption | (simp only [cnt]; omega)) ?_
      refine m_aload_n rfl rfl rfl ?_
      refine m_gix (k := 0) (x := 0) rfl rfl (Nat.le_of_ble_eq_true rfl) rfl rfl (by first | decide | assumption | (simp only [cnt]; omega)) rfl ?_
      refine m_if_ne (tgt := 62) rfl rfl rfl (by omega) (fun c41 => ?_) (fun c41 => ?_)
      · exfalso; omega
      · refine m_aload_n rfl rfl rfl ?_
        refine m_gr (k := 24) rfl rfl (Nat.le_of_ble_eq_true rfl) rfl rfl (by first | decide | assumption | (simp only [cnt]; omega)) ?_
        refine m_iload_n rfl rfl rfl ?_
        refine m_ialx (n := x.toNat) (y := mem 42 _ (x.toNat)) rfl rfl (Nat.le_of_ble_eq_true rfl) rfl (by first | decide | assumption | (simp only [cnt]; omega)) (by omega) (by simp only [aln]; omega) rfl ?_
        refine m_aload_n rfl rfl rfl ?_
        refine m_gr (k := 10) rfl rfl (Nat.le_of_ble_eq_true rfl) rfl rfl (by first | decide | assumption | (simp only [cnt]; omega)) ?_
        refine m_iconst rfl rfl ?_
        refine m_iload_n rfl rfl rfl ?_
        refine m_imul rfl rfl ?_
        refine m_ialx (n := 2 * x.toNat) (y := mem 33 _ (2 * x.toNat)) rfl rfl (Nat.le_of_ble_eq_true rfl) rfl (by first | decide | assumption | (simp only [cnt]; omega)) (by omega) (by simp only [aln]; omega) rfl ?_
        refine m_isub rfl rfl ?_
        refine m_goto (tgt := 63) rfl rfl rfl ?_
        refine m_iret rfl rfl rfl (Nat.le_of_ble_eq_true rfl) (Nat.le_of_ble_eq_true rfl) ?_
        unfold moRq
        first | (rw [if_pos (by omega)]; exact ⟨rfl, rfl⟩) | (rw [if_neg (by omega), if_pos (by omega)]; exact ⟨rfl, rfl⟩) | (rw [if_neg (by omega), if_neg (by omega)]; exact ⟨rfl, rfl⟩)
    · refine m_iconst rfl rfl ?_
      refine m_goto (tgt := 34) rfl rfl rfl ?_
      refine m_pi (k := 0) rfl rfl (Nat.le_of_ble_eq_true rfl) rfl rfl rfl rfl (by first | decide | assumption | (simp only [cnt]; omega)) ?_
      refine m_aload_n rfl rfl rfl ?_
      refine m_gix (k := 0) (x := 2) rfl rfl (Nat.le_of_ble_eq_true rfl) rfl rfl (by first | decide | assumption | (simp only [cnt]; omega)) rfl ?_
      refine m_if_ne (tgt := 62) rfl rfl rfl (by omega) (fun c41 => ?_) (fun c41 => ?_)
      · refine m_iconst rfl rfl ?_
        refine m_iret rfl rfl rfl (Nat.le_of_ble_eq_true rfl) (Nat.le_of_ble_eq_true rfl) ?_
        unfold moRq
        first | (rw [if_pos (by omega)]; exact ⟨rfl, rfl⟩) | (rw [if_neg (by omega), if_pos (by omega)]; exact ⟨rfl, rfl⟩) | (rw [if_neg (by omega), if_neg (by omega)]; exact ⟨rfl, rfl⟩)
      · exfalso; omega
  · refine m_iconst rfl rfl ?_
    refine m_goto (tgt := 34) rfl rfl rfl ?_
    refine m_pi (k := 0) rfl rfl (Nat.le_of_ble_eq_true rfl) rfl rfl rfl rfl (by first | decide | assumption | (simp only [cnt]; omega)) ?_
    refine m_aload_n rfl rfl rfl ?_
    refine m_gix (k := 0) (x := 1) rfl rfl (Nat.le_of_ble_eq_true rfl) rfl rfl (by first | decide | assumption | (simp only [cnt]; omega)) rfl ?_
    refine m_if_ne (tgt := 62) rfl rfl rfl (by omega) (fun c41 => ?_) (fun c41 => ?_)
    · refine m_iconst rfl rfl ?_
      refine m_iret rfl rfl rfl (Nat.le_of_ble_eq_true rfl) (Nat.le_of_ble_eq_true rfl) ?_
      unfold moRq
      first | (rw [if_pos (by omega)]; exact ⟨rfl, rfl⟩) | (rw [if_neg (by omega), if_pos (by omega)]; exact ⟨rfl, rfl⟩) | (rw [if_neg (by omega), if_neg (by omega)]; exact ⟨rfl, rfl⟩)
    · exfalso; omega

def moUs (m : zkM) : Int := lp (fun t s => s + (if m 34 0 t = -1 then 0 else 1)) (m 7 0 11).toNat 0
def moUr (m : zkM) : UInt64 := FP.ddiv (FP.i2d (Int32.ofInt (moUs m))) (FP.i2d (Int32.ofInt (m 7 0 11)))
def moUtil (m : zkM) : UInt64 × zkM := if m 7 0 11 = 0 then (FP.i2d (Int32.ofInt 0), mset (mset m 7 0 0 0) 7 0 0 1) else (moUr m, mset m 7 0 0 0)
set_option maxRecDepth 10000 in
theorem c_moutil {l : Launch} {G : zkG} {mem : zkM} (hl : l.stackTraces = false) (hc : 0 ≤ mem 7 0 11 ∧ mem 7 0 11 ≤ 400) (hr : ∀ k, k < 400 → inR (mem 34 0 k)) (hN : mem 7 0 11 ≠ 0 → vf_n64 (moUr mem)) : zkCt l G i_Mo_utilization 1 0 0 [vr 7 0] mem (zkR1 (vd (moUtil mem).1) (moUtil mem).2) := by
  refine zkCt_of hl ok_Mo_utilization (by decide +kernel) rfl rfl (List.forall_mem_cons.mpr ⟨rfl, fun _ h => nomatch h⟩) (Nat.le_of_ble_eq_true rfl) ?_
  refine m_aload_n rfl rfl rfl ?_
  refine m_iconst rfl rfl ?_
  refine m_pi (k := 0) rfl rfl (Nat.le_of_ble_eq_true rfl) rfl rfl rfl rfl (by first | decide | assumption | (simp only [cnt]; omega)) ?_
  refine m_iconst rfl rfl ?_
  refine m_istore_n rfl rfl (Nat.le_of_ble_eq_true rfl) rfl ?_
  refine m_iconst rfl rfl ?_
  refine m_istore_n rfl rfl (Nat.le_of_ble_eq_true rfl) rfl ?_
  refine zk_loop (P := fun (j : Nat) (s : Int) => zkW l G i_Mo_utilization _ 0 0 9 [some (vr 7 0), some (vi s), some (vi j)] [] (mset mem 7 0 0 0)) (I := fun _ _ => True) (fun t s => s + (if mem 34 0 t = -1 then 0 else 1)) (mem 7 0 11).toNat 0 trivial (fun _ _ _ _ => trivial) (fun j s hj _ hk => ?_) (fun _ => ?_)
  · have h3 := hr j (by omega)
    refine m_iload_n rfl rfl rfl ?_
    refine m_aload_n rfl rfl rfl ?_
    refine m_gix (k := 11) (x := mem 7 _ 11) rfl rfl (Nat.le_of_ble_eq_true rfl) rfl rfl (by first | decide | assumption | (simp only [cnt]; omega)) rfl ?_
    refine m_icmp_ge (tgt := 41) rfl rfl rfl (by omega) (by omega) (fun c14 => ?_) (fun c14 => ?_)
    · exfalso; omega
    · refine m_iload_n rfl rfl rfl ?_
      refine m_aload_n rfl rfl rfl ?_
      refine m_gr (k := 12) rfl rfl (Nat.le_of_ble_eq_true rfl) rfl rfl (by first | decide | assumption | (simp only [cnt]; omega)) ?_
      refine m_iload_n rfl rfl rfl ?_
      refine m_ialx (n := j) (y := mem 34 _ (j)) rfl rfl (Nat.le_of_ble_eq_true rfl) rfl (by first | decide | assumption | (simp only [cnt]; omega)) (by omega) (by simp only [aln]; omega) rfl ?_
      refine m_iconst rfl rfl ?_
      refine m_icmp_ne (tgt := 32) rfl rfl rfl (by omega) (by omega) (fun c25 => ?_) (fun c25 => ?_)
      · refine m_iconst rfl rfl ?_
        refine m_iadd rfl rfl ?_
        refine m_istore_n rfl rfl (Nat.le_of_ble_eq_true rfl) rfl ?_
        refine m_iinc rfl rfl rfl (Nat.le_of_ble_eq_true rfl) rfl ?_
        refine m_goto (tgt := 9) rfl rfl rfl ?_
        first | (rw [if_pos (by omega)] at hk; exact hk) | (rw [if_neg (by omega)] at hk; exact hk)
      · refine m_iconst rfl rfl ?_
        refine m_goto (tgt := 33) rfl rfl rfl ?_
        refine m_iadd rfl rfl ?_
        refine m_istore_n rfl rfl (Nat.le_of_ble_eq_true rfl) rfl ?_
        refine m_iinc rfl rfl rfl (Nat.le_of_ble_eq_true rfl) rfl ?_
        refine m_goto (tgt := 9) rfl rfl rfl ?_
        first | (rw [if_pos (by omega)] at hk; exact hk) | (rw [if_neg (by omega)] at hk; exact hk)
  · refine m_iload_n rfl rfl rfl ?_
    refine m_aload_n rfl rfl rfl ?_
    refine m_gix (k := 11) (x := mem 7 _ 11) rfl rfl (Nat.le_of_ble_eq_true rfl) rfl rfl (by first | decide | assumption | (simp only [cnt]; omega)) rfl ?_
    refine m_icmp_ge (tgt := 41) rfl rfl rfl (by omega) (by omega) (fun c14 => ?_) (fun c14 => ?_)
    · refine m_aload_n rfl rfl rfl ?_
      refine m_gix (k := 11) (x := mem 7 _ 11) rfl rfl (Nat.le_of_ble_eq_true rfl) rfl rfl (by first | decide | assumption | (simp only [cnt]; omega)) rfl ?_
      refine m_if_ne (tgt := 57) rfl rfl rfl (by omega) (fun c45 => ?_) (fun c45 => ?_)
      · refine m_iload_n rfl rfl rfl ?_
        refine m_i2d rfl rfl ?_
        refine m_aload_n rfl rfl rfl ?_
        refine m_gix (k := 11) (x := mem 7 _ 11) rfl rfl (Nat.le_of_ble_eq_true rfl) rfl rfl (by first | decide | assumption | (simp only [cnt]; omega)) rfl ?_
        refine m_i2d rfl rfl ?_
        refine m_ddiv rfl rfl (hN (by omega)) ?_
        refine m_dret rfl rfl rfl (Nat.le_of_ble_eq_true rfl) (Nat.le_of_ble_eq_true rfl) ?_
        unfold moUtil
        first | (rw [if_pos (by omega)]; exact ⟨rfl, rfl⟩) | (rw [if_neg (by omega)]; exact ⟨rfl, rfl⟩)
      · refine m_aload_n rfl rfl rfl ?_
        refine m_iconst rfl rfl ?_
        refine m_cv1 rfl rfl lk_7_114 (c_fail hl) rfl (by first | decide | assumption | (simp only [cnt]; omega)) (Nat.le_of_ble_eq_true rfl) rfl rfl (Nat.le_of_ble_eq_true rfl) (Nat.le_of_ble_eq_true rfl) (Nat.le_of_ble_eq_true rfl) (Nat.le_of_ble_eq_true rfl) (Nat.le_of_ble_eq_true rfl) ?_
        refine m_i2d rfl rfl ?_
        refine m_goto (tgt := 65) rfl rfl rfl ?_
        refine m_dret rfl rfl rfl (Nat.le_of_ble_eq_true rfl) (Nat.le_of_ble_eq_true rfl) ?_
        unfold moUtil
        first | (rw [if_pos (by omega)]; exact ⟨rfl, rfl⟩) | (rw [if_neg (by omega)]; exact ⟨rfl, rfl⟩)
    · exfalso; omega

def dDiv (a b : Int) : UInt64 := FP.ddiv (FP.i2d (Int32.ofInt a)) (FP.i2d (Int32.ofInt b))
def moLf (m : zkM) (k : Nat) (s : UInt64) : UInt64 := FP.dadd s (dDiv (moDe m k) (moPe m k))
def moL0 (m : zkM) : UInt64 := lp (moLf m) (moN m) FP.dconst0
def moLoad (m : zkM) : UInt64 := if 0 < m 7 0 6 then FP.dadd (moL0 m) (dDiv (m 7 0 7) (m 7 0 8)) else moL0 m
def moLok (m : zkM) : Prop := (∀ j, j < moN m → vf_n64 (dDiv (moDe m j) (moPe m j)) ∧ vf_n64 (moLf m j (lp (moLf m) j FP.dconst0))) ∧ (0 < m 7 0 6 → vf_n64 (dDiv (m 7 0 7) (m 7 0 8)) ∧ vf_n64 (FP.dadd (moL0 m) (dDiv (m 7 0 7) (m 7 0 8))))
def moHfy (m : zkM) (k : Nat) (s : UInt64) : UInt64 := FP.dmul s (FP.dadd (dDiv (moDe m k) (moPe m k)) FP.dconst1)
def moH0 (m : zkM) : UInt64 := lp (moHfy m) (moN m) FP.dconst1
def moHyp (m : zkM) : UInt64 := if 0 < m 7 0 6 then FP.dmul (moH0 m) (FP.dadd (dDiv (m 7 0 7) (m 7 0 8)) FP.dconst1) else moH0 m
def moHok (m : zkM) : Prop := (∀ j, j < moN m → vf_n64 (dDiv (moDe m j) (moPe m j)) ∧ vf_n64 (FP.dadd (dDiv (moDe m j) (moPe m j)) FP.dconst1) ∧ vf_n64 (moHfy m j (lp (moHfy m) j FP.dconst1))) ∧ (0 < m 7 0 6 → vf_n64 (dDiv (m 7 0 7) (m 7 0 8)) ∧ vf_n64 (FP.dadd (dDiv (m 7 0 7) (m 7 0 8)) FP.dconst1) ∧ vf_n64 (FP.dmul (moH0 m) (FP.dadd (dDiv (m 7 0 7) (m 7 0 8)) FP.dconst1)))
set_option maxRecDepth 10000 in
theorem c_moload {l : Launch} {G : zkG} {mem : zkM} (hl : l.stackTraces = false) (hA : moA mem) (hN : moLok mem) : zkCt l G i_Mo_load 2 0 0 [vr 7 0] mem (zkR1 (vd (moLoad mem)) (mset mem 7 0 0 0)) := by
  refine zkCt_of hl ok_Mo_load (by decide +kernel) rfl rfl (List.forall_mem_cons.mpr ⟨rfl, fun _ h => nomatch h⟩) (Nat.le_of_ble_eq_true rfl) ?_
  have hn := moA_n hA
  have h6 := hA.2.2.2.2.2.1
  refine m_aload_n rfl rfl rfl ?_
  refine m_iconst rfl rfl ?_
  refine m_pi (k := 0) rfl rfl (Nat.le_of_ble_eq_true rfl) rfl rfl rfl rfl (by first | decide | assumption | (simp only [cnt]; omega)) ?_
  refine m_dconst0 rfl rfl ?_
  refine m_dstore_n rfl rfl (Nat.le_of_ble_eq_true rfl) rfl ?_
  refine m_iconst rfl rfl ?_
  refine m_istore_n rfl rfl (Nat.le_of_ble_eq_true rfl) rfl ?_
  refine zk_loop (P := fun (j : Nat) (s : UInt64) => zkW l G i_Mo_load _ 0 0 9 [some (vr 7 0), some (vd s), none, some (vi j)] [] (mset mem 7 0 0 0)) (I := fun j s => s = lp (moLf mem) j FP.dconst0) (moLf mem) (moN mem) FP.dconst0 rfl (fun j s hj hs => by rw [hs]; rfl) (fun j s hj hq hk => ?_) (fun _ => ?_)
  · refine m_iload_n rfl rfl rfl ?_
    refine m_aload_n rfl rfl rfl ?_
    refine m_gix (k := 2) (x := mem 7 _ 2) rfl rfl (Nat.le_of_ble_eq_true rfl) rfl rfl (by first | decide | assumption | (simp only [cnt]; omega)) rfl ?_
    refine m_icmp_ge (tgt := 39) rfl rfl rfl (by omega) (by omega) (fun c14 => ?_) (fun c14 => ?_)
    · exfalso; omega
    · refine m_dload_n rfl rfl rfl ?_
      refine m_aload_n rfl rfl rfl ?_
      refine m_iload_n rfl rfl rfl ?_
      refine m_cv1 rfl rfl lk_7_131 (show zkCt l G i_Mo_demandOf _ 0 0 _ _ (zkR1 (vi (moDe mem j)) _) from c_demandOf hl (show moA _ from hA) (i := j) rfl (by omega)) rfl (by first | decide | assumption | (simp only [cnt]; omega)) (Nat.le_of_ble_eq_true rfl) rfl rfl (Nat.le_of_ble_eq_true rfl) (Nat.le_of_ble_eq_true rfl) (Nat.le_of_ble_eq_true rfl) (Nat.le_of_ble_eq_true rfl) (Nat.le_of_ble_eq_true rfl) ?_
      refine m_i2d rfl rfl ?_
      refine m_aload_n rfl rfl rfl ?_
      refine m_iload_n rfl rfl rfl ?_
      refine m_cv1 rfl rfl lk_7_148 (show zkCt l G i_Mo_periodOf _ 0 0 _ _ (zkR1 (vi (moPe mem j)) _) from c_periodOf hl (i := j) rfl (by omega)) rfl (by first | decide | assumption | (simp only [cnt]; omega)) (Nat.le_of_ble_eq_true rfl) rfl rfl (Nat.le_of_ble_eq_true rfl) (Nat.le_of_ble_eq_true rfl) (Nat.le_of_ble_eq_true rfl) (Nat.le_of_ble_eq_true rfl) (Nat.le_of_ble_eq_true rfl) ?_
      refine m_i2d rfl rfl ?_
      refine m_ddiv rfl rfl (hN.1 j hj).1 ?_
      refine m_dadd rfl rfl (by rw [hq]; exact (hN.1 j hj).2) ?_
      refine m_dstore_n rfl rfl (Nat.le_of_ble_eq_true rfl) rfl ?_
      refine m_iinc rfl rfl rfl (Nat.le_of_ble_eq_true rfl) rfl ?_
      refine m_goto (tgt := 9) rfl rfl rfl ?_
      exact hk
  · refine m_iload_n rfl rfl rfl ?_
    refine m_aload_n rfl rfl rfl ?_
    refine m_gix (k := 2) (x := mem 7 _ 2) rfl rfl (Nat.le_of_ble_eq_true rfl) rfl rfl (by first | decide | assumption | (simp only [cnt]; omega)) rfl ?_
    refine m_icmp_ge (tgt := 39) rfl rfl rfl (by omega) (by omega) (fun c14 => ?_) (fun c14 => ?_)
    · refine m_aload_n rfl rfl rfl ?_
      refine m_cv1 rfl rfl lk_7_124 (show zkCt l G i_Mo_hasServer _ 0 0 _ _ (zkR1 (vi (b2i (decide (0 < mem 7 0 6)))) _) from c_hasServer hl (show inR (mem 7 0 6) by omega)) rfl (by first | decide | assumption | (simp only [cnt]; omega)) (Nat.le_of_ble_eq_true rfl) rfl rfl (Nat.le_of_ble_eq_true rfl) (Nat.le_of_ble_eq_true rfl) (Nat.le_of_ble_eq_true rfl) (Nat.le_of_ble_eq_true rfl) (Nat.le_of_ble_eq_true rfl) ?_
      refine m_if_eq_d (tgt := 62) rfl rfl rfl (fun c43 => ?_) (fun c43 => ?_)
      · refine m_dload_n rfl rfl rfl ?_
        refine m_dret rfl rfl rfl (Nat.le_of_ble_eq_true rfl) (Nat.le_of_ble_eq_true rfl) ?_
        unfold moLoad
        first | (rw [if_pos (by omega)]; exact ⟨rfl, rfl⟩) | (rw [if_neg (by omega)]; exact ⟨rfl, rfl⟩)
      · refine m_dload_n rfl rfl rfl ?_
        refine m_aload_n rfl rfl rfl ?_
        refine m_gix (k := 7) (x := mem 7 _ 7) rfl rfl (Nat.le_of_ble_eq_true rfl) rfl rfl (by first | decide | assumption | (simp only [cnt]; omega)) rfl ?_
        refine m_i2d rfl rfl ?_
        refine m_aload_n rfl rfl rfl ?_
        refine m_gix (k := 8) (x := mem 7 _ 8) rfl rfl (Nat.le_of_ble_eq_true rfl) rfl rfl (by first | decide | assumption | (simp only [cnt]; omega)) rfl ?_
        refine m_i2d rfl rfl ?_
        refine m_ddiv rfl rfl (hN.2 (by omega)).1 ?_
        refine m_dadd rfl rfl (hN.2 (by omega)).2 ?_
        refine m_goto (tgt := 63) rfl rfl rfl ?_
        refine m_dret rfl rfl rfl (Nat.le_of_ble_eq_true rfl) (Nat.le_of_ble_eq_true rfl) ?_
        unfold moLoad
        first | (rw [if_pos (by omega)]; exact ⟨rfl, rfl⟩) | (rw [if_neg (by omega)]; exact ⟨rfl, rfl⟩)
    · exfalso; omega

set_option maxRecDepth 10000 in
theorem c_mohyper {l : Launch} {G : zkG} {mem : zkM} (hl : l.stackTraces = false) (hA : moA mem) (hN : moHok mem) : zkCt l G i_Mo_hyperbolicLoad 2 0 0 [vr 7 0] mem (zkR1 (vd (moHyp mem)) (mset mem 7 0 0 0)) := by
  refine zkCt_of hl ok_Mo_hyperbolicLoad (by decide +kernel) rfl rfl (List.forall_mem_cons.mpr ⟨rfl, fun _ h => nomatch h⟩) (Nat.le_of_ble_eq_true rfl) ?_
  have hn := moA_n hA
  have h6 := hA.2.2.2.2.2.1
  refine m_aload_n rfl rfl rfl ?_
  refine m_iconst rfl rfl ?_
  refine m_pi (k := 0) rfl rfl (Nat.le_of_ble_eq_true rfl) rfl rfl rfl rfl (by first | decide | assumption | (simp only [cnt]; omega)) ?_
  refine m_dconst1 rfl rfl ?_
  refine m_dstore_n rfl rfl (Nat.le_of_ble_eq_true rfl) rfl ?_
  refine m_iconst rfl rfl ?_
  refine m_istore_n rfl rfl (Nat.le_of_ble_eq_true rfl) rfl ?_
  refine zk_loop (P := fun (j : Nat) (s : UInt64) => zkW l G i_Mo_hyperbolicLoad _ 0 0 9 [some (vr 7 0), some (vd s), none, some (vi j)] [] (mset mem 7 0 0 0)) (I := fun j s => s = lp (moHfy mem) j FP.dconst1) (moHfy mem) (moN mem) FP.dconst1 rfl (fun j s hj hs => by rw [hs]; rfl) (fun j s hj hq hk => ?_) (fun _ => ?_)
  · refine m_iload_n rfl rfl rfl ?_
    refine m_aload_n rfl rfl rfl ?_
    refine m_gix (k := 2) (x := mem 7 _ 2) rfl rfl (Nat.le_of_ble_eq_true rfl) rfl rfl (by first | decide | assumption | (simp only [cnt]; omega)) rfl ?_
    refine m_icmp_ge (tgt := 41) rfl rfl rfl (by omega) (by omega) (fun c14 => ?_) (fun c14 => ?_)
    · exfalso; omega
    · refine m_dload_n rfl rfl rfl ?_
      refine m_aload_n rfl rfl rfl ?_
      refine m_iload_n rfl rfl rfl ?_
      refine m_cv1 rfl rfl lk_7_131 (show zkCt l G i_Mo_demandOf _ 0 0 _ _ (zkR1 (vi (moDe mem j)) _) from c_demandOf hl (show moA _ from hA) (i := j) rfl (by omega)) rfl (by first | decide | assumption | (simp only [cnt]; omega)) (Nat.le_of_ble_eq_true rfl) rfl rfl (Nat.le_of_ble_eq_true rfl) (Nat.le_of_ble_eq_true rfl) (Nat.le_of_ble_eq_true rfl) (Nat.le_of_ble_eq_true rfl) (Nat.le_of_ble_eq_true rfl) ?_
      refine m_i2d rfl rfl ?_
      refine m_aload_n rfl rfl rfl ?_
      refine m_iload_n rfl rfl rfl ?_
      refine m_cv1 rfl rfl lk_7_148 (show zkCt l G i_Mo_periodOf _ 0 0 _ _ (zkR1 (vi (moPe mem j)) _) from c_periodOf hl (i := j) rfl (by omega)) rfl (by first | decide | assumption | (simp only [cnt]; omega)) (Nat.le_of_ble_eq_true rfl) rfl rfl (Nat.le_of_ble_eq_true rfl) (Nat.le_of_ble_eq_true rfl) (Nat.le_of_ble_eq_true rfl) (Nat.le_of_ble_eq_true rfl) (Nat.le_of_ble_eq_true rfl) ?_
      refine m_i2d rfl rfl ?_
      refine m_ddiv rfl rfl (hN.1 j hj).1 ?_
      refine m_dconst1 rfl rfl ?_
      refine m_dadd rfl rfl (hN.1 j hj).2.1 ?_
      refine m_dmul rfl rfl (by rw [hq]; exact (hN.1 j hj).2.2) ?_
      refine m_dstore_n rfl rfl (Nat.le_of_ble_eq_true rfl) rfl ?_
      refine m_iinc rfl rfl rfl (Nat.le_of_ble_eq_true rfl) rfl ?_
      refine m_goto (tgt := 9) rfl rfl rfl ?_
      exact hk
  · refine m_iload_n rfl rfl rfl ?_
    refine m_aload_n rfl rfl rfl ?_
    refine m_gix (k := 2) (x := mem 7 _ 2) rfl rfl (Nat.le_of_ble_eq_true rfl) rfl rfl (by first | decide | assumption | (simp only [cnt]; omega)) rfl ?_
    refine m_icmp_ge (tgt := 41) rfl rfl rfl (by omega) (by omega) (fun c14 => ?_) (fun c14 => ?_)
    · refine m_aload_n rfl rfl rfl ?_
      refine m_cv1 rfl rfl lk_7_124 (show zkCt l G i_Mo_hasServer _ 0 0 _ _ (zkR1 (vi (b2i (decide (0 < mem 7 0 6)))) _) from c_hasServer hl (show inR (mem 7 0 6) by omega)) rfl (by first | decide | assumption | (simp only [cnt]; omega)) (Nat.le_of_ble_eq_true rfl) rfl rfl (Nat.le_of_ble_eq_true rfl) (Nat.le_of_ble_eq_true rfl) (Nat.le_of_ble_eq_true rfl) (Nat.le_of_ble_eq_true rfl) (Nat.le_of_ble_eq_true rfl) ?_
      refine m_if_eq_d (tgt := 66) rfl rfl rfl (fun c45 => ?_) (fun c45 => ?_)
      · refine m_dload_n rfl rfl rfl ?_
        refine m_dret rfl rfl rfl (Nat.le_of_ble_eq_true rfl) (Nat.le_of_ble_eq_true rfl) ?_
        unfold moHyp
        first | (rw [if_pos (by omega)]; exact ⟨rfl, rfl⟩) | (rw [if_neg (by omega)]; exact ⟨rfl, rfl⟩)
      · refine m_dload_n rfl rfl rfl ?_
        refine m_aload_n rfl rfl rfl ?_
        refine m_gix (k := 7) (x := mem 7 _ 7) rfl rfl (Nat.le_of_ble_eq_true rfl) rfl rfl (by first | decide | assumption | (simp only [cnt]; omega)) rfl ?_
        refine m_i2d rfl rfl ?_
        refine m_aload_n rfl rfl rfl ?_
        refine m_gix (k := 8) (x := mem 7 _ 8) rfl rfl (Nat.le_of_ble_eq_true rfl) rfl rfl (by first | decide | assumption | (simp only [cnt]; omega)) rfl ?_
        refine m_i2d rfl rfl ?_
        refine m_ddiv rfl rfl (hN.2 (by omega)).1 ?_
        refine m_dconst1 rfl rfl ?_
        refine m_dadd rfl rfl (hN.2 (by omega)).2.1 ?_
        refine m_dmul rfl rfl (hN.2 (by omega)).2.2 ?_
        refine m_goto (tgt := 67) rfl rfl rfl ?_
        refine m_dret rfl rfl rfl (Nat.le_of_ble_eq_true rfl) (Nat.le_of_ble_eq_true rfl) ?_
        unfold moHyp
        first | (rw [if_pos (by omega)]; exact ⟨rfl, rfl⟩) | (rw [if_neg (by omega)]; exact ⟨rfl, rfl⟩)
    · exfalso; omega
end
section
/-! the reference: the text. A memory with the place and the fault apart -/
def zC (m : zkM) (p : Int × Int) : zkM := mset (mset m 7 0 30 p.1) 7 0 31 p.2
theorem zC_id (m : zkM) : zC m (m 7 0 30, m 7 0 31) = m := by
  funext t i k
  unfold zC mset
  by_cases h : t = 7 ∧ i = 0 ∧ k = 31
  · obtain ⟨rfl, rfl, rfl⟩ := h; simp
  · rw [if_neg h]
    by_cases h2 : t = 7 ∧ i = 0 ∧ k = 30
    · obtain ⟨rfl, rfl, rfl⟩ := h2; simp
    · rw [if_neg h2]
theorem zC_30 (m : zkM) (p : Int × Int) (a : Int) : mset (zC m p) 7 0 30 a = zC m (a, p.2) := by
  funext t i k
  unfold zC mset
  by_cases h : t = 7 ∧ i = 0 ∧ k = 30
  · obtain ⟨rfl, rfl, rfl⟩ := h; simp
  · simp only [if_neg h]
theorem zC_31 (m : zkM) (p : Int × Int) (f : Int) : mset (zC m p) 7 0 31 f = zC m (p.1, f) := by
  funext t i k
  unfold zC mset
  by_cases h : t = 7 ∧ i = 0 ∧ k = 31
  · simp only [if_pos h]
  · simp only [if_neg h]
theorem zC_o {t : Nat} (h : t ≠ 7) (m : zkM) (p : Int × Int) (i k : Nat) (x : Int) : mset (zC m p) t i k x = zC (mset m t i k x) p := by
  funext t' i' k'
  unfold zC mset
  by_cases h1 : t' = 7 ∧ i' = 0 ∧ k' = 31
  · have h2 : ¬ (t' = t ∧ i' = i ∧ k' = k) := by omega
    simp only [if_pos h1, if_neg h2]
  · by_cases h3 : t' = 7 ∧ i' = 0 ∧ k' = 30
    · have h2 : ¬ (t' = t ∧ i' = i ∧ k' = k) := by omega
      simp only [if_neg h1, if_pos h3, if_neg h2]
    · simp only [if_neg h1, if_neg h3]
def sgn (m : zkM) (a : Int) : Int := if a < m 7 0 29 then m 44 0 a.toNat else -1
def tk (m : zkM) (c : Int) (p : Int × Int) : Int × Int := if p.2 = -1 ∧ sgn m p.1 = c then (p.1 + 1, p.2) else (p.1, if p.2 = -1 then p.1 else p.2)
/-- the text is in its bounds -/
def txA (m : zkM) : Prop := (0 ≤ m 7 0 29 ∧ m 7 0 29 ≤ 60) ∧ ∀ k, k < 60 → 0 ≤ m 44 0 k ∧ m 44 0 k ≤ 65535
def txP (p : Int × Int) : Prop := (0 ≤ p.1 ∧ p.1 ≤ 60) ∧ (-1 ≤ p.2 ∧ p.2 ≤ 60)
theorem sgn_b {m : zkM} (h : txA m) {a : Int} (ha : 0 ≤ a) : -1 ≤ sgn m a ∧ sgn m a ≤ 65535 ∧ (sgn m a ≠ -1 → a < 60) := by
  obtain ⟨h1, h2⟩ := h
  unfold sgn
  split
  · have := h2 a.toNat (by omega)
    omega
  · omega
theorem tk_b {m : zkM} (h : txA m) {c : Int} (hc : 0 ≤ c) {p : Int × Int} (hp : txP p) : txP (tk m c p) := by
  have := sgn_b h hp.1.1
  obtain ⟨h1, h2⟩ := hp
  unfold tk txP
  split
  · dsimp only; omega
  · dsimp only; split <;> omega
def tks (m : zkM) (cs : List Int) (p : Int × Int) : Int × Int := cs.foldl (fun p c => tk m c p) p
theorem tks_b {m : zkM} (h : txA m) : ∀ (cs : List Int) (p : Int × Int), (∀ c ∈ cs, 0 ≤ c) → txP p → txP (tks m cs p)
  | [], _, _, hp => hp
  | c :: cs, p, hc, hp => tks_b h cs (tk m c p) (fun d hd => hc d (List.mem_cons_of_mem _ hd)) (tk_b h (hc c List.mem_cons_self) hp)
set_option maxRecDepth 10000 in
theorem c_sign {l : Launch} {G : zkG} (hl : l.stackTraces = false) {m : zkM} {p : Int × Int} (hT : txA m) (hp : 0 ≤ p.1 ∧ p.1 ≤ 60) : zkCt l G i_Mo_sign 0 0 0 [vr 7 0] (zC m p) (zkR1 (vi (sgn m p.1)) (zC m p)) := by
  refine zkCt_of hl ok_Mo_sign (by decide +kernel) rfl rfl (List.forall_mem_cons.mpr ⟨rfl, fun _ h => nomatch h⟩) (Nat.le_of_ble_eq_true rfl) ?_
  have h1 := hT.1
  refine m_aload_n rfl rfl rfl ?_
  refine m_gix (k := 30) (x := p.1) rfl rfl (Nat.le_of_ble_eq_true rfl) rfl rfl (by first | decide | assumption | (simp only [cnt]; omega)) rfl ?_
  refine m_aload_n rfl rfl rfl ?_
  refine m_gix (k := 29) (x := m 7 _ 29) rfl rfl (Nat.le_of_ble_eq_true rfl) rfl rfl (by first | decide | assumption | (simp only [cnt]; omega)) rfl ?_
  refine m_icmp_ge (tgt := 23) rfl rfl rfl (by omega) (by omega) (fun c8 => ?_) (fun c8 => ?_)
  · refine m_iconst rfl rfl ?_
    refine m_iret rfl rfl rfl (Nat.le_of_ble_eq_true rfl) (Nat.le_of_ble_eq_true rfl) ?_
    unfold sgn
    first | (rw [if_pos (by omega)]; exact ⟨rfl, rfl⟩) | (rw [if_neg (by omega)]; exact ⟨rfl, rfl⟩)
  · refine m_aload_n rfl rfl rfl ?_
    refine m_gr (k := 27) rfl rfl (Nat.le_of_ble_eq_true rfl) rfl rfl (by first | decide | assumption | (simp only [cnt]; omega)) ?_
    refine m_aload_n rfl rfl rfl ?_
    refine m_gix (k := 30) (x := p.1) rfl rfl (Nat.le_of_ble_eq_true rfl) rfl rfl (by first | decide | assumption | (simp only [cnt]; omega)) rfl ?_
    refine m_calx (n := p.1.toNat) (y := m 44 _ (p.1.toNat)) rfl rfl (Nat.le_of_ble_eq_true rfl) rfl (by first | decide | assumption | (simp only [cnt]; omega)) (by omega) (by simp only [aln]; omega) rfl ?_
    refine m_goto (tgt := 24) rfl rfl rfl ?_
    refine m_iret rfl rfl rfl (Nat.le_of_ble_eq_true rfl) (Nat.le_of_ble_eq_true rfl) ?_
    unfold sgn
    first | (rw [if_pos (by omega)]; exact ⟨rfl, rfl⟩) | (rw [if_neg (by omega)]; exact ⟨rfl, rfl⟩)

set_option maxRecDepth 10000 in
theorem c_take {l : Launch} {G : zkG} (hl : l.stackTraces = false) {m : zkM} {p : Int × Int} {c : Int} (hT : txA m) (hp : txP p) (hc : inR c) : zkCt l G i_Mo_take 1 0 0 [vr 7 0, vi c] (zC m p) (zkR0 (zC m (tk m c p))) := by
  refine zkCt_of hl ok_Mo_take (by decide +kernel) rfl rfl (List.forall_mem_cons.mpr ⟨rfl, (List.forall_mem_cons.mpr ⟨rfl, fun _ h => nomatch h⟩)⟩) (Nat.le_of_ble_eq_true rfl) ?_
  obtain ⟨p1, p2⟩ := hp
  have hs := sgn_b hT p1.1
  refine m_aload_n rfl rfl rfl ?_
  refine m_gix (k := 31) (x := p.2) rfl rfl (Nat.le_of_ble_eq_true rfl) rfl rfl (by first | decide | assumption | (simp only [cnt]; omega)) rfl ?_
  refine m_iconst rfl rfl ?_
  refine m_icmp_ne (tgt := 29) rfl rfl rfl (by omega) (by omega) (fun c5 => ?_) (fun c5 => ?_)
  · refine m_aload_n rfl rfl rfl ?_
    refine m_aload_n rfl rfl rfl ?_
    refine m_gix (k := 31) (x := p.2) rfl rfl (Nat.le_of_ble_eq_true rfl) rfl rfl (by first | decide | assumption | (simp only [cnt]; omega)) rfl ?_
    refine m_iconst rfl rfl ?_
    refine m_icmp_ne (tgt := 45) rfl rfl rfl (by omega) (by omega) (fun c35 => ?_) (fun c35 => ?_)
    · refine m_aload_n rfl rfl rfl ?_
      refine m_gix (k := 31) (x := p.2) rfl rfl (Nat.le_of_ble_eq_true rfl) rfl rfl (by first | decide | assumption | (simp only [cnt]; omega)) rfl ?_
      refine m_pi (k := 31) rfl rfl (Nat.le_of_ble_eq_true rfl) rfl rfl rfl rfl (by first | decide | assumption | (simp only [cnt]; omega)) ?_
      refine m_vret rfl rfl rfl (Nat.le_of_ble_eq_true rfl) (Nat.le_of_ble_eq_true rfl) ?_
      refine ⟨rfl, ?_⟩
      unfold tk
      first | (rw [if_pos (by omega)]; exact zC_30 _ _ _) | (rw [if_neg (by omega)]; first | (rw [if_pos (by omega)]; exact zC_31 _ _ _) | (rw [if_neg (by omega)]; exact zC_31 _ _ _))
    · refine m_aload_n rfl rfl rfl ?_
      refine m_gix (k := 30) (x := p.1) rfl rfl (Nat.le_of_ble_eq_true rfl) rfl rfl (by first | decide | assumption | (simp only [cnt]; omega)) rfl ?_
      refine m_goto (tgt := 49) rfl rfl rfl ?_
      refine m_pi (k := 31) rfl rfl (Nat.le_of_ble_eq_true rfl) rfl rfl rfl rfl (by first | decide | assumption | (simp only [cnt]; omega)) ?_
      refine m_vret rfl rfl rfl (Nat.le_of_ble_eq_true rfl) (Nat.le_of_ble_eq_true rfl) ?_
      refine ⟨rfl, ?_⟩
      unfold tk
      first | (rw [if_pos (by omega)]; exact zC_30 _ _ _) | (rw [if_neg (by omega)]; first | (rw [if_pos (by omega)]; exact zC_31 _ _ _) | (rw [if_neg (by omega)]; exact zC_31 _ _ _))
  · refine m_aload_n rfl rfl rfl ?_
    refine m_cv1 rfl rfl lk_7_230 (c_sign hl hT (by omega)) rfl (by first | decide | assumption | (simp only [cnt]; omega)) (Nat.le_of_ble_eq_true rfl) rfl rfl (Nat.le_of_ble_eq_true rfl) (Nat.le_of_ble_eq_true rfl) (Nat.le_of_ble_eq_true rfl) (Nat.le_of_ble_eq_true rfl) (Nat.le_of_ble_eq_true rfl) ?_
    refine m_iload_n rfl rfl rfl ?_
    refine m_icmp_ne (tgt := 29) rfl rfl rfl (by omega) (by omega) (fun c13 => ?_) (fun c13 => ?_)
    · refine m_aload_n rfl rfl rfl ?_
      refine m_aload_n rfl rfl rfl ?_
      refine m_gix (k := 31) (x := p.2) rfl rfl (Nat.le_of_ble_eq_true rfl) rfl rfl (by first | decide | assumption | (simp only [cnt]; omega)) rfl ?_
      refine m_iconst rfl rfl ?_
      refine m_icmp_ne (tgt := 45) rfl rfl rfl (by omega) (by omega) (fun c35 => ?_) (fun c35 => ?_)
      · refine m_aload_n rfl rfl rfl ?_
        refine m_gix (k := 31) (x := p.2) rfl rfl (Nat.le_of_ble_eq_true rfl) rfl rfl (by first | decide | assumption | (simp only [cnt]; omega)) rfl ?_
        refine m_pi (k := 31) rfl rfl (Nat.le_of_ble_eq_true rfl) rfl rfl rfl rfl (by first | decide | assumption | (simp only [cnt]; omega)) ?_
        refine m_vret rfl rfl rfl (Nat.le_of_ble_eq_true rfl) (Nat.le_of_ble_eq_true rfl) ?_
        refine ⟨rfl, ?_⟩
        unfold tk
        first | (rw [if_pos (by omega)]; exact zC_30 _ _ _) | (rw [if_neg (by omega)]; first | (rw [if_pos (by omega)]; exact zC_31 _ _ _) | (rw [if_neg (by omega)]; exact zC_31 _ _ _))
      · refine m_aload_n rfl rfl rfl ?_
        refine m_gix (k := 30) (x := p.1) rfl rfl (Nat.le_of_ble_eq_true rfl) rfl rfl (by first | decide | assumption | (simp only [cnt]; omega)) rfl ?_
        refine m_goto (tgt := 49) rfl rfl rfl ?_
        refine m_pi (k := 31) rfl rfl (Nat.le_of_ble_eq_true rfl) rfl rfl rfl rfl (by first | decide | assumption | (simp only [cnt]; omega)) ?_
        refine m_vret rfl rfl rfl (Nat.le_of_ble_eq_true rfl) (Nat.le_of_ble_eq_true rfl) ?_
        refine ⟨rfl, ?_⟩
        unfold tk
        first | (rw [if_pos (by omega)]; exact zC_30 _ _ _) | (rw [if_neg (by omega)]; first | (rw [if_pos (by omega)]; exact zC_31 _ _ _) | (rw [if_neg (by omega)]; exact zC_31 _ _ _))
    · refine m_aload_n rfl rfl rfl ?_
      refine m_dup rfl rfl rfl ?_
      refine m_gix (k := 30) (x := p.1) rfl rfl (Nat.le_of_ble_eq_true rfl) rfl rfl (by first | decide | assumption | (simp only [cnt]; omega)) rfl ?_
      refine m_iconst rfl rfl ?_
      refine m_iadd rfl rfl ?_
      refine m_pi (k := 30) rfl rfl (Nat.le_of_ble_eq_true rfl) rfl rfl rfl rfl (by first | decide | assumption | (simp only [cnt]; omega)) ?_
      refine m_goto (tgt := 52) rfl rfl rfl ?_
      refine m_vret rfl rfl rfl (Nat.le_of_ble_eq_true rfl) (Nat.le_of_ble_eq_true rfl) ?_
      refine ⟨rfl, ?_⟩
      unfold tk
      first | (rw [if_pos (by omega)]; exact zC_30 _ _ _) | (rw [if_neg (by omega)]; first | (rw [if_pos (by omega)]; exact zC_31 _ _ _) | (rw [if_neg (by omega)]; exact zC_31 _ _ _))

set_option maxRecDepth 10000 in
theorem c_takeAll {l : Launch} {G : zkG} (hl : l.stackTraces = false) {m : zkM} {p : Int × Int} {a b c d e f g : Int} (hT : txA m) (hp : txP p) (ha : 0 ≤ a ∧ a ≤ 200) (hb : 0 ≤ b ∧ b ≤ 200) (hc : 0 ≤ c ∧ c ≤ 200) (hd : 0 ≤ d ∧ d ≤ 200) (he : 0 ≤ e ∧ e ≤ 200) (hf : 0 ≤ f ∧ f ≤ 200) (hg : 0 ≤ g ∧ g ≤ 200) : zkCt l G i_Mo_takeAll 2 0 0 [vr 7 0, vi a, vi b, vi c, vi d, vi e, vi f, vi g] (zC m p) (zkR0 (zC m (tks m [a, b, c, d, e, f, g] p))) := by
  refine zkCt_of hl ok_Mo_takeAll (by decide +kernel) rfl rfl (List.forall_mem_cons.mpr ⟨rfl, (List.forall_mem_cons.mpr ⟨rfl, (List.forall_mem_cons.mpr ⟨rfl, (List.forall_mem_cons.mpr ⟨rfl, (List.forall_mem_cons.mpr ⟨rfl, (List.forall_mem_cons.mpr ⟨rfl, (List.forall_mem_cons.mpr ⟨rfl, (List.forall_mem_cons.mpr ⟨rfl, fun _ h => nomatch h⟩)⟩)⟩)⟩)⟩)⟩)⟩)⟩) (Nat.le_of_ble_eq_true rfl) ?_
  have q1 := tk_b hT ha.1 hp
  have q2 := tk_b hT hb.1 q1
  have q3 := tk_b hT hc.1 q2
  have q4 := tk_b hT hd.1 q3
  have q5 := tk_b hT he.1 q4
  have q6 := tk_b hT hf.1 q5
  refine m_aload_n rfl rfl rfl ?_
  refine m_iload_n rfl rfl rfl ?_
  refine m_cv0 rfl rfl lk_7_233 (c_take hl hT (by assumption) (by omega)) rfl (by first | decide | assumption | (simp only [cnt]; omega)) (Nat.le_of_ble_eq_true rfl) rfl rfl (Nat.le_of_ble_eq_true rfl) (Nat.le_of_ble_eq_true rfl) (Nat.le_of_ble_eq_true rfl) (Nat.le_of_ble_eq_true rfl) (Nat.le_of_ble_eq_true rfl) ?_
  refine m_aload_n rfl rfl rfl ?_
  refine m_iload_n rfl rfl rfl ?_
  refine m_cv0 rfl rfl lk_7_233 (c_take hl hT (by assumption) (by omega)) rfl (by first | decide | assumption | (simp only [cnt]; omega)) (Nat.le_of_ble_eq_true rfl) rfl rfl (Nat.le_of_ble_eq_true rfl) (Nat.le_of_ble_eq_true rfl) (Nat.le_of_ble_eq_true rfl) (Nat.le_of_ble_eq_true rfl) (Nat.le_of_ble_eq_true rfl) ?_
  refine m_aload_n rfl rfl rfl ?_
  refine m_iload_n rfl rfl rfl ?_
  refine m_cv0 rfl rfl lk_7_233 (c_take hl hT (by assumption) (by omega)) rfl (by first | decide | assumption | (simp only [cnt]; omega)) (Nat.le_of_ble_eq_true rfl) rfl rfl (Nat.le_of_ble_eq_true rfl) (Nat.le_of_ble_eq_true rfl) (Nat.le_of_ble_eq_true rfl) (Nat.le_of_ble_eq_true rfl) (Nat.le_of_ble_eq_true rfl) ?_
  refine m_aload_n rfl rfl rfl ?_
  refine m_iload rfl rfl rfl ?_
  refine m_cv0 rfl rfl lk_7_233 (c_take hl hT (by assumption) (by omega)) rfl (by first | decide | assumption | (simp only [cnt]; omega)) (Nat.le_of_ble_eq_true rfl) rfl rfl (Nat.le_of_ble_eq_true rfl) (Nat.le_of_ble_eq_true rfl) (Nat.le_of_ble_eq_true rfl) (Nat.le_of_ble_eq_true rfl) (Nat.le_of_ble_eq_true rfl) ?_
  refine m_aload_n rfl rfl rfl ?_
  refine m_iload rfl rfl rfl ?_
  refine m_cv0 rfl rfl lk_7_233 (c_take hl hT (by assumption) (by omega)) rfl (by first | decide | assumption | (simp only [cnt]; omega)) (Nat.le_of_ble_eq_true rfl) rfl rfl (Nat.le_of_ble_eq_true rfl) (Nat.le_of_ble_eq_true rfl) (Nat.le_of_ble_eq_true rfl) (Nat.le_of_ble_eq_true rfl) (Nat.le_of_ble_eq_true rfl) ?_
  refine m_aload_n rfl rfl rfl ?_
  refine m_iload rfl rfl rfl ?_
  refine m_cv0 rfl rfl lk_7_233 (c_take hl hT (by assumption) (by omega)) rfl (by first | decide | assumption | (simp only [cnt]; omega)) (Nat.le_of_ble_eq_true rfl) rfl rfl (Nat.le_of_ble_eq_true rfl) (Nat.le_of_ble_eq_true rfl) (Nat.le_of_ble_eq_true rfl) (Nat.le_of_ble_eq_true rfl) (Nat.le_of_ble_eq_true rfl) ?_
  refine m_aload_n rfl rfl rfl ?_
  refine m_iload rfl rfl rfl ?_
  refine m_cv0 rfl rfl lk_7_233 (c_take hl hT (by assumption) (by omega)) rfl (by first | decide | assumption | (simp only [cnt]; omega)) (Nat.le_of_ble_eq_true rfl) rfl rfl (Nat.le_of_ble_eq_true rfl) (Nat.le_of_ble_eq_true rfl) (Nat.le_of_ble_eq_true rfl) (Nat.le_of_ble_eq_true rfl) (Nat.le_of_ble_eq_true rfl) ?_
  refine m_vret rfl rfl rfl (Nat.le_of_ble_eq_true rfl) (Nat.le_of_ble_eq_true rfl) ?_
  exact ⟨rfl, rfl⟩

def nmf (m : zkM) : Nat → Int → Int → Int → Int × Int × Int
  | 0, a, n, d => (a, n, d)
  | r + 1, a, n, d => if (48 ≤ sgn m a ∧ sgn m a ≤ 57) ∧ (d = 0 ∨ 0 < n) then nmf m r (a + 1) (10 * n + sgn m a - 48) (d + 1) else (a, n, d)
theorem nmf_s (m : zkM) (r : Nat) (a n d : Int) : nmf m (r + 1) a n d = if (48 ≤ sgn m a ∧ sgn m a ≤ 57) ∧ (d = 0 ∨ 0 < n) then nmf m r (a + 1) (10 * n + sgn m a - 48) (d + 1) else (a, n, d) := rfl
def num (m : zkM) (p : Int × Int) : Int × Int × Int := if (tk m 32 p).2 = -1 then ((nmf m 3 (tk m 32 p).1 0 0).2.1, (nmf m 3 (tk m 32 p).1 0 0).1, if (nmf m 3 (tk m 32 p).1 0 0).2.2 = 0 then (nmf m 3 (tk m 32 p).1 0 0).1 else -1) else (0, tk m 32 p)
theorem nmf_b {m : zkM} (h : txA m) : ∀ (r : Nat) (a n d : Int), r + d = 3 → 0 ≤ d → (0 ≤ a ∧ a ≤ 60) → (0 ≤ n ∧ n ≤ 999) → (d = 0 → n = 0) → (d = 1 → n ≤ 9) → (d = 2 → n ≤ 99) → (0 ≤ (nmf m r a n d).1 ∧ (nmf m r a n d).1 ≤ 60) ∧ (0 ≤ (nmf m r a n d).2.1 ∧ (nmf m r a n d).2.1 ≤ 999) ∧ (0 ≤ (nmf m r a n d).2.2 ∧ (nmf m r a n d).2.2 ≤ 3)
  | 0, a, n, d, h1, h2, h3, h4, _, _, _ => by unfold nmf; dsimp only; omega
  | r + 1, a, n, d, h1, h2, h3, h4, h5, h6, h7 => by
    unfold nmf
    have hs := sgn_b h h3.1
    split
    · exact nmf_b h r _ _ _ (by omega) (by omega) (by omega) (by omega) (by omega) (by omega) (by omega)
    · dsimp only; omega
theorem num_b {m : zkM} (h : txA m) {p : Int × Int} (hp : txP p) : txP (num m p).2 ∧ 0 ≤ (num m p).1 ∧ (num m p).1 ≤ 999 := by
  have h1 := tk_b h (c := 32) (by omega) hp
  unfold num txP
  split
  · have h2 := nmf_b h 3 (tk m 32 p).1 0 0 (by omega) (by omega) h1.1 (by omega) (by omega) (by omega) (by omega)
    dsimp only
    split <;> omega
  · exact ⟨h1, by dsimp only; omega⟩
set_option maxRecDepth 10000 in
theorem w_number {l : Launch} {G : zkG} {m : zkM} {p : Int × Int} (hl : l.stackTraces = false) (hT : txA m) (hq : (tk m 32 p).2 = -1) : ∀ (r : Nat) (a n d : Int), r + d = 3 → 0 ≤ d → (0 ≤ a ∧ a ≤ 60) → (0 ≤ n ∧ n ≤ 999) → (d = 0 → n = 0) → (d = 1 → n ≤ 9) → (d = 2 → n ≤ 99) → nmf m 3 (tk m 32 p).1 0 0 = nmf m r a n d → zkW l G i_Mo_number (zkKm G 2 0 0 (zkR1 (vi (num m p).1) (zC m (num m p).2))) 0 0 10 [some (vr 7 0), some (vi n), some (vi d)] [] (zC m (a, -1)) := by
  intro r
  induction r with
  | zero =>
    intro a n d h1 h2 h3 h4 h5 h6 h7 h8
    have hs := sgn_b hT h3.1
    rw [show nmf m 0 a n d = (a, n, d) from rfl] at h8
    refine m_aload_n rfl rfl rfl ?_
    refine m_gix (k := 31) (x := (-1)) rfl rfl (Nat.le_of_ble_eq_true rfl) rfl rfl (by first | decide | assumption | (simp only [cnt]; omega)) rfl ?_
    refine m_iconst rfl rfl ?_
    refine m_icmp_ne (tgt := 74) rfl rfl rfl (by omega) (by omega) (fun c15 => ?_) (fun c15 => ?_)
    · exfalso; omega
    · refine m_iload_n rfl rfl rfl ?_
      refine m_iconst rfl rfl ?_
      refine m_icmp_ge (tgt := 74) rfl rfl rfl (by omega) (by omega) (fun c20 => ?_) (fun c20 => ?_)
      · refine m_aload_n rfl rfl rfl ?_
        refine m_aload_n rfl rfl rfl ?_
        refine m_gix (k := 31) (x := (-1)) rfl rfl (Nat.le_of_ble_eq_true rfl) rfl rfl (by first | decide | assumption | (simp only [cnt]; omega)) rfl ?_
        refine m_iconst rfl rfl ?_
        refine m_icmp_ne (tgt := 94) rfl rfl rfl (by omega) (by omega) (fun c80 => ?_) (fun c80 => ?_)
        · exfalso; omega
        · refine m_iload_n rfl rfl rfl ?_
          refine m_if_ne (tgt := 94) rfl rfl rfl (by omega) (fun c84 => ?_) (fun c84 => ?_)
          · refine m_aload_n rfl rfl rfl ?_
            refine m_gix (k := 31) (x := (-1)) rfl rfl (Nat.le_of_ble_eq_true rfl) rfl rfl (by first | decide | assumption | (simp only [cnt]; omega)) rfl ?_
            refine m_pi (k := 31) rfl rfl (Nat.le_of_ble_eq_true rfl) rfl rfl rfl rfl (by first | decide | assumption | (simp only [cnt]; omega)) ?_
            refine m_iload_n rfl rfl rfl ?_
            refine m_iret rfl rfl rfl (Nat.le_of_ble_eq_true rfl) (Nat.le_of_ble_eq_true rfl) ?_
            unfold num
            rw [if_pos hq, h8]
            first | (rw [if_pos (by dsimp only; omega)]; exact ⟨rfl, zC_31 _ _ _⟩) | (rw [if_neg (by dsimp only; omega)]; exact ⟨rfl, zC_31 _ _ _⟩)
          · refine m_aload_n rfl rfl rfl ?_
            refine m_gix (k := 30) (x := a) rfl rfl (Nat.le_of_ble_eq_true rfl) rfl rfl (by first | decide | assumption | (simp only [cnt]; omega)) rfl ?_
            refine m_goto (tgt := 98) rfl rfl rfl ?_
            refine m_pi (k := 31) rfl rfl (Nat.le_of_ble_eq_true rfl) rfl rfl rfl rfl (by first | decide | assumption | (simp only [cnt]; omega)) ?_
            refine m_iload_n rfl rfl rfl ?_
            refine m_iret rfl rfl rfl (Nat.le_of_ble_eq_true rfl) (Nat.le_of_ble_eq_true rfl) ?_
            unfold num
            rw [if_pos hq, h8]
            first | (rw [if_pos (by dsimp only; omega)]; exact ⟨rfl, zC_31 _ _ _⟩) | (rw [if_neg (by dsimp only; omega)]; exact ⟨rfl, zC_31 _ _ _⟩)
      · exfalso; omega
  | succ r ih =>
    intro a n d h1 h2 h3 h4 h5 h6 h7 h8
    have hs := sgn_b hT h3.1
    refine m_aload_n rfl rfl rfl ?_
    refine m_gix (k := 31) (x := (-1)) rfl rfl (Nat.le_of_ble_eq_true rfl) rfl rfl (by first | decide | assumption | (simp only [cnt]; omega)) rfl ?_
    refine m_iconst rfl rfl ?_
    refine m_icmp_ne (tgt := 74) rfl rfl rfl (by omega) (by omega) (fun c15 => ?_) (fun c15 => ?_)
    · exfalso; omega
    · refine m_iload_n rfl rfl rfl ?_
      refine m_iconst rfl rfl ?_
      refine m_icmp_ge (tgt := 74) rfl rfl rfl (by omega) (by omega) (fun c20 => ?_) (fun c20 => ?_)
      · exfalso; omega
      · refine m_aload_n rfl rfl rfl ?_
        refine m_cv1 rfl rfl lk_7_230 (show zkCt l G i_Mo_sign _ 0 0 _ _ (zkR1 (vi (sgn m a)) _) from c_sign (p := (a, -1)) hl hT (by dsimp only; omega)) rfl (by first | decide | assumption | (simp only [cnt]; omega)) (Nat.le_of_ble_eq_true rfl) rfl rfl (Nat.le_of_ble_eq_true rfl) (Nat.le_of_ble_eq_true rfl) (Nat.le_of_ble_eq_true rfl) (Nat.le_of_ble_eq_true rfl) (Nat.le_of_ble_eq_true rfl) ?_
        refine m_bipush rfl rfl (by decide) ?_
        refine m_bipush rfl rfl (by decide) ?_
        refine m_cs1 rfl rfl lk_7_75 (c_isIn hl (by omega) (by omega) (by omega)) rfl rfl (Nat.le_of_ble_eq_true rfl) (Nat.le_of_ble_eq_true rfl) (Nat.le_of_ble_eq_true rfl) (Nat.le_of_ble_eq_true rfl) (Nat.le_of_ble_eq_true rfl) ?_
        refine m_if_eq_d (tgt := 74) rfl rfl rfl (fun c34 => ?_) (fun c34 => ?_)
        · refine m_aload_n rfl rfl rfl ?_
          refine m_aload_n rfl rfl rfl ?_
          refine m_gix (k := 31) (x := (-1)) rfl rfl (Nat.le_of_ble_eq_true rfl) rfl rfl (by first | decide | assumption | (simp only [cnt]; omega)) rfl ?_
          refine m_iconst rfl rfl ?_
          refine m_icmp_ne (tgt := 94) rfl rfl rfl (by omega) (by omega) (fun c80 => ?_) (fun c80 => ?_)
          · exfalso; omega
          · refine m_iload_n rfl rfl rfl ?_
            refine m_if_ne (tgt := 94) rfl rfl rfl (by omega) (fun c84 => ?_) (fun c84 => ?_)
            · refine m_aload_n rfl rfl rfl ?_
              refine m_gix (k := 31) (x := (-1)) rfl rfl (Nat.le_of_ble_eq_true rfl) rfl rfl (by first | decide | assumption | (simp only [cnt]; omega)) rfl ?_
              refine m_pi (k := 31) rfl rfl (Nat.le_of_ble_eq_true rfl) rfl rfl rfl rfl (by first | decide | assumption | (simp only [cnt]; omega)) ?_
              refine m_iload_n rfl rfl rfl ?_
              refine m_iret rfl rfl rfl (Nat.le_of_ble_eq_true rfl) (Nat.le_of_ble_eq_true rfl) ?_
              rw [nmf_s m r a n d, if_neg (by omega)] at h8
              unfold num
              rw [if_pos hq, h8]
              first | (rw [if_pos (by dsimp only; omega)]; exact ⟨rfl, zC_31 _ _ _⟩) | (rw [if_neg (by dsimp only; omega)]; exact ⟨rfl, zC_31 _ _ _⟩)
            · refine m_aload_n rfl rfl rfl ?_
              refine m_gix (k := 30) (x := a) rfl rfl (Nat.le_of_ble_eq_true rfl) rfl rfl (by first | decide | assumption | (simp only [cnt]; omega)) rfl ?_
              refine m_goto (tgt := 98) rfl rfl rfl ?_
              refine m_pi (k := 31) rfl rfl (Nat.le_of_ble_eq_true rfl) rfl rfl rfl rfl (by first | decide | assumption | (simp only [cnt]; omega)) ?_
              refine m_iload_n rfl rfl rfl ?_
              refine m_iret rfl rfl rfl (Nat.le_of_ble_eq_true rfl) (Nat.le_of_ble_eq_true rfl) ?_
              rw [nmf_s m r a n d, if_neg (by omega)] at h8
              unfold num
              rw [if_pos hq, h8]
              first | (rw [if_pos (by dsimp only; omega)]; exact ⟨rfl, zC_31 _ _ _⟩) | (rw [if_neg (by dsimp only; omega)]; exact ⟨rfl, zC_31 _ _ _⟩)
        · refine m_iload_n rfl rfl rfl ?_
          refine m_if_eq (tgt := 45) rfl rfl rfl (by omega) (fun c38 => ?_) (fun c38 => ?_)
          · refine m_bipush rfl rfl (by decide) ?_
            refine m_iload_n rfl rfl rfl ?_
            refine m_imul rfl rfl ?_
            refine m_aload_n rfl rfl rfl ?_
            refine m_cv1 rfl rfl lk_7_230 (show zkCt l G i_Mo_sign _ 0 0 _ _ (zkR1 (vi (sgn m a)) _) from c_sign (p := (a, -1)) hl hT (by dsimp only; omega)) rfl (by first | decide | assumption | (simp only [cnt]; omega)) (Nat.le_of_ble_eq_true rfl) rfl rfl (Nat.le_of_ble_eq_true rfl) (Nat.le_of_ble_eq_true rfl) (Nat.le_of_ble_eq_true rfl) (Nat.le_of_ble_eq_true rfl) (Nat.le_of_ble_eq_true rfl) ?_
            refine m_iadd rfl rfl ?_
            refine m_bipush rfl rfl (by decide) ?_
            refine m_isub rfl rfl ?_
            refine m_istore_n rfl rfl (Nat.le_of_ble_eq_true rfl) rfl ?_
            refine m_iinc rfl rfl rfl (Nat.le_of_ble_eq_true rfl) rfl ?_
            refine m_aload_n rfl rfl rfl ?_
            refine m_dup rfl rfl rfl ?_
            refine m_gix (k := 30) (x := a) rfl rfl (Nat.le_of_ble_eq_true rfl) rfl rfl (by first | decide | assumption | (simp only [cnt]; omega)) rfl ?_
            refine m_iconst rfl rfl ?_
            refine m_iadd rfl rfl ?_
            refine m_pi (k := 30) rfl rfl (Nat.le_of_ble_eq_true rfl) rfl rfl rfl rfl (by first | decide | assumption | (simp only [cnt]; omega)) ?_
            refine m_goto (tgt := 10) rfl rfl rfl ?_
            rw [zC_30]
            rw [nmf_s m r a n d, if_pos (by omega)] at h8
            exact ih (a + 1) _ (d + 1) (by omega) (by omega) (by omega) (by omega) (by omega) (by omega) (by omega) h8
          · refine m_iload_n rfl rfl rfl ?_
            refine m_if_le (tgt := 74) rfl rfl rfl (by omega) (fun c42 => ?_) (fun c42 => ?_)
            · refine m_aload_n rfl rfl rfl ?_
              refine m_aload_n rfl rfl rfl ?_
              refine m_gix (k := 31) (x := (-1)) rfl rfl (Nat.le_of_ble_eq_true rfl) rfl rfl (by first | decide | assumption | (simp only [cnt]; omega)) rfl ?_
              refine m_iconst rfl rfl ?_
              refine m_icmp_ne (tgt := 94) rfl rfl rfl (by omega) (by omega) (fun c80 => ?_) (fun c80 => ?_)
              · exfalso; omega
              · refine m_iload_n rfl rfl rfl ?_
                refine m_if_ne (tgt := 94) rfl rfl rfl (by omega) (fun c84 => ?_) (fun c84 => ?_)
                · refine m_aload_n rfl rfl rfl ?_
                  refine m_gix (k := 31) (x := (-1)) rfl rfl (Nat.le_of_ble_eq_true rfl) rfl rfl (by first | decide | assumption | (simp only [cnt]; omega)) rfl ?_
                  refine m_pi (k := 31) rfl rfl (Nat.le_of_ble_eq_true rfl) rfl rfl rfl rfl (by first | decide | assumption | (simp only [cnt]; omega)) ?_
                  refine m_iload_n rfl rfl rfl ?_
                  refine m_iret rfl rfl rfl (Nat.le_of_ble_eq_true rfl) (Nat.le_of_ble_eq_true rfl) ?_
                  rw [nmf_s m r a n d, if_neg (by omega)] at h8
                  unfold num
                  rw [if_pos hq, h8]
                  first | (rw [if_pos (by dsimp only; omega)]; exact ⟨rfl, zC_31 _ _ _⟩) | (rw [if_neg (by dsimp only; omega)]; exact ⟨rfl, zC_31 _ _ _⟩)
                · refine m_aload_n rfl rfl rfl ?_
                  refine m_gix (k := 30) (x := a) rfl rfl (Nat.le_of_ble_eq_true rfl) rfl rfl (by first | decide | assumption | (simp only [cnt]; omega)) rfl ?_
                  refine m_goto (tgt := 98) rfl rfl rfl ?_
                  refine m_pi (k := 31) rfl rfl (Nat.le_of_ble_eq_true rfl) rfl rfl rfl rfl (by first | decide | assumption | (simp only [cnt]; omega)) ?_
                  refine m_iload_n rfl rfl rfl ?_
                  refine m_iret rfl rfl rfl (Nat.le_of_ble_eq_true rfl) (Nat.le_of_ble_eq_true rfl) ?_
                  rw [nmf_s m r a n d, if_neg (by omega)] at h8
                  unfold num
                  rw [if_pos hq, h8]
                  first | (rw [if_pos (by dsimp only; omega)]; exact ⟨rfl, zC_31 _ _ _⟩) | (rw [if_neg (by dsimp only; omega)]; exact ⟨rfl, zC_31 _ _ _⟩)
            · refine m_bipush rfl rfl (by decide) ?_
              refine m_iload_n rfl rfl rfl ?_
              refine m_imul rfl rfl ?_
              refine m_aload_n rfl rfl rfl ?_
              refine m_cv1 rfl rfl lk_7_230 (show zkCt l G i_Mo_sign _ 0 0 _ _ (zkR1 (vi (sgn m a)) _) from c_sign (p := (a, -1)) hl hT (by dsimp only; omega)) rfl (by first | decide | assumption | (simp only [cnt]; omega)) (Nat.le_of_ble_eq_true rfl) rfl rfl (Nat.le_of_ble_eq_true rfl) (Nat.le_of_ble_eq_true rfl) (Nat.le_of_ble_eq_true rfl) (Nat.le_of_ble_eq_true rfl) (Nat.le_of_ble_eq_true rfl) ?_
              refine m_iadd rfl rfl ?_
              refine m_bipush rfl rfl (by decide) ?_
              refine m_isub rfl rfl ?_
              refine m_istore_n rfl rfl (Nat.le_of_ble_eq_true rfl) rfl ?_
              refine m_iinc rfl rfl rfl (Nat.le_of_ble_eq_true rfl) rfl ?_
              refine m_aload_n rfl rfl rfl ?_
              refine m_dup rfl rfl rfl ?_
              refine m_gix (k := 30) (x := a) rfl rfl (Nat.le_of_ble_eq_true rfl) rfl rfl (by first | decide | assumption | (simp only [cnt]; omega)) rfl ?_
              refine m_iconst rfl rfl ?_
              refine m_iadd rfl rfl ?_
              refine m_pi (k := 30) rfl rfl (Nat.le_of_ble_eq_true rfl) rfl rfl rfl rfl (by first | decide | assumption | (simp only [cnt]; omega)) ?_
              refine m_goto (tgt := 10) rfl rfl rfl ?_
              rw [zC_30]
              rw [nmf_s m r a n d, if_pos (by omega)] at h8
              exact ih (a + 1) _ (d + 1) (by omega) (by omega) (by omega) (by omega) (by omega) (by omega) (by omega) h8

set_option maxRecDepth 10000 in
theorem c_number {l : Launch} {G : zkG} (hl : l.stackTraces = false) {m : zkM} {p : Int × Int} (hT : txA m) (hp : txP p) : zkCt l G i_Mo_number 2 0 0 [vr 7 0] (zC m p) (zkR1 (vi (num m p).1) (zC m (num m p).2)) := by
  refine zkCt_of hl ok_Mo_number (by decide +kernel) rfl rfl (List.forall_mem_cons.mpr ⟨rfl, fun _ h => nomatch h⟩) (Nat.le_of_ble_eq_true rfl) ?_
  have hq := tk_b hT (c := 32) (by omega) hp
  refine m_aload_n rfl rfl rfl ?_
  refine m_bipush rfl rfl (by decide) ?_
  refine m_cv0 rfl rfl lk_7_233 (c_take hl hT (by assumption) (by omega)) rfl (by first | decide | assumption | (simp only [cnt]; omega)) (Nat.le_of_ble_eq_true rfl) rfl rfl (Nat.le_of_ble_eq_true rfl) (Nat.le_of_ble_eq_true rfl) (Nat.le_of_ble_eq_true rfl) (Nat.le_of_ble_eq_true rfl) (Nat.le_of_ble_eq_true rfl) ?_
  refine m_iconst rfl rfl ?_
  refine m_istore_n rfl rfl (Nat.le_of_ble_eq_true rfl) rfl ?_
  refine m_iconst rfl rfl ?_
  refine m_istore_n rfl rfl (Nat.le_of_ble_eq_true rfl) rfl ?_
  by_cases hz : (tk m 32 p).2 = -1
  · have e9 : tk m 32 p = ((tk m 32 p).1, -1) := by rw [← hz]
    rw [e9]
    exact w_number hl hT hz 3 (tk m 32 p).1 0 0 (by omega) (by omega) hq.1 (by omega) (by omega) (by omega) (by omega) rfl
  · obtain ⟨g1, g2⟩ := hq
    refine m_aload_n rfl rfl rfl ?_
    refine m_gix (k := 31) (x := (tk m 32 p).2) rfl rfl (Nat.le_of_ble_eq_true rfl) rfl rfl (by first | decide | assumption | (simp only [cnt]; omega)) rfl ?_
    refine m_iconst rfl rfl ?_
    refine m_icmp_ne (tgt := 74) rfl rfl rfl (by omega) (by omega) (fun c15 => ?_) (fun c15 => ?_)
    · refine m_aload_n rfl rfl rfl ?_
      refine m_aload_n rfl rfl rfl ?_
      refine m_gix (k := 31) (x := (tk m 32 p).2) rfl rfl (Nat.le_of_ble_eq_true rfl) rfl rfl (by first | decide | assumption | (simp only [cnt]; omega)) rfl ?_
      refine m_iconst rfl rfl ?_
      refine m_icmp_ne (tgt := 94) rfl rfl rfl (by omega) (by omega) (fun c80 => ?_) (fun c80 => ?_)
      · refine m_aload_n rfl rfl rfl ?_
        refine m_gix (k := 31) (x := (tk m 32 p).2) rfl rfl (Nat.le_of_ble_eq_true rfl) rfl rfl (by first | decide | assumption | (simp only [cnt]; omega)) rfl ?_
        refine m_pi (k := 31) rfl rfl (Nat.le_of_ble_eq_true rfl) rfl rfl rfl rfl (by first | decide | assumption | (simp only [cnt]; omega)) ?_
        refine m_iload_n rfl rfl rfl ?_
        refine m_iret rfl rfl rfl (Nat.le_of_ble_eq_true rfl) (Nat.le_of_ble_eq_true rfl) ?_
        unfold num
        rw [if_neg hz]
        exact ⟨rfl, zC_31 _ _ _⟩
      · exfalso; omega
    · exfalso; omega
end
