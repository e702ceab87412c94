section
-- ===== PART A: goes FIRST, ahead of the names: the tables' words, and 'selects' of the private methods out of them =====
/-- a private method of a class that the tables say can be made, by its rows of tables_1 -/
def lw_okq (q : MethodName × Nat) : Prop := (q.1.cls ≠ "java/lang/invoke/MethodHandle" ∧ q.1.cls ≠ "java/lang/invoke/VarHandle") ∧ Cond.instantiable q.1.cls q.2 ∈ tables_1 ∧ Cond.privateMethod q.1 ∈ tables_1 ∧ Cond.instanceMethod q.1 ∈ tables_1
theorem lw_p0 : lw_okq (⟨"CeilingWorkbench$Bench", "removeAll", "()I"⟩, 8) := ⟨⟨by decide +kernel, by decide +kernel⟩, List.mem_of_getElem? (i := 35) (by decide +kernel), List.mem_of_getElem? (i := 278) (by decide +kernel), List.mem_of_getElem? (i := 279) (by decide +kernel)⟩
theorem lw_p1 : lw_okq (⟨"CeilingWorkbench$Bench", "startAgain", "()I"⟩, 8) := ⟨⟨by decide +kernel, by decide +kernel⟩, List.mem_of_getElem? (i := 35) (by decide +kernel), List.mem_of_getElem? (i := 282) (by decide +kernel), List.mem_of_getElem? (i := 283) (by decide +kernel)⟩
theorem lw_p2 : lw_okq (⟨"CeilingWorkbench$Task", "startAgain", "()V"⟩, 15) := ⟨⟨by decide +kernel, by decide +kernel⟩, List.mem_of_getElem? (i := 115) (by decide +kernel), List.mem_of_getElem? (i := 286) (by decide +kernel), List.mem_of_getElem? (i := 287) (by decide +kernel)⟩
theorem lw_p3 : lw_okq (⟨"CeilingWorkbench$Jobs", "removeAll", "()V"⟩, 3) := ⟨⟨by decide +kernel, by decide +kernel⟩, List.mem_of_getElem? (i := 121) (by decide +kernel), List.mem_of_getElem? (i := 290) (by decide +kernel), List.mem_of_getElem? (i := 291) (by decide +kernel)⟩
theorem lw_p4 : lw_okq (⟨"CeilingWorkbench$Server", "startAgain", "()V"⟩, 11) := ⟨⟨by decide +kernel, by decide +kernel⟩, List.mem_of_getElem? (i := 43) (by decide +kernel), List.mem_of_getElem? (i := 294) (by decide +kernel), List.mem_of_getElem? (i := 295) (by decide +kernel)⟩
theorem lw_p5 : lw_okq (⟨"CeilingWorkbench$Requests", "startAgain", "()V"⟩, 5) := ⟨⟨by decide +kernel, by decide +kernel⟩, List.mem_of_getElem? (i := 92) (by decide +kernel), List.mem_of_getElem? (i := 298) (by decide +kernel), List.mem_of_getElem? (i := 299) (by decide +kernel)⟩
theorem lw_p6 : lw_okq (⟨"CeilingWorkbench$Requests", "removeAll", "()V"⟩, 5) := ⟨⟨by decide +kernel, by decide +kernel⟩, List.mem_of_getElem? (i := 92) (by decide +kernel), List.mem_of_getElem? (i := 302) (by decide +kernel), List.mem_of_getElem? (i := 303) (by decide +kernel)⟩
theorem lw_p7 : lw_okq (⟨"CeilingWorkbench$Bench", "copyFrom", "(LCeilingWorkbench$Bench;)V"⟩, 8) := ⟨⟨by decide +kernel, by decide +kernel⟩, List.mem_of_getElem? (i := 35) (by decide +kernel), List.mem_of_getElem? (i := 371) (by decide +kernel), List.mem_of_getElem? (i := 372) (by decide +kernel)⟩
theorem lw_p8 : lw_okq (⟨"CeilingWorkbench$Task", "copyFrom", "(LCeilingWorkbench$Task;)V"⟩, 15) := ⟨⟨by decide +kernel, by decide +kernel⟩, List.mem_of_getElem? (i := 115) (by decide +kernel), List.mem_of_getElem? (i := 375) (by decide +kernel), List.mem_of_getElem? (i := 376) (by decide +kernel)⟩
theorem lw_p9 : lw_okq (⟨"CeilingWorkbench$Jobs", "copyFrom", "(LCeilingWorkbench$Jobs;)V"⟩, 3) := ⟨⟨by decide +kernel, by decide +kernel⟩, List.mem_of_getElem? (i := 121) (by decide +kernel), List.mem_of_getElem? (i := 382) (by decide +kernel), List.mem_of_getElem? (i := 383) (by decide +kernel)⟩
theorem lw_p10 : lw_okq (⟨"CeilingWorkbench$Server", "copyFrom", "(LCeilingWorkbench$Server;)V"⟩, 11) := ⟨⟨by decide +kernel, by decide +kernel⟩, List.mem_of_getElem? (i := 43) (by decide +kernel), List.mem_of_getElem? (i := 387) (by decide +kernel), List.mem_of_getElem? (i := 388) (by decide +kernel)⟩
theorem lw_p11 : lw_okq (⟨"CeilingWorkbench$Requests", "copyFrom", "(LCeilingWorkbench$Requests;)V"⟩, 5) := ⟨⟨by decide +kernel, by decide +kernel⟩, List.mem_of_getElem? (i := 92) (by decide +kernel), List.mem_of_getElem? (i := 392) (by decide +kernel), List.mem_of_getElem? (i := 393) (by decide +kernel)⟩
theorem lw_p12 : lw_okq (⟨"CeilingWorkbench$Bench", "putTask", "(IIII)I"⟩, 8) := ⟨⟨by decide +kernel, by decide +kernel⟩, List.mem_of_getElem? (i := 35) (by decide +kernel), List.mem_of_getElem? (i := 408) (by decide +kernel), List.mem_of_getElem? (i := 409) (by decide +kernel)⟩
theorem lw_p13 : lw_okq (⟨"CeilingWorkbench$Bench", "isPriorityOfTask", "(I)Z"⟩, 8) := ⟨⟨by decide +kernel, by decide +kernel⟩, List.mem_of_getElem? (i := 35) (by decide +kernel), List.mem_of_getElem? (i := 413) (by decide +kernel), List.mem_of_getElem? (i := 414) (by decide +kernel)⟩
theorem lw_p14 : lw_okq (⟨"CeilingWorkbench$Server", "hasPriority", "(I)Z"⟩, 11) := ⟨⟨by decide +kernel, by decide +kernel⟩, List.mem_of_getElem? (i := 43) (by decide +kernel), List.mem_of_getElem? (i := 417) (by decide +kernel), List.mem_of_getElem? (i := 418) (by decide +kernel)⟩
theorem lw_p15 : lw_okq (⟨"CeilingWorkbench$Task", "begin", "(IIII)V"⟩, 15) := ⟨⟨by decide +kernel, by decide +kernel⟩, List.mem_of_getElem? (i := 115) (by decide +kernel), List.mem_of_getElem? (i := 421) (by decide +kernel), List.mem_of_getElem? (i := 422) (by decide +kernel)⟩
def lw_privs_1 : List (MethodName × Nat) := [(⟨"CeilingWorkbench$Bench", "removeAll", "()I"⟩, 8), (⟨"CeilingWorkbench$Bench", "startAgain", "()I"⟩, 8), (⟨"CeilingWorkbench$Task", "startAgain", "()V"⟩, 15), (⟨"CeilingWorkbench$Jobs", "removeAll", "()V"⟩, 3), (⟨"CeilingWorkbench$Server", "startAgain", "()V"⟩, 11), (⟨"CeilingWorkbench$Requests", "startAgain", "()V"⟩, 5), (⟨"CeilingWorkbench$Requests", "removeAll", "()V"⟩, 5), (⟨"CeilingWorkbench$Bench", "copyFrom", "(LCeilingWorkbench$Bench;)V"⟩, 8), (⟨"CeilingWorkbench$Task", "copyFrom", "(LCeilingWorkbench$Task;)V"⟩, 15), (⟨"CeilingWorkbench$Jobs", "copyFrom", "(LCeilingWorkbench$Jobs;)V"⟩, 3), (⟨"CeilingWorkbench$Server", "copyFrom", "(LCeilingWorkbench$Server;)V"⟩, 11), (⟨"CeilingWorkbench$Requests", "copyFrom", "(LCeilingWorkbench$Requests;)V"⟩, 5), (⟨"CeilingWorkbench$Bench", "putTask", "(IIII)I"⟩, 8), (⟨"CeilingWorkbench$Bench", "isPriorityOfTask", "(I)Z"⟩, 8), (⟨"CeilingWorkbench$Server", "hasPriority", "(I)Z"⟩, 11), (⟨"CeilingWorkbench$Task", "begin", "(IIII)V"⟩, 15)]
theorem lw_r1 : ∀ q ∈ lw_privs_1, lw_okq q := List.forall_mem_cons.mpr ⟨lw_p0, List.forall_mem_cons.mpr ⟨lw_p1, List.forall_mem_cons.mpr ⟨lw_p2, List.forall_mem_cons.mpr ⟨lw_p3, List.forall_mem_cons.mpr ⟨lw_p4, List.forall_mem_cons.mpr ⟨lw_p5, List.forall_mem_cons.mpr ⟨lw_p6, List.forall_mem_cons.mpr ⟨lw_p7, List.forall_mem_cons.mpr ⟨lw_p8, List.forall_mem_cons.mpr ⟨lw_p9, List.forall_mem_cons.mpr ⟨lw_p10, List.forall_mem_cons.mpr ⟨lw_p11, List.forall_mem_cons.mpr ⟨lw_p12, List.forall_mem_cons.mpr ⟨lw_p13, List.forall_mem_cons.mpr ⟨lw_p14, List.forall_mem_cons.mpr ⟨lw_p15, fun _ h => absurd h List.not_mem_nil⟩⟩⟩⟩⟩⟩⟩⟩⟩⟩⟩⟩⟩⟩⟩⟩
theorem lw_p16 : lw_okq (⟨"java/lang/Throwable", "fillInStackTrace", "(I)Ljava/lang/Throwable;"⟩, 6) := ⟨⟨by decide +kernel, by decide +kernel⟩, List.mem_of_getElem? (i := 471) (by decide +kernel), List.mem_of_getElem? (i := 469) (by decide +kernel), List.mem_of_getElem? (i := 470) (by decide +kernel)⟩
theorem lw_p17 : lw_okq (⟨"CeilingWorkbench$Bench", "putSegment", "(III)I"⟩, 8) := ⟨⟨by decide +kernel, by decide +kernel⟩, List.mem_of_getElem? (i := 35) (by decide +kernel), List.mem_of_getElem? (i := 577) (by decide +kernel), List.mem_of_getElem? (i := 578) (by decide +kernel)⟩
theorem lw_p18 : lw_okq (⟨"CeilingWorkbench$Bench", "hasTask", "(I)Z"⟩, 8) := ⟨⟨by decide +kernel, by decide +kernel⟩, List.mem_of_getElem? (i := 35) (by decide +kernel), List.mem_of_getElem? (i := 581) (by decide +kernel), List.mem_of_getElem? (i := 582) (by decide +kernel)⟩
theorem lw_p19 : lw_okq (⟨"CeilingWorkbench$Task", "addPart", "(II)V"⟩, 15) := ⟨⟨by decide +kernel, by decide +kernel⟩, List.mem_of_getElem? (i := 115) (by decide +kernel), List.mem_of_getElem? (i := 585) (by decide +kernel), List.mem_of_getElem? (i := 586) (by decide +kernel)⟩
theorem lw_p20 : lw_okq (⟨"CeilingWorkbench$Bench", "putServer", "(III)I"⟩, 8) := ⟨⟨by decide +kernel, by decide +kernel⟩, List.mem_of_getElem? (i := 35) (by decide +kernel), List.mem_of_getElem? (i := 597) (by decide +kernel), List.mem_of_getElem? (i := 598) (by decide +kernel)⟩
theorem lw_p21 : lw_okq (⟨"CeilingWorkbench$Server", "begin", "(III)V"⟩, 11) := ⟨⟨by decide +kernel, by decide +kernel⟩, List.mem_of_getElem? (i := 43) (by decide +kernel), List.mem_of_getElem? (i := 601) (by decide +kernel), List.mem_of_getElem? (i := 602) (by decide +kernel)⟩
theorem lw_p22 : lw_okq (⟨"CeilingWorkbench$Bench", "putRequest", "(II)I"⟩, 8) := ⟨⟨by decide +kernel, by decide +kernel⟩, List.mem_of_getElem? (i := 35) (by decide +kernel), List.mem_of_getElem? (i := 613) (by decide +kernel), List.mem_of_getElem? (i := 614) (by decide +kernel)⟩
theorem lw_p23 : lw_okq (⟨"CeilingWorkbench$Requests", "isFull", "()Z"⟩, 5) := ⟨⟨by decide +kernel, by decide +kernel⟩, List.mem_of_getElem? (i := 92) (by decide +kernel), List.mem_of_getElem? (i := 617) (by decide +kernel), List.mem_of_getElem? (i := 618) (by decide +kernel)⟩
theorem lw_p24 : lw_okq (⟨"CeilingWorkbench$Requests", "add", "(II)I"⟩, 5) := ⟨⟨by decide +kernel, by decide +kernel⟩, List.mem_of_getElem? (i := 92) (by decide +kernel), List.mem_of_getElem? (i := 621) (by decide +kernel), List.mem_of_getElem? (i := 622) (by decide +kernel)⟩
theorem lw_p25 : lw_okq (⟨"CeilingWorkbench$Bench", "putPolicy", "(I)I"⟩, 8) := ⟨⟨by decide +kernel, by decide +kernel⟩, List.mem_of_getElem? (i := 35) (by decide +kernel), List.mem_of_getElem? (i := 633) (by decide +kernel), List.mem_of_getElem? (i := 634) (by decide +kernel)⟩
theorem lw_p26 : lw_okq (⟨"CeilingWorkbench$Reader", "isFull", "()Z"⟩, 5) := ⟨⟨by decide +kernel, by decide +kernel⟩, List.mem_of_getElem? (i := 234) (by decide +kernel), List.mem_of_getElem? (i := 646) (by decide +kernel), List.mem_of_getElem? (i := 647) (by decide +kernel)⟩
theorem lw_p27 : lw_okq (⟨"CeilingWorkbench$Reader", "put", "(C)I"⟩, 5) := ⟨⟨by decide +kernel, by decide +kernel⟩, List.mem_of_getElem? (i := 234) (by decide +kernel), List.mem_of_getElem? (i := 651) (by decide +kernel), List.mem_of_getElem? (i := 652) (by decide +kernel)⟩
theorem lw_p28 : lw_okq (⟨"CeilingWorkbench$Reader", "takeForm", "()I"⟩, 5) := ⟨⟨by decide +kernel, by decide +kernel⟩, List.mem_of_getElem? (i := 234) (by decide +kernel), List.mem_of_getElem? (i := 663) (by decide +kernel), List.mem_of_getElem? (i := 664) (by decide +kernel)⟩
theorem lw_p29 : lw_okq (⟨"CeilingWorkbench$Reader", "fits", "(Ljava/lang/String;)Z"⟩, 5) := ⟨⟨by decide +kernel, by decide +kernel⟩, List.mem_of_getElem? (i := 234) (by decide +kernel), List.mem_of_getElem? (i := 679) (by decide +kernel), List.mem_of_getElem? (i := 680) (by decide +kernel)⟩
theorem lw_p30 : lw_okq (⟨"CeilingWorkbench$Reader", "afterNumber", "(I)I"⟩, 5) := ⟨⟨by decide +kernel, by decide +kernel⟩, List.mem_of_getElem? (i := 234) (by decide +kernel), List.mem_of_getElem? (i := 731) (by decide +kernel), List.mem_of_getElem? (i := 732) (by decide +kernel)⟩
theorem lw_p31 : lw_okq (⟨"CeilingWorkbench$Reader", "afterSign", "(IC)I"⟩, 5) := ⟨⟨by decide +kernel, by decide +kernel⟩, List.mem_of_getElem? (i := 234) (by decide +kernel), List.mem_of_getElem? (i := 736) (by decide +kernel), List.mem_of_getElem? (i := 737) (by decide +kernel)⟩
def lw_privs_2 : List (MethodName × Nat) := [(⟨"java/lang/Throwable", "fillInStackTrace", "(I)Ljava/lang/Throwable;"⟩, 6), (⟨"CeilingWorkbench$Bench", "putSegment", "(III)I"⟩, 8), (⟨"CeilingWorkbench$Bench", "hasTask", "(I)Z"⟩, 8), (⟨"CeilingWorkbench$Task", "addPart", "(II)V"⟩, 15), (⟨"CeilingWorkbench$Bench", "putServer", "(III)I"⟩, 8), (⟨"CeilingWorkbench$Server", "begin", "(III)V"⟩, 11), (⟨"CeilingWorkbench$Bench", "putRequest", "(II)I"⟩, 8), (⟨"CeilingWorkbench$Requests", "isFull", "()Z"⟩, 5), (⟨"CeilingWorkbench$Requests", "add", "(II)I"⟩, 5), (⟨"CeilingWorkbench$Bench", "putPolicy", "(I)I"⟩, 8), (⟨"CeilingWorkbench$Reader", "isFull", "()Z"⟩, 5), (⟨"CeilingWorkbench$Reader", "put", "(C)I"⟩, 5), (⟨"CeilingWorkbench$Reader", "takeForm", "()I"⟩, 5), (⟨"CeilingWorkbench$Reader", "fits", "(Ljava/lang/String;)Z"⟩, 5), (⟨"CeilingWorkbench$Reader", "afterNumber", "(I)I"⟩, 5), (⟨"CeilingWorkbench$Reader", "afterSign", "(IC)I"⟩, 5)]
theorem lw_r2 : ∀ q ∈ lw_privs_2, lw_okq q := List.forall_mem_cons.mpr ⟨lw_p16, List.forall_mem_cons.mpr ⟨lw_p17, List.forall_mem_cons.mpr ⟨lw_p18, List.forall_mem_cons.mpr ⟨lw_p19, List.forall_mem_cons.mpr ⟨lw_p20, List.forall_mem_cons.mpr ⟨lw_p21, List.forall_mem_cons.mpr ⟨lw_p22, List.forall_mem_cons.mpr ⟨lw_p23, List.forall_mem_cons.mpr ⟨lw_p24, List.forall_mem_cons.mpr ⟨lw_p25, List.forall_mem_cons.mpr ⟨lw_p26, List.forall_mem_cons.mpr ⟨lw_p27, List.forall_mem_cons.mpr ⟨lw_p28, List.forall_mem_cons.mpr ⟨lw_p29, List.forall_mem_cons.mpr ⟨lw_p30, List.forall_mem_cons.mpr ⟨lw_p31, fun _ h => absurd h List.not_mem_nil⟩⟩⟩⟩⟩⟩⟩⟩⟩⟩⟩⟩⟩⟩⟩⟩
theorem lw_p32 : lw_okq (⟨"CeilingWorkbench", "perform", "(I)I"⟩, 5) := ⟨⟨by decide +kernel, by decide +kernel⟩, List.mem_of_getElem? (i := 27) (by decide +kernel), List.mem_of_getElem? (i := 742) (by decide +kernel), List.mem_of_getElem? (i := 743) (by decide +kernel)⟩
theorem lw_p33 : lw_okq (⟨"CeilingWorkbench$Reader", "number", "(I)I"⟩, 5) := ⟨⟨by decide +kernel, by decide +kernel⟩, List.mem_of_getElem? (i := 234) (by decide +kernel), List.mem_of_getElem? (i := 746) (by decide +kernel), List.mem_of_getElem? (i := 747) (by decide +kernel)⟩
theorem lw_p34 : lw_okq (⟨"CeilingWorkbench", "taskAt", "(I)LCeilingWorkbench$Task;"⟩, 5) := ⟨⟨by decide +kernel, by decide +kernel⟩, List.mem_of_getElem? (i := 27) (by decide +kernel), List.mem_of_getElem? (i := 782) (by decide +kernel), List.mem_of_getElem? (i := 783) (by decide +kernel)⟩
theorem lw_p35 : lw_okq (⟨"CeilingWorkbench$Task", "property", "(I)I"⟩, 15) := ⟨⟨by decide +kernel, by decide +kernel⟩, List.mem_of_getElem? (i := 115) (by decide +kernel), List.mem_of_getElem? (i := 788) (by decide +kernel), List.mem_of_getElem? (i := 789) (by decide +kernel)⟩
theorem lw_p36 : lw_okq (⟨"CeilingWorkbench", "taskWithSegments", "(I)LCeilingWorkbench$Task;"⟩, 5) := ⟨⟨by decide +kernel, by decide +kernel⟩, List.mem_of_getElem? (i := 27) (by decide +kernel), List.mem_of_getElem? (i := 818) (by decide +kernel), List.mem_of_getElem? (i := 819) (by decide +kernel)⟩
theorem lw_p37 : lw_okq (⟨"CeilingWorkbench$Bench", "makeUnits", "(I)I"⟩, 8) := ⟨⟨by decide +kernel, by decide +kernel⟩, List.mem_of_getElem? (i := 35) (by decide +kernel), List.mem_of_getElem? (i := 853) (by decide +kernel), List.mem_of_getElem? (i := 854) (by decide +kernel)⟩
theorem lw_p38 : lw_okq (⟨"CeilingWorkbench$Bench", "makeUnit", "()I"⟩, 8) := ⟨⟨by decide +kernel, by decide +kernel⟩, List.mem_of_getElem? (i := 35) (by decide +kernel), List.mem_of_getElem? (i := 857) (by decide +kernel), List.mem_of_getElem? (i := 858) (by decide +kernel)⟩
theorem lw_p39 : lw_okq (⟨"CeilingWorkbench$Server", "replenishAt", "(I)V"⟩, 11) := ⟨⟨by decide +kernel, by decide +kernel⟩, List.mem_of_getElem? (i := 43) (by decide +kernel), List.mem_of_getElem? (i := 861) (by decide +kernel), List.mem_of_getElem? (i := 862) (by decide +kernel)⟩
theorem lw_p40 : lw_okq (⟨"CeilingWorkbench$Task", "releaseAt", "(I)V"⟩, 15) := ⟨⟨by decide +kernel, by decide +kernel⟩, List.mem_of_getElem? (i := 115) (by decide +kernel), List.mem_of_getElem? (i := 865) (by decide +kernel), List.mem_of_getElem? (i := 866) (by decide +kernel)⟩
theorem lw_p41 : lw_okq (⟨"CeilingWorkbench$Jobs", "add", "(I)V"⟩, 3) := ⟨⟨by decide +kernel, by decide +kernel⟩, List.mem_of_getElem? (i := 121) (by decide +kernel), List.mem_of_getElem? (i := 869) (by decide +kernel), List.mem_of_getElem? (i := 870) (by decide +kernel)⟩
theorem lw_p42 : lw_okq (⟨"CeilingWorkbench$Task", "missAt", "(II)V"⟩, 15) := ⟨⟨by decide +kernel, by decide +kernel⟩, List.mem_of_getElem? (i := 115) (by decide +kernel), List.mem_of_getElem? (i := 873) (by decide +kernel), List.mem_of_getElem? (i := 874) (by decide +kernel)⟩
theorem lw_p43 : lw_okq (⟨"CeilingWorkbench$Jobs", "placeOf", "(I)I"⟩, 3) := ⟨⟨by decide +kernel, by decide +kernel⟩, List.mem_of_getElem? (i := 121) (by decide +kernel), List.mem_of_getElem? (i := 877) (by decide +kernel), List.mem_of_getElem? (i := 878) (by decide +kernel)⟩
theorem lw_p44 : lw_okq (⟨"CeilingWorkbench$Task", "removeJob", "(I)V"⟩, 15) := ⟨⟨by decide +kernel, by decide +kernel⟩, List.mem_of_getElem? (i := 115) (by decide +kernel), List.mem_of_getElem? (i := 881) (by decide +kernel), List.mem_of_getElem? (i := 882) (by decide +kernel)⟩
theorem lw_p45 : lw_okq (⟨"CeilingWorkbench$Jobs", "removeAt", "(I)V"⟩, 3) := ⟨⟨by decide +kernel, by decide +kernel⟩, List.mem_of_getElem? (i := 121) (by decide +kernel), List.mem_of_getElem? (i := 885) (by decide +kernel), List.mem_of_getElem? (i := 886) (by decide +kernel)⟩
theorem lw_p46 : lw_okq (⟨"CeilingWorkbench$Jobs", "size", "()I"⟩, 3) := ⟨⟨by decide +kernel, by decide +kernel⟩, List.mem_of_getElem? (i := 121) (by decide +kernel), List.mem_of_getElem? (i := 889) (by decide +kernel), List.mem_of_getElem? (i := 890) (by decide +kernel)⟩
theorem lw_p47 : lw_okq (⟨"CeilingWorkbench$Requests", "nextToServe", "(I)I"⟩, 5) := ⟨⟨by decide +kernel, by decide +kernel⟩, List.mem_of_getElem? (i := 92) (by decide +kernel), List.mem_of_getElem? (i := 894) (by decide +kernel), List.mem_of_getElem? (i := 895) (by decide +kernel)⟩
def lw_privs_3 : List (MethodName × Nat) := [(⟨"CeilingWorkbench", "perform", "(I)I"⟩, 5), (⟨"CeilingWorkbench$Reader", "number", "(I)I"⟩, 5), (⟨"CeilingWorkbench", "taskAt", "(I)LCeilingWorkbench$Task;"⟩, 5), (⟨"CeilingWorkbench$Task", "property", "(I)I"⟩, 15), (⟨"CeilingWorkbench", "taskWithSegments", "(I)LCeilingWorkbench$Task;"⟩, 5), (⟨"CeilingWorkbench$Bench", "makeUnits", "(I)I"⟩, 8), (⟨"CeilingWorkbench$Bench", "makeUnit", "()I"⟩, 8), (⟨"CeilingWorkbench$Server", "replenishAt", "(I)V"⟩, 11), (⟨"CeilingWorkbench$Task", "releaseAt", "(I)V"⟩, 15), (⟨"CeilingWorkbench$Jobs", "add", "(I)V"⟩, 3), (⟨"CeilingWorkbench$Task", "missAt", "(II)V"⟩, 15), (⟨"CeilingWorkbench$Jobs", "placeOf", "(I)I"⟩, 3), (⟨"CeilingWorkbench$Task", "removeJob", "(I)V"⟩, 15), (⟨"CeilingWorkbench$Jobs", "removeAt", "(I)V"⟩, 3), (⟨"CeilingWorkbench$Jobs", "size", "()I"⟩, 3), (⟨"CeilingWorkbench$Requests", "nextToServe", "(I)I"⟩, 5)]
theorem lw_r3 : ∀ q ∈ lw_privs_3, lw_okq q := List.forall_mem_cons.mpr ⟨lw_p32, List.forall_mem_cons.mpr ⟨lw_p33, List.forall_mem_cons.mpr ⟨lw_p34, List.forall_mem_cons.mpr ⟨lw_p35, List.forall_mem_cons.mpr ⟨lw_p36, List.forall_mem_cons.mpr ⟨lw_p37, List.forall_mem_cons.mpr ⟨lw_p38, List.forall_mem_cons.mpr ⟨lw_p39, List.forall_mem_cons.mpr ⟨lw_p40, List.forall_mem_cons.mpr ⟨lw_p41, List.forall_mem_cons.mpr ⟨lw_p42, List.forall_mem_cons.mpr ⟨lw_p43, List.forall_mem_cons.mpr ⟨lw_p44, List.forall_mem_cons.mpr ⟨lw_p45, List.forall_mem_cons.mpr ⟨lw_p46, List.forall_mem_cons.mpr ⟨lw_p47, fun _ h => absurd h List.not_mem_nil⟩⟩⟩⟩⟩⟩⟩⟩⟩⟩⟩⟩⟩⟩⟩⟩
theorem lw_p48 : lw_okq (⟨"CeilingWorkbench$Server", "isReady", "(Z)Z"⟩, 11) := ⟨⟨by decide +kernel, by decide +kernel⟩, List.mem_of_getElem? (i := 43) (by decide +kernel), List.mem_of_getElem? (i := 898) (by decide +kernel), List.mem_of_getElem? (i := 899) (by decide +kernel)⟩
theorem lw_p49 : lw_okq (⟨"CeilingWorkbench$Bench", "mostUrgent", "(Z)I"⟩, 8) := ⟨⟨by decide +kernel, by decide +kernel⟩, List.mem_of_getElem? (i := 35) (by decide +kernel), List.mem_of_getElem? (i := 902) (by decide +kernel), List.mem_of_getElem? (i := 903) (by decide +kernel)⟩
theorem lw_p50 : lw_okq (⟨"CeilingWorkbench$Jobs", "isEmpty", "()Z"⟩, 3) := ⟨⟨by decide +kernel, by decide +kernel⟩, List.mem_of_getElem? (i := 121) (by decide +kernel), List.mem_of_getElem? (i := 906) (by decide +kernel), List.mem_of_getElem? (i := 907) (by decide +kernel)⟩
theorem lw_p51 : lw_okq (⟨"CeilingWorkbench$Bench", "urgencyOf", "(LCeilingWorkbench$Task;)I"⟩, 8) := ⟨⟨by decide +kernel, by decide +kernel⟩, List.mem_of_getElem? (i := 35) (by decide +kernel), List.mem_of_getElem? (i := 910) (by decide +kernel), List.mem_of_getElem? (i := 911) (by decide +kernel)⟩
theorem lw_p52 : lw_okq (⟨"CeilingWorkbench$Task", "heldResource", "()I"⟩, 15) := ⟨⟨by decide +kernel, by decide +kernel⟩, List.mem_of_getElem? (i := 115) (by decide +kernel), List.mem_of_getElem? (i := 914) (by decide +kernel), List.mem_of_getElem? (i := 915) (by decide +kernel)⟩
theorem lw_p53 : lw_okq (⟨"CeilingWorkbench$Bench", "notePreemption", "(I)V"⟩, 8) := ⟨⟨by decide +kernel, by decide +kernel⟩, List.mem_of_getElem? (i := 35) (by decide +kernel), List.mem_of_getElem? (i := 918) (by decide +kernel), List.mem_of_getElem? (i := 919) (by decide +kernel)⟩
theorem lw_p54 : lw_okq (⟨"CeilingWorkbench$Task", "hasStartedJob", "()Z"⟩, 15) := ⟨⟨by decide +kernel, by decide +kernel⟩, List.mem_of_getElem? (i := 115) (by decide +kernel), List.mem_of_getElem? (i := 922) (by decide +kernel), List.mem_of_getElem? (i := 923) (by decide +kernel)⟩
theorem lw_p55 : lw_okq (⟨"CeilingWorkbench$Server", "runUnit", "(I)V"⟩, 11) := ⟨⟨by decide +kernel, by decide +kernel⟩, List.mem_of_getElem? (i := 43) (by decide +kernel), List.mem_of_getElem? (i := 926) (by decide +kernel), List.mem_of_getElem? (i := 927) (by decide +kernel)⟩
theorem lw_p56 : lw_okq (⟨"CeilingWorkbench$Requests", "serve", "(II)V"⟩, 5) := ⟨⟨by decide +kernel, by decide +kernel⟩, List.mem_of_getElem? (i := 92) (by decide +kernel), List.mem_of_getElem? (i := 930) (by decide +kernel), List.mem_of_getElem? (i := 931) (by decide +kernel)⟩
theorem lw_p57 : lw_okq (⟨"CeilingWorkbench$Task", "runUnit", "(I)Z"⟩, 15) := ⟨⟨by decide +kernel, by decide +kernel⟩, List.mem_of_getElem? (i := 115) (by decide +kernel), List.mem_of_getElem? (i := 935) (by decide +kernel), List.mem_of_getElem? (i := 936) (by decide +kernel)⟩
theorem lw_p58 : lw_okq (⟨"CeilingWorkbench$Jobs", "firstRelease", "()I"⟩, 3) := ⟨⟨by decide +kernel, by decide +kernel⟩, List.mem_of_getElem? (i := 121) (by decide +kernel), List.mem_of_getElem? (i := 939) (by decide +kernel), List.mem_of_getElem? (i := 940) (by decide +kernel)⟩
theorem lw_p59 : lw_okq (⟨"CeilingWorkbench$Task", "finishJob", "(I)V"⟩, 15) := ⟨⟨by decide +kernel, by decide +kernel⟩, List.mem_of_getElem? (i := 115) (by decide +kernel), List.mem_of_getElem? (i := 943) (by decide +kernel), List.mem_of_getElem? (i := 944) (by decide +kernel)⟩
theorem lw_p60 : lw_okq (⟨"CeilingWorkbench$Jobs", "removeFirst", "()V"⟩, 3) := ⟨⟨by decide +kernel, by decide +kernel⟩, List.mem_of_getElem? (i := 121) (by decide +kernel), List.mem_of_getElem? (i := 947) (by decide +kernel), List.mem_of_getElem? (i := 948) (by decide +kernel)⟩
theorem lw_p61 : lw_okq (⟨"CeilingWorkbench$Server", "endUnit", "(IZ)V"⟩, 11) := ⟨⟨by decide +kernel, by decide +kernel⟩, List.mem_of_getElem? (i := 43) (by decide +kernel), List.mem_of_getElem? (i := 952) (by decide +kernel), List.mem_of_getElem? (i := 953) (by decide +kernel)⟩
theorem lw_p62 : lw_okq (⟨"CeilingWorkbench$Bench", "holderOf", "(I)I"⟩, 8) := ⟨⟨by decide +kernel, by decide +kernel⟩, List.mem_of_getElem? (i := 35) (by decide +kernel), List.mem_of_getElem? (i := 991) (by decide +kernel), List.mem_of_getElem? (i := 992) (by decide +kernel)⟩
theorem lw_p63 : lw_okq (⟨"CeilingWorkbench", "presentServer", "()LCeilingWorkbench$Server;"⟩, 5) := ⟨⟨by decide +kernel, by decide +kernel⟩, List.mem_of_getElem? (i := 27) (by decide +kernel), List.mem_of_getElem? (i := 1034) (by decide +kernel), List.mem_of_getElem? (i := 1035) (by decide +kernel)⟩
def lw_privs_4 : List (MethodName × Nat) := [(⟨"CeilingWorkbench$Server", "isReady", "(Z)Z"⟩, 11), (⟨"CeilingWorkbench$Bench", "mostUrgent", "(Z)I"⟩, 8), (⟨"CeilingWorkbench$Jobs", "isEmpty", "()Z"⟩, 3), (⟨"CeilingWorkbench$Bench", "urgencyOf", "(LCeilingWorkbench$Task;)I"⟩, 8), (⟨"CeilingWorkbench$Task", "heldResource", "()I"⟩, 15), (⟨"CeilingWorkbench$Bench", "notePreemption", "(I)V"⟩, 8), (⟨"CeilingWorkbench$Task", "hasStartedJob", "()Z"⟩, 15), (⟨"CeilingWorkbench$Server", "runUnit", "(I)V"⟩, 11), (⟨"CeilingWorkbench$Requests", "serve", "(II)V"⟩, 5), (⟨"CeilingWorkbench$Task", "runUnit", "(I)Z"⟩, 15), (⟨"CeilingWorkbench$Jobs", "firstRelease", "()I"⟩, 3), (⟨"CeilingWorkbench$Task", "finishJob", "(I)V"⟩, 15), (⟨"CeilingWorkbench$Jobs", "removeFirst", "()V"⟩, 3), (⟨"CeilingWorkbench$Server", "endUnit", "(IZ)V"⟩, 11), (⟨"CeilingWorkbench$Bench", "holderOf", "(I)I"⟩, 8), (⟨"CeilingWorkbench", "presentServer", "()LCeilingWorkbench$Server;"⟩, 5)]
theorem lw_r4 : ∀ q ∈ lw_privs_4, lw_okq q := List.forall_mem_cons.mpr ⟨lw_p48, List.forall_mem_cons.mpr ⟨lw_p49, List.forall_mem_cons.mpr ⟨lw_p50, List.forall_mem_cons.mpr ⟨lw_p51, List.forall_mem_cons.mpr ⟨lw_p52, List.forall_mem_cons.mpr ⟨lw_p53, List.forall_mem_cons.mpr ⟨lw_p54, List.forall_mem_cons.mpr ⟨lw_p55, List.forall_mem_cons.mpr ⟨lw_p56, List.forall_mem_cons.mpr ⟨lw_p57, List.forall_mem_cons.mpr ⟨lw_p58, List.forall_mem_cons.mpr ⟨lw_p59, List.forall_mem_cons.mpr ⟨lw_p60, List.forall_mem_cons.mpr ⟨lw_p61, List.forall_mem_cons.mpr ⟨lw_p62, List.forall_mem_cons.mpr ⟨lw_p63, fun _ h => absurd h List.not_mem_nil⟩⟩⟩⟩⟩⟩⟩⟩⟩⟩⟩⟩⟩⟩⟩⟩
theorem lw_p64 : lw_okq (⟨"CeilingWorkbench$Server", "nextPlan", "()I"⟩, 11) := ⟨⟨by decide +kernel, by decide +kernel⟩, List.mem_of_getElem? (i := 43) (by decide +kernel), List.mem_of_getElem? (i := 1046) (by decide +kernel), List.mem_of_getElem? (i := 1047) (by decide +kernel)⟩
theorem lw_p65 : lw_okq (⟨"CeilingWorkbench$Bench", "usedUnits", "()I"⟩, 8) := ⟨⟨by decide +kernel, by decide +kernel⟩, List.mem_of_getElem? (i := 35) (by decide +kernel), List.mem_of_getElem? (i := 1067) (by decide +kernel), List.mem_of_getElem? (i := 1068) (by decide +kernel)⟩
theorem lw_p66 : lw_okq (⟨"CeilingWorkbenchModel", "restart", "()V"⟩, 38) := ⟨⟨by decide +kernel, by decide +kernel⟩, List.mem_of_getElem? (i := 1079) (by decide +kernel), List.mem_of_getElem? (i := 1208) (by decide +kernel), List.mem_of_getElem? (i := 1209) (by decide +kernel)⟩
theorem lw_p67 : lw_okq (⟨"CeilingWorkbenchModel", "fail", "(I)I"⟩, 38) := ⟨⟨by decide +kernel, by decide +kernel⟩, List.mem_of_getElem? (i := 1079) (by decide +kernel), List.mem_of_getElem? (i := 1219) (by decide +kernel), List.mem_of_getElem? (i := 1220) (by decide +kernel)⟩
theorem lw_p68 : lw_okq (⟨"CeilingWorkbenchModel", "isTaken", "(I)Z"⟩, 38) := ⟨⟨by decide +kernel, by decide +kernel⟩, List.mem_of_getElem? (i := 1079) (by decide +kernel), List.mem_of_getElem? (i := 1223) (by decide +kernel), List.mem_of_getElem? (i := 1224) (by decide +kernel)⟩
theorem lw_p69 : lw_okq (⟨"CeilingWorkbenchModel", "priorityOf", "(I)I"⟩, 38) := ⟨⟨by decide +kernel, by decide +kernel⟩, List.mem_of_getElem? (i := 1079) (by decide +kernel), List.mem_of_getElem? (i := 1227) (by decide +kernel), List.mem_of_getElem? (i := 1228) (by decide +kernel)⟩
theorem lw_p70 : lw_okq (⟨"CeilingWorkbenchModel", "isTask", "(I)Z"⟩, 38) := ⟨⟨by decide +kernel, by decide +kernel⟩, List.mem_of_getElem? (i := 1079) (by decide +kernel), List.mem_of_getElem? (i := 1235) (by decide +kernel), List.mem_of_getElem? (i := 1236) (by decide +kernel)⟩
theorem lw_p71 : lw_okq (⟨"CeilingWorkbenchModel", "hasServer", "()Z"⟩, 38) := ⟨⟨by decide +kernel, by decide +kernel⟩, List.mem_of_getElem? (i := 1079) (by decide +kernel), List.mem_of_getElem? (i := 1243) (by decide +kernel), List.mem_of_getElem? (i := 1244) (by decide +kernel)⟩
theorem lw_p72 : lw_okq (⟨"CeilingWorkbenchModel", "demandOf", "(I)I"⟩, 38) := ⟨⟨by decide +kernel, by decide +kernel⟩, List.mem_of_getElem? (i := 1079) (by decide +kernel), List.mem_of_getElem? (i := 1263) (by decide +kernel), List.mem_of_getElem? (i := 1264) (by decide +kernel)⟩
theorem lw_p73 : lw_okq (⟨"CeilingWorkbenchModel", "lengthAt", "(II)I"⟩, 38) := ⟨⟨by decide +kernel, by decide +kernel⟩, List.mem_of_getElem? (i := 1079) (by decide +kernel), List.mem_of_getElem? (i := 1267) (by decide +kernel), List.mem_of_getElem? (i := 1268) (by decide +kernel)⟩
theorem lw_p74 : lw_okq (⟨"CeilingWorkbenchModel", "ceilingOf", "(I)I"⟩, 38) := ⟨⟨by decide +kernel, by decide +kernel⟩, List.mem_of_getElem? (i := 1079) (by decide +kernel), List.mem_of_getElem? (i := 1275) (by decide +kernel), List.mem_of_getElem? (i := 1276) (by decide +kernel)⟩
theorem lw_p75 : lw_okq (⟨"CeilingWorkbenchModel", "resourceAt", "(II)I"⟩, 38) := ⟨⟨by decide +kernel, by decide +kernel⟩, List.mem_of_getElem? (i := 1079) (by decide +kernel), List.mem_of_getElem? (i := 1279) (by decide +kernel), List.mem_of_getElem? (i := 1280) (by decide +kernel)⟩
theorem lw_p76 : lw_okq (⟨"CeilingWorkbenchModel", "blockingOf", "(I)I"⟩, 38) := ⟨⟨by decide +kernel, by decide +kernel⟩, List.mem_of_getElem? (i := 1079) (by decide +kernel), List.mem_of_getElem? (i := 1288) (by decide +kernel), List.mem_of_getElem? (i := 1289) (by decide +kernel)⟩
theorem lw_p77 : lw_okq (⟨"CeilingWorkbenchModel", "boundOf", "(I)I"⟩, 38) := ⟨⟨by decide +kernel, by decide +kernel⟩, List.mem_of_getElem? (i := 1079) (by decide +kernel), List.mem_of_getElem? (i := 1296) (by decide +kernel), List.mem_of_getElem? (i := 1297) (by decide +kernel)⟩
theorem lw_p78 : lw_okq (⟨"CeilingWorkbenchModel", "workUpTo", "(II)I"⟩, 38) := ⟨⟨by decide +kernel, by decide +kernel⟩, List.mem_of_getElem? (i := 1079) (by decide +kernel), List.mem_of_getElem? (i := 1300) (by decide +kernel), List.mem_of_getElem? (i := 1301) (by decide +kernel)⟩
theorem lw_p79 : lw_okq (⟨"CeilingWorkbenchModel", "periodOf", "(I)I"⟩, 38) := ⟨⟨by decide +kernel, by decide +kernel⟩, List.mem_of_getElem? (i := 1079) (by decide +kernel), List.mem_of_getElem? (i := 1304) (by decide +kernel), List.mem_of_getElem? (i := 1305) (by decide +kernel)⟩
def lw_privs_5 : List (MethodName × Nat) := [(⟨"CeilingWorkbench$Server", "nextPlan", "()I"⟩, 11), (⟨"CeilingWorkbench$Bench", "usedUnits", "()I"⟩, 8), (⟨"CeilingWorkbenchModel", "restart", "()V"⟩, 38), (⟨"CeilingWorkbenchModel", "fail", "(I)I"⟩, 38), (⟨"CeilingWorkbenchModel", "isTaken", "(I)Z"⟩, 38), (⟨"CeilingWorkbenchModel", "priorityOf", "(I)I"⟩, 38), (⟨"CeilingWorkbenchModel", "isTask", "(I)Z"⟩, 38), (⟨"CeilingWorkbenchModel", "hasServer", "()Z"⟩, 38), (⟨"CeilingWorkbenchModel", "demandOf", "(I)I"⟩, 38), (⟨"CeilingWorkbenchModel", "lengthAt", "(II)I"⟩, 38), (⟨"CeilingWorkbenchModel", "ceilingOf", "(I)I"⟩, 38), (⟨"CeilingWorkbenchModel", "resourceAt", "(II)I"⟩, 38), (⟨"CeilingWorkbenchModel", "blockingOf", "(I)I"⟩, 38), (⟨"CeilingWorkbenchModel", "boundOf", "(I)I"⟩, 38), (⟨"CeilingWorkbenchModel", "workUpTo", "(II)I"⟩, 38), (⟨"CeilingWorkbenchModel", "periodOf", "(I)I"⟩, 38)]
theorem lw_r5 : ∀ q ∈ lw_privs_5, lw_okq q := List.forall_mem_cons.mpr ⟨lw_p64, List.forall_mem_cons.mpr ⟨lw_p65, List.forall_mem_cons.mpr ⟨lw_p66, List.forall_mem_cons.mpr ⟨lw_p67, List.forall_mem_cons.mpr ⟨lw_p68, List.forall_mem_cons.mpr ⟨lw_p69, List.forall_mem_cons.mpr ⟨lw_p70, List.forall_mem_cons.mpr ⟨lw_p71, List.forall_mem_cons.mpr ⟨lw_p72, List.forall_mem_cons.mpr ⟨lw_p73, List.forall_mem_cons.mpr ⟨lw_p74, List.forall_mem_cons.mpr ⟨lw_p75, List.forall_mem_cons.mpr ⟨lw_p76, List.forall_mem_cons.mpr ⟨lw_p77, List.forall_mem_cons.mpr ⟨lw_p78, List.forall_mem_cons.mpr ⟨lw_p79, fun _ h => absurd h List.not_mem_nil⟩⟩⟩⟩⟩⟩⟩⟩⟩⟩⟩⟩⟩⟩⟩⟩
theorem lw_p80 : lw_okq (⟨"CeilingWorkbenchModel", "comes", "(II)I"⟩, 38) := ⟨⟨by decide +kernel, by decide +kernel⟩, List.mem_of_getElem? (i := 1079) (by decide +kernel), List.mem_of_getElem? (i := 1315) (by decide +kernel), List.mem_of_getElem? (i := 1316) (by decide +kernel)⟩
theorem lw_p81 : lw_okq (⟨"CeilingWorkbenchModel", "makeUnit", "()I"⟩, 38) := ⟨⟨by decide +kernel, by decide +kernel⟩, List.mem_of_getElem? (i := 1079) (by decide +kernel), List.mem_of_getElem? (i := 1335) (by decide +kernel), List.mem_of_getElem? (i := 1336) (by decide +kernel)⟩
theorem lw_p82 : lw_okq (⟨"CeilingWorkbenchModel", "takeReplenishments", "()V"⟩, 38) := ⟨⟨by decide +kernel, by decide +kernel⟩, List.mem_of_getElem? (i := 1079) (by decide +kernel), List.mem_of_getElem? (i := 1339) (by decide +kernel), List.mem_of_getElem? (i := 1340) (by decide +kernel)⟩
theorem lw_p83 : lw_okq (⟨"CeilingWorkbenchModel", "release", "()V"⟩, 38) := ⟨⟨by decide +kernel, by decide +kernel⟩, List.mem_of_getElem? (i := 1079) (by decide +kernel), List.mem_of_getElem? (i := 1343) (by decide +kernel), List.mem_of_getElem? (i := 1344) (by decide +kernel)⟩
theorem lw_p84 : lw_okq (⟨"CeilingWorkbenchModel", "meetDeadlines", "()V"⟩, 38) := ⟨⟨by decide +kernel, by decide +kernel⟩, List.mem_of_getElem? (i := 1079) (by decide +kernel), List.mem_of_getElem? (i := 1347) (by decide +kernel), List.mem_of_getElem? (i := 1348) (by decide +kernel)⟩
theorem lw_p85 : lw_okq (⟨"CeilingWorkbenchModel", "takeJob", "(II)V"⟩, 38) := ⟨⟨by decide +kernel, by decide +kernel⟩, List.mem_of_getElem? (i := 1079) (by decide +kernel), List.mem_of_getElem? (i := 1351) (by decide +kernel), List.mem_of_getElem? (i := 1352) (by decide +kernel)⟩
theorem lw_p86 : lw_okq (⟨"CeilingWorkbenchModel", "mostUrgent", "()I"⟩, 38) := ⟨⟨by decide +kernel, by decide +kernel⟩, List.mem_of_getElem? (i := 1079) (by decide +kernel), List.mem_of_getElem? (i := 1355) (by decide +kernel), List.mem_of_getElem? (i := 1356) (by decide +kernel)⟩
theorem lw_p87 : lw_okq (⟨"CeilingWorkbenchModel", "isReady", "(I)Z"⟩, 38) := ⟨⟨by decide +kernel, by decide +kernel⟩, List.mem_of_getElem? (i := 1079) (by decide +kernel), List.mem_of_getElem? (i := 1359) (by decide +kernel), List.mem_of_getElem? (i := 1360) (by decide +kernel)⟩
theorem lw_p88 : lw_okq (⟨"CeilingWorkbenchModel", "firstRequest", "(I)I"⟩, 38) := ⟨⟨by decide +kernel, by decide +kernel⟩, List.mem_of_getElem? (i := 1079) (by decide +kernel), List.mem_of_getElem? (i := 1363) (by decide +kernel), List.mem_of_getElem? (i := 1364) (by decide +kernel)⟩
theorem lw_p89 : lw_okq (⟨"CeilingWorkbenchModel", "activeOf", "(I)I"⟩, 38) := ⟨⟨by decide +kernel, by decide +kernel⟩, List.mem_of_getElem? (i := 1079) (by decide +kernel), List.mem_of_getElem? (i := 1367) (by decide +kernel), List.mem_of_getElem? (i := 1368) (by decide +kernel)⟩
theorem lw_p90 : lw_okq (⟨"CeilingWorkbenchModel", "heldBy", "(I)I"⟩, 38) := ⟨⟨by decide +kernel, by decide +kernel⟩, List.mem_of_getElem? (i := 1079) (by decide +kernel), List.mem_of_getElem? (i := 1371) (by decide +kernel), List.mem_of_getElem? (i := 1372) (by decide +kernel)⟩
theorem lw_p91 : lw_okq (⟨"CeilingWorkbenchModel", "segmentNow", "(IZ)I"⟩, 38) := ⟨⟨by decide +kernel, by decide +kernel⟩, List.mem_of_getElem? (i := 1079) (by decide +kernel), List.mem_of_getElem? (i := 1375) (by decide +kernel), List.mem_of_getElem? (i := 1376) (by decide +kernel)⟩
theorem lw_p92 : lw_okq (⟨"CeilingWorkbenchModel", "countPreemption", "(I)V"⟩, 38) := ⟨⟨by decide +kernel, by decide +kernel⟩, List.mem_of_getElem? (i := 1079) (by decide +kernel), List.mem_of_getElem? (i := 1379) (by decide +kernel), List.mem_of_getElem? (i := 1380) (by decide +kernel)⟩
theorem lw_p93 : lw_okq (⟨"CeilingWorkbenchModel", "runServer", "()V"⟩, 38) := ⟨⟨by decide +kernel, by decide +kernel⟩, List.mem_of_getElem? (i := 1079) (by decide +kernel), List.mem_of_getElem? (i := 1383) (by decide +kernel), List.mem_of_getElem? (i := 1384) (by decide +kernel)⟩
theorem lw_p94 : lw_okq (⟨"CeilingWorkbenchModel", "runJob", "(I)I"⟩, 38) := ⟨⟨by decide +kernel, by decide +kernel⟩, List.mem_of_getElem? (i := 1079) (by decide +kernel), List.mem_of_getElem? (i := 1387) (by decide +kernel), List.mem_of_getElem? (i := 1388) (by decide +kernel)⟩
theorem lw_p95 : lw_okq (⟨"CeilingWorkbenchModel", "endBusy", "()V"⟩, 38) := ⟨⟨by decide +kernel, by decide +kernel⟩, List.mem_of_getElem? (i := 1079) (by decide +kernel), List.mem_of_getElem? (i := 1391) (by decide +kernel), List.mem_of_getElem? (i := 1392) (by decide +kernel)⟩
def lw_privs_6 : List (MethodName × Nat) := [(⟨"CeilingWorkbenchModel", "comes", "(II)I"⟩, 38), (⟨"CeilingWorkbenchModel", "makeUnit", "()I"⟩, 38), (⟨"CeilingWorkbenchModel", "takeReplenishments", "()V"⟩, 38), (⟨"CeilingWorkbenchModel", "release", "()V"⟩, 38), (⟨"CeilingWorkbenchModel", "meetDeadlines", "()V"⟩, 38), (⟨"CeilingWorkbenchModel", "takeJob", "(II)V"⟩, 38), (⟨"CeilingWorkbenchModel", "mostUrgent", "()I"⟩, 38), (⟨"CeilingWorkbenchModel", "isReady", "(I)Z"⟩, 38), (⟨"CeilingWorkbenchModel", "firstRequest", "(I)I"⟩, 38), (⟨"CeilingWorkbenchModel", "activeOf", "(I)I"⟩, 38), (⟨"CeilingWorkbenchModel", "heldBy", "(I)I"⟩, 38), (⟨"CeilingWorkbenchModel", "segmentNow", "(IZ)I"⟩, 38), (⟨"CeilingWorkbenchModel", "countPreemption", "(I)V"⟩, 38), (⟨"CeilingWorkbenchModel", "runServer", "()V"⟩, 38), (⟨"CeilingWorkbenchModel", "runJob", "(I)I"⟩, 38), (⟨"CeilingWorkbenchModel", "endBusy", "()V"⟩, 38)]
theorem lw_r6 : ∀ q ∈ lw_privs_6, lw_okq q := List.forall_mem_cons.mpr ⟨lw_p80, List.forall_mem_cons.mpr ⟨lw_p81, List.forall_mem_cons.mpr ⟨lw_p82, List.forall_mem_cons.mpr ⟨lw_p83, List.forall_mem_cons.mpr ⟨lw_p84, List.forall_mem_cons.mpr ⟨lw_p85, List.forall_mem_cons.mpr ⟨lw_p86, List.forall_mem_cons.mpr ⟨lw_p87, List.forall_mem_cons.mpr ⟨lw_p88, List.forall_mem_cons.mpr ⟨lw_p89, List.forall_mem_cons.mpr ⟨lw_p90, List.forall_mem_cons.mpr ⟨lw_p91, List.forall_mem_cons.mpr ⟨lw_p92, List.forall_mem_cons.mpr ⟨lw_p93, List.forall_mem_cons.mpr ⟨lw_p94, List.forall_mem_cons.mpr ⟨lw_p95, fun _ h => absurd h List.not_mem_nil⟩⟩⟩⟩⟩⟩⟩⟩⟩⟩⟩⟩⟩⟩⟩⟩
theorem lw_p96 : lw_okq (⟨"CeilingWorkbenchModel", "readCommand", "()I"⟩, 38) := ⟨⟨by decide +kernel, by decide +kernel⟩, List.mem_of_getElem? (i := 1079) (by decide +kernel), List.mem_of_getElem? (i := 1454) (by decide +kernel), List.mem_of_getElem? (i := 1455) (by decide +kernel)⟩
theorem lw_p97 : lw_okq (⟨"CeilingWorkbenchModel", "sign", "()I"⟩, 38) := ⟨⟨by decide +kernel, by decide +kernel⟩, List.mem_of_getElem? (i := 1079) (by decide +kernel), List.mem_of_getElem? (i := 1458) (by decide +kernel), List.mem_of_getElem? (i := 1459) (by decide +kernel)⟩
theorem lw_p98 : lw_okq (⟨"CeilingWorkbenchModel", "take", "(C)V"⟩, 38) := ⟨⟨by decide +kernel, by decide +kernel⟩, List.mem_of_getElem? (i := 1079) (by decide +kernel), List.mem_of_getElem? (i := 1462) (by decide +kernel), List.mem_of_getElem? (i := 1463) (by decide +kernel)⟩
theorem lw_p99 : lw_okq (⟨"CeilingWorkbenchModel", "readNumbers", "(I)V"⟩, 38) := ⟨⟨by decide +kernel, by decide +kernel⟩, List.mem_of_getElem? (i := 1079) (by decide +kernel), List.mem_of_getElem? (i := 1466) (by decide +kernel), List.mem_of_getElem? (i := 1467) (by decide +kernel)⟩
theorem lw_p100 : lw_okq (⟨"CeilingWorkbenchModel", "number", "()I"⟩, 38) := ⟨⟨by decide +kernel, by decide +kernel⟩, List.mem_of_getElem? (i := 1079) (by decide +kernel), List.mem_of_getElem? (i := 1470) (by decide +kernel), List.mem_of_getElem? (i := 1471) (by decide +kernel)⟩
theorem lw_p101 : lw_okq (⟨"CeilingWorkbenchModel", "takeAll", "(CCCCCCC)V"⟩, 38) := ⟨⟨by decide +kernel, by decide +kernel⟩, List.mem_of_getElem? (i := 1079) (by decide +kernel), List.mem_of_getElem? (i := 1474) (by decide +kernel), List.mem_of_getElem? (i := 1475) (by decide +kernel)⟩
theorem lw_p102 : lw_okq (⟨"CeilingWorkbenchModel", "policyName", "()I"⟩, 38) := ⟨⟨by decide +kernel, by decide +kernel⟩, List.mem_of_getElem? (i := 1079) (by decide +kernel), List.mem_of_getElem? (i := 1478) (by decide +kernel), List.mem_of_getElem? (i := 1479) (by decide +kernel)⟩
theorem lw_p103 : lw_okq (⟨"CeilingWorkbenchModel", "resource", "()I"⟩, 38) := ⟨⟨by decide +kernel, by decide +kernel⟩, List.mem_of_getElem? (i := 1079) (by decide +kernel), List.mem_of_getElem? (i := 1482) (by decide +kernel), List.mem_of_getElem? (i := 1483) (by decide +kernel)⟩
theorem lw_p104 : lw_okq (⟨"CeilingWorkbenchModel", "doCommand", "(I)I"⟩, 38) := ⟨⟨by decide +kernel, by decide +kernel⟩, List.mem_of_getElem? (i := 1079) (by decide +kernel), List.mem_of_getElem? (i := 1486) (by decide +kernel), List.mem_of_getElem? (i := 1487) (by decide +kernel)⟩
theorem lw_p105 : lw_okq (⟨"CeilingWorkbenchModel", "passAll", "(Z)V"⟩, 38) := ⟨⟨by decide +kernel, by decide +kernel⟩, List.mem_of_getElem? (i := 1079) (by decide +kernel), List.mem_of_getElem? (i := 1503) (by decide +kernel), List.mem_of_getElem? (i := 1504) (by decide +kernel)⟩
theorem lw_p106 : lw_okq (⟨"CeilingWorkbenchModel", "pass", "(I)I"⟩, 38) := ⟨⟨by decide +kernel, by decide +kernel⟩, List.mem_of_getElem? (i := 1079) (by decide +kernel), List.mem_of_getElem? (i := 1507) (by decide +kernel), List.mem_of_getElem? (i := 1508) (by decide +kernel)⟩
theorem lw_p107 : lw_okq (⟨"CeilingWorkbenchModel", "passRow", "([I)V"⟩, 38) := ⟨⟨by decide +kernel, by decide +kernel⟩, List.mem_of_getElem? (i := 1079) (by decide +kernel), List.mem_of_getElem? (i := 1511) (by decide +kernel), List.mem_of_getElem? (i := 1512) (by decide +kernel)⟩
def lw_privs_7 : List (MethodName × Nat) := [(⟨"CeilingWorkbenchModel", "readCommand", "()I"⟩, 38), (⟨"CeilingWorkbenchModel", "sign", "()I"⟩, 38), (⟨"CeilingWorkbenchModel", "take", "(C)V"⟩, 38), (⟨"CeilingWorkbenchModel", "readNumbers", "(I)V"⟩, 38), (⟨"CeilingWorkbenchModel", "number", "()I"⟩, 38), (⟨"CeilingWorkbenchModel", "takeAll", "(CCCCCCC)V"⟩, 38), (⟨"CeilingWorkbenchModel", "policyName", "()I"⟩, 38), (⟨"CeilingWorkbenchModel", "resource", "()I"⟩, 38), (⟨"CeilingWorkbenchModel", "doCommand", "(I)I"⟩, 38), (⟨"CeilingWorkbenchModel", "passAll", "(Z)V"⟩, 38), (⟨"CeilingWorkbenchModel", "pass", "(I)I"⟩, 38), (⟨"CeilingWorkbenchModel", "passRow", "([I)V"⟩, 38)]
theorem lw_r7 : ∀ q ∈ lw_privs_7, lw_okq q := List.forall_mem_cons.mpr ⟨lw_p96, List.forall_mem_cons.mpr ⟨lw_p97, List.forall_mem_cons.mpr ⟨lw_p98, List.forall_mem_cons.mpr ⟨lw_p99, List.forall_mem_cons.mpr ⟨lw_p100, List.forall_mem_cons.mpr ⟨lw_p101, List.forall_mem_cons.mpr ⟨lw_p102, List.forall_mem_cons.mpr ⟨lw_p103, List.forall_mem_cons.mpr ⟨lw_p104, List.forall_mem_cons.mpr ⟨lw_p105, List.forall_mem_cons.mpr ⟨lw_p106, List.forall_mem_cons.mpr ⟨lw_p107, fun _ h => absurd h List.not_mem_nil⟩⟩⟩⟩⟩⟩⟩⟩⟩⟩⟩⟩
def lw_privs : List (MethodName × Nat) := lw_privs_1 ++ (lw_privs_2 ++ (lw_privs_3 ++ (lw_privs_4 ++ (lw_privs_5 ++ (lw_privs_6 ++ (lw_privs_7))))))
def lw_tbl : List Cond := k2_sels lw_privs ++ tables_1
theorem lw_privs_ok : ∀ q ∈ lw_privs, lw_okq q := by
  show ∀ q ∈ lw_privs_1 ++ (lw_privs_2 ++ (lw_privs_3 ++ (lw_privs_4 ++ (lw_privs_5 ++ (lw_privs_6 ++ (lw_privs_7)))))), lw_okq q
  exact List.forall_mem_append.mpr ⟨lw_r1, List.forall_mem_append.mpr ⟨lw_r2, List.forall_mem_append.mpr ⟨lw_r3, List.forall_mem_append.mpr ⟨lw_r4, List.forall_mem_append.mpr ⟨lw_r5, List.forall_mem_append.mpr ⟨lw_r6, lw_r7⟩⟩⟩⟩⟩⟩
/-- the streams that the claim lets the run draw from -/
abbrev lw_cs : List Choice := [Jvm.Choice.named "NaN.bits"]
theorem lw_bits : nanBits ∈ lw_cs := by first | decide | exact List.mem_cons_self | simp [lw_cs, nanBits]
end
section
-- names of the classes, fields and methods (out of claim/NAMES.whole.lean.txt)
def RX0 : String := "CeilingWorkbench$Analysis"
def TX0 : u_T := fun k => match k with
  | _ => ("", "", "", false)
def tyX0 : Nat → FieldType := fun k => match k with
  | _ => .int
theorem nmX0 : ∀ a, a < 0 → ∀ b, b < 0 → a ≠ b → (TX0 a).2.1 ≠ (TX0 b).2.1 := by decide +kernel
theorem tyX0_ok : ∀ k, k < 0 → parseFieldDescriptor (TX0 k).2.2.1 = some (tyX0 k) := by decide +kernel
abbrev cX0_blockingOf : ByteArray := prog_2_method_2_code
def yX0_blockingOf : MethodName := ⟨RX0, "blockingOf", "(LCeilingWorkbench$Bench;LCeilingWorkbench$Task;)I"⟩
abbrev cX0_blockingBy : ByteArray := prog_2_method_3_code
def yX0_blockingBy : MethodName := ⟨RX0, "blockingBy", "(LCeilingWorkbench$Bench;LCeilingWorkbench$Task;I)I"⟩
abbrev cX0_boundOf : ByteArray := prog_2_method_4_code
def yX0_boundOf : MethodName := ⟨RX0, "boundOf", "(LCeilingWorkbench$Bench;LCeilingWorkbench$Task;)I"⟩
abbrev cX0_urgentWorkWithin : ByteArray := prog_2_method_5_code
def yX0_urgentWorkWithin : MethodName := ⟨RX0, "urgentWorkWithin", "(LCeilingWorkbench$Bench;LCeilingWorkbench$Task;I)I"⟩
abbrev cX0_isServerAbove : ByteArray := prog_2_method_6_code
def yX0_isServerAbove : MethodName := ⟨RX0, "isServerAbove", "(LCeilingWorkbench$Bench;LCeilingWorkbench$Task;)Z"⟩
abbrev cX0_quotientUp : ByteArray := prog_2_method_7_code
def yX0_quotientUp : MethodName := ⟨RX0, "quotientUp", "(II)I"⟩
abbrev cX0_witnessOf : ByteArray := prog_2_method_8_code
def yX0_witnessOf : MethodName := ⟨RX0, "witnessOf", "(LCeilingWorkbench$Bench;LCeilingWorkbench$Task;)I"⟩
abbrev cX0_urgentWorkReleasedAt : ByteArray := prog_2_method_9_code
def yX0_urgentWorkReleasedAt : MethodName := ⟨RX0, "urgentWorkReleasedAt", "(LCeilingWorkbench$Bench;LCeilingWorkbench$Task;I)I"⟩
abbrev cX0_isMultiple : ByteArray := prog_2_method_10_code
def yX0_isMultiple : MethodName := ⟨RX0, "isMultiple", "(II)Z"⟩
abbrev cX0_meetsDeadlines : ByteArray := prog_2_method_11_code
def yX0_meetsDeadlines : MethodName := ⟨RX0, "meetsDeadlines", "(LCeilingWorkbench$Bench;)Z"⟩
abbrev cX0_loadOf : ByteArray := prog_2_method_12_code
def yX0_loadOf : MethodName := ⟨RX0, "loadOf", "(LCeilingWorkbench$Bench;)D"⟩
abbrev cX0_hyperbolicLoadOf : ByteArray := prog_2_method_13_code
def yX0_hyperbolicLoadOf : MethodName := ⟨RX0, "hyperbolicLoadOf", "(LCeilingWorkbench$Bench;)D"⟩
abbrev cX0_share : ByteArray := prog_2_method_14_code
def yX0_share : MethodName := ⟨RX0, "share", "(II)D"⟩
def RX1 : String := "CeilingWorkbench$Bench"
def TX1 : u_T := fun k => match k with
  | 0 => ("CeilingWorkbench$Bench", "tasks", "[LCeilingWorkbench$Task;", true)
  | 1 => ("CeilingWorkbench$Bench", "server", "LCeilingWorkbench$Server;", true)
  | 2 => ("CeilingWorkbench$Bench", "requests", "LCeilingWorkbench$Requests;", true)
  | 3 => ("CeilingWorkbench$Bench", "ceilings", "[I", true)
  | 4 => ("CeilingWorkbench$Bench", "ran", "[I", true)
  | 5 => ("CeilingWorkbench$Bench", "taskCount", "I", false)
  | 6 => ("CeilingWorkbench$Bench", "policy", "I", false)
  | _ => ("CeilingWorkbench$Bench", "clock", "I", false)
def tyX1 : Nat → FieldType := fun k => match k with
  | 0 => .array (.object "CeilingWorkbench$Task")
  | 1 => .object "CeilingWorkbench$Server"
  | 2 => .object "CeilingWorkbench$Requests"
  | 3 => .array .int
  | 4 => .array .int
  | 5 => .int
  | 6 => .int
  | _ => .int
theorem nmX1 : ∀ a, a < 8 → ∀ b, b < 8 → a ≠ b → (TX1 a).2.1 ≠ (TX1 b).2.1 := by decide +kernel
theorem tyX1_ok : ∀ k, k < 8 → parseFieldDescriptor (TX1 k).2.2.1 = some (tyX1 k) := by decide +kernel
abbrev cX1_init : ByteArray := prog_3_method_1_code
def yX1_init : MethodName := ⟨RX1, "<init>", "()V"⟩
abbrev cX1_hasTask : ByteArray := prog_3_method_2_code
def yX1_hasTask : MethodName := ⟨RX1, "hasTask", "(I)Z"⟩
abbrev cX1_removeAll : ByteArray := prog_3_method_3_code
def yX1_removeAll : MethodName := ⟨RX1, "removeAll", "()I"⟩
abbrev cX1_startAgain : ByteArray := prog_3_method_4_code
def yX1_startAgain : MethodName := ⟨RX1, "startAgain", "()I"⟩
abbrev cX1_putTask : ByteArray := prog_3_method_5_code
def yX1_putTask : MethodName := ⟨RX1, "putTask", "(IIII)I"⟩
abbrev cX1_isPriorityOfTask : ByteArray := prog_3_method_6_code
def yX1_isPriorityOfTask : MethodName := ⟨RX1, "isPriorityOfTask", "(I)Z"⟩
abbrev cX1_putSegment : ByteArray := prog_3_method_7_code
def yX1_putSegment : MethodName := ⟨RX1, "putSegment", "(III)I"⟩
abbrev cX1_putServer : ByteArray := prog_3_method_8_code
def yX1_putServer : MethodName := ⟨RX1, "putServer", "(III)I"⟩
abbrev cX1_putRequest : ByteArray := prog_3_method_9_code
def yX1_putRequest : MethodName := ⟨RX1, "putRequest", "(II)I"⟩
abbrev cX1_putPolicy : ByteArray := prog_3_method_10_code
def yX1_putPolicy : MethodName := ⟨RX1, "putPolicy", "(I)I"⟩
abbrev cX1_makeUnits : ByteArray := prog_3_method_11_code
def yX1_makeUnits : MethodName := ⟨RX1, "makeUnits", "(I)I"⟩
abbrev cX1_makeUnit : ByteArray := prog_3_method_12_code
def yX1_makeUnit : MethodName := ⟨RX1, "makeUnit", "()I"⟩
abbrev cX1_mostUrgent : ByteArray := prog_3_method_13_code
def yX1_mostUrgent : MethodName := ⟨RX1, "mostUrgent", "(Z)I"⟩
abbrev cX1_urgencyOf : ByteArray := prog_3_method_14_code
def yX1_urgencyOf : MethodName := ⟨RX1, "urgencyOf", "(LCeilingWorkbench$Task;)I"⟩
abbrev cX1_notePreemption : ByteArray := prog_3_method_15_code
def yX1_notePreemption : MethodName := ⟨RX1, "notePreemption", "(I)V"⟩
abbrev cX1_holderOf : ByteArray := prog_3_method_16_code
def yX1_holderOf : MethodName := ⟨RX1, "holderOf", "(I)I"⟩
abbrev cX1_usedUnits : ByteArray := prog_3_method_17_code
def yX1_usedUnits : MethodName := ⟨RX1, "usedUnits", "()I"⟩
abbrev cX1_copyFrom : ByteArray := prog_3_method_18_code
def yX1_copyFrom : MethodName := ⟨RX1, "copyFrom", "(LCeilingWorkbench$Bench;)V"⟩
def RX2 : String := "CeilingWorkbench$Jobs"
def TX2 : u_T := fun k => match k with
  | 0 => ("CeilingWorkbench$Jobs", "releases", "[I", true)
  | 1 => ("CeilingWorkbench$Jobs", "first", "I", false)
  | _ => ("CeilingWorkbench$Jobs", "end", "I", false)
def tyX2 : Nat → FieldType := fun k => match k with
  | 0 => .array .int
  | 1 => .int
  | _ => .int
theorem nmX2 : ∀ a, a < 3 → ∀ b, b < 3 → a ≠ b → (TX2 a).2.1 ≠ (TX2 b).2.1 := by decide +kernel
theorem tyX2_ok : ∀ k, k < 3 → parseFieldDescriptor (TX2 k).2.2.1 = some (tyX2 k) := by decide +kernel
abbrev cX2_init : ByteArray := prog_4_method_1_code
def yX2_init : MethodName := ⟨RX2, "<init>", "()V"⟩
abbrev cX2_removeAll : ByteArray := prog_4_method_2_code
def yX2_removeAll : MethodName := ⟨RX2, "removeAll", "()V"⟩
abbrev cX2_isEmpty : ByteArray := prog_4_method_3_code
def yX2_isEmpty : MethodName := ⟨RX2, "isEmpty", "()Z"⟩
abbrev cX2_size : ByteArray := prog_4_method_4_code
def yX2_size : MethodName := ⟨RX2, "size", "()I"⟩
abbrev cX2_add : ByteArray := prog_4_method_5_code
def yX2_add : MethodName := ⟨RX2, "add", "(I)V"⟩
abbrev cX2_firstRelease : ByteArray := prog_4_method_6_code
def yX2_firstRelease : MethodName := ⟨RX2, "firstRelease", "()I"⟩
abbrev cX2_removeFirst : ByteArray := prog_4_method_7_code
def yX2_removeFirst : MethodName := ⟨RX2, "removeFirst", "()V"⟩
abbrev cX2_placeOf : ByteArray := prog_4_method_8_code
def yX2_placeOf : MethodName := ⟨RX2, "placeOf", "(I)I"⟩
abbrev cX2_removeAt : ByteArray := prog_4_method_9_code
def yX2_removeAt : MethodName := ⟨RX2, "removeAt", "(I)V"⟩
abbrev cX2_copyFrom : ByteArray := prog_4_method_10_code
def yX2_copyFrom : MethodName := ⟨RX2, "copyFrom", "(LCeilingWorkbench$Jobs;)V"⟩
def RX3 : String := "CeilingWorkbench$Reader"
def TX3 : u_T := fun k => match k with
  | 0 => ("CeilingWorkbench$Reader", "signs", "[C", true)
  | 1 => ("CeilingWorkbench$Reader", "numbers", "[I", true)
  | 2 => ("CeilingWorkbench$Reader", "length", "I", false)
  | 3 => ("CeilingWorkbench$Reader", "numberCount", "I", false)
  | _ => ("CeilingWorkbench$Reader", "reach", "I", false)
def tyX3 : Nat → FieldType := fun k => match k with
  | 0 => .array .char
  | 1 => .array .int
  | 2 => .int
  | 3 => .int
  | _ => .int
theorem nmX3 : ∀ a, a < 5 → ∀ b, b < 5 → a ≠ b → (TX3 a).2.1 ≠ (TX3 b).2.1 := by decide +kernel
theorem tyX3_ok : ∀ k, k < 5 → parseFieldDescriptor (TX3 k).2.2.1 = some (tyX3 k) := by decide +kernel
abbrev cX3_init : ByteArray := prog_5_method_1_code
def yX3_init : MethodName := ⟨RX3, "<init>", "()V"⟩
abbrev cX3_isFull : ByteArray := prog_5_method_2_code
def yX3_isFull : MethodName := ⟨RX3, "isFull", "()Z"⟩
abbrev cX3_put : ByteArray := prog_5_method_3_code
def yX3_put : MethodName := ⟨RX3, "put", "(C)I"⟩
abbrev cX3_number : ByteArray := prog_5_method_4_code
def yX3_number : MethodName := ⟨RX3, "number", "(I)I"⟩
abbrev cX3_takeForm : ByteArray := prog_5_method_5_code
def yX3_takeForm : MethodName := ⟨RX3, "takeForm", "()I"⟩
abbrev cX3_patternOf : ByteArray := prog_5_method_6_code
def yX3_patternOf : MethodName := ⟨RX3, "patternOf", "(I)Ljava/lang/String;"⟩
abbrev cX3_fits : ByteArray := prog_5_method_7_code
def yX3_fits : MethodName := ⟨RX3, "fits", "(Ljava/lang/String;)Z"⟩
abbrev cX3_afterSign : ByteArray := prog_5_method_8_code
def yX3_afterSign : MethodName := ⟨RX3, "afterSign", "(IC)I"⟩
abbrev cX3_afterNumber : ByteArray := prog_5_method_9_code
def yX3_afterNumber : MethodName := ⟨RX3, "afterNumber", "(I)I"⟩
def RX4 : String := "CeilingWorkbench$Requests"
def TX4 : u_T := fun k => match k with
  | 0 => ("CeilingWorkbench$Requests", "times", "[I", true)
  | 1 => ("CeilingWorkbench$Requests", "lengths", "[I", true)
  | 2 => ("CeilingWorkbench$Requests", "unitsLeft", "[I", true)
  | 3 => ("CeilingWorkbench$Requests", "responses", "[I", true)
  | _ => ("CeilingWorkbench$Requests", "count", "I", false)
def tyX4 : Nat → FieldType := fun k => match k with
  | 0 => .array .int
  | 1 => .array .int
  | 2 => .array .int
  | 3 => .array .int
  | _ => .int
theorem nmX4 : ∀ a, a < 5 → ∀ b, b < 5 → a ≠ b → (TX4 a).2.1 ≠ (TX4 b).2.1 := by decide +kernel
theorem tyX4_ok : ∀ k, k < 5 → parseFieldDescriptor (TX4 k).2.2.1 = some (tyX4 k) := by decide +kernel
abbrev cX4_init : ByteArray := prog_6_method_1_code
def yX4_init : MethodName := ⟨RX4, "<init>", "()V"⟩
abbrev cX4_removeAll : ByteArray := prog_6_method_2_code
def yX4_removeAll : MethodName := ⟨RX4, "removeAll", "()V"⟩
abbrev cX4_isFull : ByteArray := prog_6_method_3_code
def yX4_isFull : MethodName := ⟨RX4, "isFull", "()Z"⟩
abbrev cX4_add : ByteArray := prog_6_method_4_code
def yX4_add : MethodName := ⟨RX4, "add", "(II)I"⟩
abbrev cX4_startAgain : ByteArray := prog_6_method_5_code
def yX4_startAgain : MethodName := ⟨RX4, "startAgain", "()V"⟩
abbrev cX4_nextToServe : ByteArray := prog_6_method_6_code
def yX4_nextToServe : MethodName := ⟨RX4, "nextToServe", "(I)I"⟩
abbrev cX4_serve : ByteArray := prog_6_method_7_code
def yX4_serve : MethodName := ⟨RX4, "serve", "(II)V"⟩
abbrev cX4_copyFrom : ByteArray := prog_6_method_8_code
def yX4_copyFrom : MethodName := ⟨RX4, "copyFrom", "(LCeilingWorkbench$Requests;)V"⟩
def RX5 : String := "CeilingWorkbench$Server"
def TX5 : u_T := fun k => match k with
  | 0 => ("CeilingWorkbench$Server", "planTimes", "[I", true)
  | 1 => ("CeilingWorkbench$Server", "planIncreases", "[I", true)
  | 2 => ("CeilingWorkbench$Server", "planCount", "I", false)
  | 3 => ("CeilingWorkbench$Server", "present", "Z", false)
  | 4 => ("CeilingWorkbench$Server", "priority", "I", false)
  | 5 => ("CeilingWorkbench$Server", "budget", "I", false)
  | 6 => ("CeilingWorkbench$Server", "period", "I", false)
  | 7 => ("CeilingWorkbench$Server", "balance", "I", false)
  | 8 => ("CeilingWorkbench$Server", "busy", "Z", false)
  | 9 => ("CeilingWorkbench$Server", "busySince", "I", false)
  | _ => ("CeilingWorkbench$Server", "busyUnits", "I", false)
def tyX5 : Nat → FieldType := fun k => match k with
  | 0 => .array .int
  | 1 => .array .int
  | 2 => .int
  | 3 => .boolean
  | 4 => .int
  | 5 => .int
  | 6 => .int
  | 7 => .int
  | 8 => .boolean
  | 9 => .int
  | _ => .int
theorem nmX5 : ∀ a, a < 11 → ∀ b, b < 11 → a ≠ b → (TX5 a).2.1 ≠ (TX5 b).2.1 := by decide +kernel
theorem tyX5_ok : ∀ k, k < 11 → parseFieldDescriptor (TX5 k).2.2.1 = some (tyX5 k) := by decide +kernel
abbrev cX5_init : ByteArray := prog_7_method_1_code
def yX5_init : MethodName := ⟨RX5, "<init>", "()V"⟩
abbrev cX5_begin : ByteArray := prog_7_method_2_code
def yX5_begin : MethodName := ⟨RX5, "begin", "(III)V"⟩
abbrev cX5_startAgain : ByteArray := prog_7_method_3_code
def yX5_startAgain : MethodName := ⟨RX5, "startAgain", "()V"⟩
abbrev cX5_hasPriority : ByteArray := prog_7_method_4_code
def yX5_hasPriority : MethodName := ⟨RX5, "hasPriority", "(I)Z"⟩
abbrev cX5_isReady : ByteArray := prog_7_method_5_code
def yX5_isReady : MethodName := ⟨RX5, "isReady", "(Z)Z"⟩
abbrev cX5_replenishAt : ByteArray := prog_7_method_6_code
def yX5_replenishAt : MethodName := ⟨RX5, "replenishAt", "(I)V"⟩
abbrev cX5_runUnit : ByteArray := prog_7_method_7_code
def yX5_runUnit : MethodName := ⟨RX5, "runUnit", "(I)V"⟩
abbrev cX5_endUnit : ByteArray := prog_7_method_8_code
def yX5_endUnit : MethodName := ⟨RX5, "endUnit", "(IZ)V"⟩
abbrev cX5_nextPlan : ByteArray := prog_7_method_9_code
def yX5_nextPlan : MethodName := ⟨RX5, "nextPlan", "()I"⟩
abbrev cX5_copyFrom : ByteArray := prog_7_method_10_code
def yX5_copyFrom : MethodName := ⟨RX5, "copyFrom", "(LCeilingWorkbench$Server;)V"⟩
def RX6 : String := "CeilingWorkbench$Task"
def TX6 : u_T := fun k => match k with
  | 0 => ("CeilingWorkbench$Task", "resources", "[I", true)
  | 1 => ("CeilingWorkbench$Task", "lengths", "[I", true)
  | 2 => ("CeilingWorkbench$Task", "jobs", "LCeilingWorkbench$Jobs;", true)
  | 3 => ("CeilingWorkbench$Task", "results", "[I", true)
  | 4 => ("CeilingWorkbench$Task", "priority", "I", false)
  | 5 => ("CeilingWorkbench$Task", "period", "I", false)
  | 6 => ("CeilingWorkbench$Task", "deadline", "I", false)
  | 7 => ("CeilingWorkbench$Task", "offset", "I", false)
  | 8 => ("CeilingWorkbench$Task", "segmentCount", "I", false)
  | 9 => ("CeilingWorkbench$Task", "demand", "I", false)
  | 10 => ("CeilingWorkbench$Task", "nextRelease", "I", false)
  | 11 => ("CeilingWorkbench$Task", "mustSkip", "Z", false)
  | 12 => ("CeilingWorkbench$Task", "segment", "I", false)
  | 13 => ("CeilingWorkbench$Task", "unitsOfSegment", "I", false)
  | _ => ("CeilingWorkbench$Task", "responseSum", "I", false)
def tyX6 : Nat → FieldType := fun k => match k with
  | 0 => .array .int
  | 1 => .array .int
  | 2 => .object "CeilingWorkbench$Jobs"
  | 3 => .array .int
  | 4 => .int
  | 5 => .int
  | 6 => .int
  | 7 => .int
  | 8 => .int
  | 9 => .int
  | 10 => .int
  | 11 => .boolean
  | 12 => .int
  | 13 => .int
  | _ => .int
theorem nmX6 : ∀ a, a < 15 → ∀ b, b < 15 → a ≠ b → (TX6 a).2.1 ≠ (TX6 b).2.1 := by decide +kernel
theorem tyX6_ok : ∀ k, k < 15 → parseFieldDescriptor (TX6 k).2.2.1 = some (tyX6 k) := by decide +kernel
abbrev cX6_init : ByteArray := prog_8_method_1_code
def yX6_init : MethodName := ⟨RX6, "<init>", "()V"⟩
abbrev cX6_begin : ByteArray := prog_8_method_2_code
def yX6_begin : MethodName := ⟨RX6, "begin", "(IIII)V"⟩
abbrev cX6_startAgain : ByteArray := prog_8_method_3_code
def yX6_startAgain : MethodName := ⟨RX6, "startAgain", "()V"⟩
abbrev cX6_addPart : ByteArray := prog_8_method_4_code
def yX6_addPart : MethodName := ⟨RX6, "addPart", "(II)V"⟩
abbrev cX6_property : ByteArray := prog_8_method_5_code
def yX6_property : MethodName := ⟨RX6, "property", "(I)I"⟩
abbrev cX6_releaseAt : ByteArray := prog_8_method_6_code
def yX6_releaseAt : MethodName := ⟨RX6, "releaseAt", "(I)V"⟩
abbrev cX6_missAt : ByteArray := prog_8_method_7_code
def yX6_missAt : MethodName := ⟨RX6, "missAt", "(II)V"⟩
abbrev cX6_removeJob : ByteArray := prog_8_method_8_code
def yX6_removeJob : MethodName := ⟨RX6, "removeJob", "(I)V"⟩
abbrev cX6_hasStartedJob : ByteArray := prog_8_method_9_code
def yX6_hasStartedJob : MethodName := ⟨RX6, "hasStartedJob", "()Z"⟩
abbrev cX6_heldResource : ByteArray := prog_8_method_10_code
def yX6_heldResource : MethodName := ⟨RX6, "heldResource", "()I"⟩
abbrev cX6_runUnit : ByteArray := prog_8_method_11_code
def yX6_runUnit : MethodName := ⟨RX6, "runUnit", "(I)Z"⟩
abbrev cX6_finishJob : ByteArray := prog_8_method_12_code
def yX6_finishJob : MethodName := ⟨RX6, "finishJob", "(I)V"⟩
abbrev cX6_copyFrom : ByteArray := prog_8_method_13_code
def yX6_copyFrom : MethodName := ⟨RX6, "copyFrom", "(LCeilingWorkbench$Task;)V"⟩
def RX7 : String := "CeilingWorkbench"
def TX7 : u_T := fun k => match k with
  | 0 => ("CeilingWorkbench", "bench", "LCeilingWorkbench$Bench;", true)
  | 1 => ("CeilingWorkbench", "kept", "LCeilingWorkbench$Bench;", true)
  | 2 => ("CeilingWorkbench", "reader", "LCeilingWorkbench$Reader;", true)
  | 3 => ("CeilingWorkbench", "hasSnapshot", "Z", false)
  | _ => ("CeilingWorkbench", "lastError", "I", false)
def tyX7 : Nat → FieldType := fun k => match k with
  | 0 => .object "CeilingWorkbench$Bench"
  | 1 => .object "CeilingWorkbench$Bench"
  | 2 => .object "CeilingWorkbench$Reader"
  | 3 => .boolean
  | _ => .int
theorem nmX7 : ∀ a, a < 5 → ∀ b, b < 5 → a ≠ b → (TX7 a).2.1 ≠ (TX7 b).2.1 := by decide +kernel
theorem tyX7_ok : ∀ k, k < 5 → parseFieldDescriptor (TX7 k).2.2.1 = some (tyX7 k) := by decide +kernel
abbrev cX7_init : ByteArray := prog_1_method_1_code
def yX7_init : MethodName := ⟨RX7, "<init>", "()V"⟩
abbrev cX7_clear : ByteArray := prog_1_method_2_code
def yX7_clear : MethodName := ⟨RX7, "clear", "()I"⟩
abbrev cX7_addTask : ByteArray := prog_1_method_3_code
def yX7_addTask : MethodName := ⟨RX7, "addTask", "(IIII)I"⟩
abbrev cX7_addSegment : ByteArray := prog_1_method_4_code
def yX7_addSegment : MethodName := ⟨RX7, "addSegment", "(III)I"⟩
abbrev cX7_setServer : ByteArray := prog_1_method_5_code
def yX7_setServer : MethodName := ⟨RX7, "setServer", "(III)Z"⟩
abbrev cX7_request : ByteArray := prog_1_method_6_code
def yX7_request : MethodName := ⟨RX7, "request", "(II)I"⟩
abbrev cX7_setPolicy : ByteArray := prog_1_method_7_code
def yX7_setPolicy : MethodName := ⟨RX7, "setPolicy", "(I)I"⟩
abbrev cX7_append : ByteArray := prog_1_method_8_code
def yX7_append : MethodName := ⟨RX7, "append", "(C)I"⟩
abbrev cX7_configure : ByteArray := prog_1_method_9_code
def yX7_configure : MethodName := ⟨RX7, "configure", "()I"⟩
abbrev cX7_errorPosition : ByteArray := prog_1_method_10_code
def yX7_errorPosition : MethodName := ⟨RX7, "errorPosition", "()I"⟩
abbrev cX7_taskCount : ByteArray := prog_1_method_11_code
def yX7_taskCount : MethodName := ⟨RX7, "taskCount", "()I"⟩
abbrev cX7_task : ByteArray := prog_1_method_12_code
def yX7_task : MethodName := ⟨RX7, "task", "(II)I"⟩
abbrev cX7_ceiling : ByteArray := prog_1_method_13_code
def yX7_ceiling : MethodName := ⟨RX7, "ceiling", "(I)I"⟩
abbrev cX7_blocking : ByteArray := prog_1_method_14_code
def yX7_blocking : MethodName := ⟨RX7, "blocking", "(I)I"⟩
abbrev cX7_bound : ByteArray := prog_1_method_15_code
def yX7_bound : MethodName := ⟨RX7, "bound", "(I)I"⟩
abbrev cX7_witness : ByteArray := prog_1_method_16_code
def yX7_witness : MethodName := ⟨RX7, "witness", "(I)I"⟩
abbrev cX7_isSchedulable : ByteArray := prog_1_method_17_code
def yX7_isSchedulable : MethodName := ⟨RX7, "isSchedulable", "()Z"⟩
abbrev cX7_load : ByteArray := prog_1_method_18_code
def yX7_load : MethodName := ⟨RX7, "load", "()D"⟩
abbrev cX7_hyperbolicLoad : ByteArray := prog_1_method_19_code
def yX7_hyperbolicLoad : MethodName := ⟨RX7, "hyperbolicLoad", "()D"⟩
abbrev cX7_run : ByteArray := prog_1_method_20_code
def yX7_run : MethodName := ⟨RX7, "run", "(I)I"⟩
abbrev cX7_rewind : ByteArray := prog_1_method_21_code
def yX7_rewind : MethodName := ⟨RX7, "rewind", "()I"⟩
abbrev cX7_clock : ByteArray := prog_1_method_22_code
def yX7_clock : MethodName := ⟨RX7, "clock", "()I"⟩
abbrev cX7_ranAt : ByteArray := prog_1_method_23_code
def yX7_ranAt : MethodName := ⟨RX7, "ranAt", "(I)I"⟩
abbrev cX7_pending : ByteArray := prog_1_method_24_code
def yX7_pending : MethodName := ⟨RX7, "pending", "(I)I"⟩
abbrev cX7_activePriority : ByteArray := prog_1_method_25_code
def yX7_activePriority : MethodName := ⟨RX7, "activePriority", "(I)I"⟩
abbrev cX7_holder : ByteArray := prog_1_method_26_code
def yX7_holder : MethodName := ⟨RX7, "holder", "(I)I"⟩
abbrev cX7_result : ByteArray := prog_1_method_27_code
def yX7_result : MethodName := ⟨RX7, "result", "(II)I"⟩
abbrev cX7_averageResponse : ByteArray := prog_1_method_28_code
def yX7_averageResponse : MethodName := ⟨RX7, "averageResponse", "(I)F"⟩
abbrev cX7_balance : ByteArray := prog_1_method_29_code
def yX7_balance : MethodName := ⟨RX7, "balance", "()I"⟩
abbrev cX7_nextReplenishment : ByteArray := prog_1_method_30_code
def yX7_nextReplenishment : MethodName := ⟨RX7, "nextReplenishment", "()I"⟩
abbrev cX7_requestResponse : ByteArray := prog_1_method_31_code
def yX7_requestResponse : MethodName := ⟨RX7, "requestResponse", "(I)I"⟩
abbrev cX7_utilization : ByteArray := prog_1_method_32_code
def yX7_utilization : MethodName := ⟨RX7, "utilization", "()D"⟩
abbrev cX7_snapshot : ByteArray := prog_1_method_33_code
def yX7_snapshot : MethodName := ⟨RX7, "snapshot", "()I"⟩
abbrev cX7_restore : ByteArray := prog_1_method_34_code
def yX7_restore : MethodName := ⟨RX7, "restore", "()I"⟩
abbrev cX7_perform : ByteArray := prog_1_method_35_code
def yX7_perform : MethodName := ⟨RX7, "perform", "(I)I"⟩
abbrev cX7_accepted : ByteArray := prog_1_method_36_code
def yX7_accepted : MethodName := ⟨RX7, "accepted", "(I)I"⟩
abbrev cX7_found : ByteArray := prog_1_method_37_code
def yX7_found : MethodName := ⟨RX7, "found", "(I)I"⟩
abbrev cX7_checkedResource : ByteArray := prog_1_method_38_code
def yX7_checkedResource : MethodName := ⟨RX7, "checkedResource", "(I)I"⟩
abbrev cX7_taskAt : ByteArray := prog_1_method_39_code
def yX7_taskAt : MethodName := ⟨RX7, "taskAt", "(I)LCeilingWorkbench$Task;"⟩
abbrev cX7_taskWithSegments : ByteArray := prog_1_method_40_code
def yX7_taskWithSegments : MethodName := ⟨RX7, "taskWithSegments", "(I)LCeilingWorkbench$Task;"⟩
abbrev cX7_presentServer : ByteArray := prog_1_method_41_code
def yX7_presentServer : MethodName := ⟨RX7, "presentServer", "()LCeilingWorkbench$Server;"⟩
abbrev cX7_isWithin : ByteArray := prog_1_method_42_code
def yX7_isWithin : MethodName := ⟨RX7, "isWithin", "(III)Z"⟩
def RX8 : String := "CeilingWorkbenchModel"
def TX8 : u_T := fun k => match k with
  | 0 => ("CeilingWorkbenchModel", "thrown", "I", false)
  | 1 => ("CeilingWorkbenchModel", "policy", "I", false)
  | 2 => ("CeilingWorkbenchModel", "many", "I", false)
  | 3 => ("CeilingWorkbenchModel", "tasks", "[I", true)
  | 4 => ("CeilingWorkbenchModel", "segmentMany", "[I", true)
  | 5 => ("CeilingWorkbenchModel", "segments", "[I", true)
  | 6 => ("CeilingWorkbenchModel", "serverPriority", "I", false)
  | 7 => ("CeilingWorkbenchModel", "serverBudget", "I", false)
  | 8 => ("CeilingWorkbenchModel", "serverPeriod", "I", false)
  | 9 => ("CeilingWorkbenchModel", "requestMany", "I", false)
  | 10 => ("CeilingWorkbenchModel", "requests", "[I", true)
  | 11 => ("CeilingWorkbenchModel", "clock", "I", false)
  | 12 => ("CeilingWorkbenchModel", "ran", "[I", true)
  | 13 => ("CeilingWorkbenchModel", "jobs", "[I", true)
  | 14 => ("CeilingWorkbenchModel", "jobMany", "[I", true)
  | 15 => ("CeilingWorkbenchModel", "progress", "[I", true)
  | 16 => ("CeilingWorkbenchModel", "skips", "[I", true)
  | 17 => ("CeilingWorkbenchModel", "results", "[I", true)
  | 18 => ("CeilingWorkbenchModel", "responses", "[I", true)
  | 19 => ("CeilingWorkbenchModel", "balance", "I", false)
  | 20 => ("CeilingWorkbenchModel", "isBusy", "I", false)
  | 21 => ("CeilingWorkbenchModel", "busySince", "I", false)
  | 22 => ("CeilingWorkbenchModel", "busyUnits", "I", false)
  | 23 => ("CeilingWorkbenchModel", "left", "[I", true)
  | 24 => ("CeilingWorkbenchModel", "finished", "[I", true)
  | 25 => ("CeilingWorkbenchModel", "planned", "[I", true)
  | 26 => ("CeilingWorkbenchModel", "plannedMany", "I", false)
  | 27 => ("CeilingWorkbenchModel", "input", "[C", true)
  | 28 => ("CeilingWorkbenchModel", "typed", "I", false)
  | 29 => ("CeilingWorkbenchModel", "end", "I", false)
  | 30 => ("CeilingWorkbenchModel", "at", "I", false)
  | 31 => ("CeilingWorkbenchModel", "fault", "I", false)
  | 32 => ("CeilingWorkbenchModel", "error", "I", false)
  | 33 => ("CeilingWorkbenchModel", "arguments", "[I", true)
  | 34 => ("CeilingWorkbenchModel", "isKept", "Z", false)
  | 35 => ("CeilingWorkbenchModel", "kept", "[I", true)
  | 36 => ("CeilingWorkbenchModel", "keptAt", "I", false)
  | _ => ("CeilingWorkbenchModel", "isBack", "Z", false)
def tyX8 : Nat → FieldType := fun k => match k with
  | 0 => .int
  | 1 => .int
  | 2 => .int
  | 3 => .array .int
  | 4 => .array .int
  | 5 => .array .int
  | 6 => .int
  | 7 => .int
  | 8 => .int
  | 9 => .int
  | 10 => .array .int
  | 11 => .int
  | 12 => .array .int
  | 13 => .array .int
  | 14 => .array .int
  | 15 => .array .int
  | 16 => .array .int
  | 17 => .array .int
  | 18 => .array .int
  | 19 => .int
  | 20 => .int
  | 21 => .int
  | 22 => .int
  | 23 => .array .int
  | 24 => .array .int
  | 25 => .array .int
  | 26 => .int
  | 27 => .array .char
  | 28 => .int
  | 29 => .int
  | 30 => .int
  | 31 => .int
  | 32 => .int
  | 33 => .array .int
  | 34 => .boolean
  | 35 => .array .int
  | 36 => .int
  | _ => .boolean
theorem nmX8 : ∀ a, a < 38 → ∀ b, b < 38 → a ≠ b → (TX8 a).2.1 ≠ (TX8 b).2.1 := by decide +kernel
theorem tyX8_ok : ∀ k, k < 38 → parseFieldDescriptor (TX8 k).2.2.1 = some (tyX8 k) := by decide +kernel
abbrev cX8_init : ByteArray := prog_10_method_1_code
def yX8_init : MethodName := ⟨RX8, "<init>", "()V"⟩
abbrev cX8_isIn : ByteArray := prog_10_method_2_code
def yX8_isIn : MethodName := ⟨RX8, "isIn", "(III)Z"⟩
abbrev cX8_thrown : ByteArray := prog_10_method_3_code
def yX8_thrown : MethodName := ⟨RX8, "thrown", "()I"⟩
abbrev cX8_fail : ByteArray := prog_10_method_4_code
def yX8_fail : MethodName := ⟨RX8, "fail", "(I)I"⟩
abbrev cX8_hasServer : ByteArray := prog_10_method_5_code
def yX8_hasServer : MethodName := ⟨RX8, "hasServer", "()Z"⟩
abbrev cX8_isTask : ByteArray := prog_10_method_6_code
def yX8_isTask : MethodName := ⟨RX8, "isTask", "(I)Z"⟩
abbrev cX8_priorityOf : ByteArray := prog_10_method_7_code
def yX8_priorityOf : MethodName := ⟨RX8, "priorityOf", "(I)I"⟩
abbrev cX8_periodOf : ByteArray := prog_10_method_8_code
def yX8_periodOf : MethodName := ⟨RX8, "periodOf", "(I)I"⟩
abbrev cX8_lengthAt : ByteArray := prog_10_method_9_code
def yX8_lengthAt : MethodName := ⟨RX8, "lengthAt", "(II)I"⟩
abbrev cX8_resourceAt : ByteArray := prog_10_method_10_code
def yX8_resourceAt : MethodName := ⟨RX8, "resourceAt", "(II)I"⟩
abbrev cX8_demandOf : ByteArray := prog_10_method_11_code
def yX8_demandOf : MethodName := ⟨RX8, "demandOf", "(I)I"⟩
abbrev cX8_restart : ByteArray := prog_10_method_12_code
def yX8_restart : MethodName := ⟨RX8, "restart", "()V"⟩
abbrev cX8_clear : ByteArray := prog_10_method_13_code
def yX8_clear : MethodName := ⟨RX8, "clear", "()I"⟩
abbrev cX8_isTaken : ByteArray := prog_10_method_14_code
def yX8_isTaken : MethodName := ⟨RX8, "isTaken", "(I)Z"⟩
abbrev cX8_addTask : ByteArray := prog_10_method_15_code
def yX8_addTask : MethodName := ⟨RX8, "addTask", "(IIII)I"⟩
abbrev cX8_addSegment : ByteArray := prog_10_method_16_code
def yX8_addSegment : MethodName := ⟨RX8, "addSegment", "(III)I"⟩
abbrev cX8_setServer : ByteArray := prog_10_method_17_code
def yX8_setServer : MethodName := ⟨RX8, "setServer", "(III)Z"⟩
abbrev cX8_request : ByteArray := prog_10_method_18_code
def yX8_request : MethodName := ⟨RX8, "request", "(II)I"⟩
abbrev cX8_setPolicy : ByteArray := prog_10_method_19_code
def yX8_setPolicy : MethodName := ⟨RX8, "setPolicy", "(I)I"⟩
abbrev cX8_taskCount : ByteArray := prog_10_method_20_code
def yX8_taskCount : MethodName := ⟨RX8, "taskCount", "()I"⟩
abbrev cX8_task : ByteArray := prog_10_method_21_code
def yX8_task : MethodName := ⟨RX8, "task", "(II)I"⟩
abbrev cX8_ceilingOf : ByteArray := prog_10_method_22_code
def yX8_ceilingOf : MethodName := ⟨RX8, "ceilingOf", "(I)I"⟩
abbrev cX8_ceiling : ByteArray := prog_10_method_23_code
def yX8_ceiling : MethodName := ⟨RX8, "ceiling", "(I)I"⟩
abbrev cX8_blockingOf : ByteArray := prog_10_method_24_code
def yX8_blockingOf : MethodName := ⟨RX8, "blockingOf", "(I)I"⟩
abbrev cX8_blocking : ByteArray := prog_10_method_25_code
def yX8_blocking : MethodName := ⟨RX8, "blocking", "(I)I"⟩
abbrev cX8_quotientUp : ByteArray := prog_10_method_26_code
def yX8_quotientUp : MethodName := ⟨RX8, "quotientUp", "(II)I"⟩
abbrev cX8_workUpTo : ByteArray := prog_10_method_27_code
def yX8_workUpTo : MethodName := ⟨RX8, "workUpTo", "(II)I"⟩
abbrev cX8_boundOf : ByteArray := prog_10_method_28_code
def yX8_boundOf : MethodName := ⟨RX8, "boundOf", "(I)I"⟩
abbrev cX8_bound : ByteArray := prog_10_method_29_code
def yX8_bound : MethodName := ⟨RX8, "bound", "(I)I"⟩
abbrev cX8_comes : ByteArray := prog_10_method_30_code
def yX8_comes : MethodName := ⟨RX8, "comes", "(II)I"⟩
abbrev cX8_witness : ByteArray := prog_10_method_31_code
def yX8_witness : MethodName := ⟨RX8, "witness", "(I)I"⟩
abbrev cX8_isSchedulable : ByteArray := prog_10_method_32_code
def yX8_isSchedulable : MethodName := ⟨RX8, "isSchedulable", "()Z"⟩
abbrev cX8_load : ByteArray := prog_10_method_33_code
def yX8_load : MethodName := ⟨RX8, "load", "()D"⟩
abbrev cX8_hyperbolicLoad : ByteArray := prog_10_method_34_code
def yX8_hyperbolicLoad : MethodName := ⟨RX8, "hyperbolicLoad", "()D"⟩
abbrev cX8_takeReplenishments : ByteArray := prog_10_method_35_code
def yX8_takeReplenishments : MethodName := ⟨RX8, "takeReplenishments", "()V"⟩
abbrev cX8_release : ByteArray := prog_10_method_36_code
def yX8_release : MethodName := ⟨RX8, "release", "()V"⟩
abbrev cX8_takeJob : ByteArray := prog_10_method_37_code
def yX8_takeJob : MethodName := ⟨RX8, "takeJob", "(II)V"⟩
abbrev cX8_meetDeadlines : ByteArray := prog_10_method_38_code
def yX8_meetDeadlines : MethodName := ⟨RX8, "meetDeadlines", "()V"⟩
abbrev cX8_segmentNow : ByteArray := prog_10_method_39_code
def yX8_segmentNow : MethodName := ⟨RX8, "segmentNow", "(IZ)I"⟩
abbrev cX8_heldBy : ByteArray := prog_10_method_40_code
def yX8_heldBy : MethodName := ⟨RX8, "heldBy", "(I)I"⟩
abbrev cX8_activeOf : ByteArray := prog_10_method_41_code
def yX8_activeOf : MethodName := ⟨RX8, "activeOf", "(I)I"⟩
abbrev cX8_firstRequest : ByteArray := prog_10_method_42_code
def yX8_firstRequest : MethodName := ⟨RX8, "firstRequest", "(I)I"⟩
abbrev cX8_isReady : ByteArray := prog_10_method_43_code
def yX8_isReady : MethodName := ⟨RX8, "isReady", "(I)Z"⟩
abbrev cX8_mostUrgent : ByteArray := prog_10_method_44_code
def yX8_mostUrgent : MethodName := ⟨RX8, "mostUrgent", "()I"⟩
abbrev cX8_runServer : ByteArray := prog_10_method_45_code
def yX8_runServer : MethodName := ⟨RX8, "runServer", "()V"⟩
abbrev cX8_runJob : ByteArray := prog_10_method_46_code
def yX8_runJob : MethodName := ⟨RX8, "runJob", "(I)I"⟩
abbrev cX8_countPreemption : ByteArray := prog_10_method_47_code
def yX8_countPreemption : MethodName := ⟨RX8, "countPreemption", "(I)V"⟩
abbrev cX8_endBusy : ByteArray := prog_10_method_48_code
def yX8_endBusy : MethodName := ⟨RX8, "endBusy", "()V"⟩
abbrev cX8_makeUnit : ByteArray := prog_10_method_49_code
def yX8_makeUnit : MethodName := ⟨RX8, "makeUnit", "()I"⟩
abbrev cX8_run : ByteArray := prog_10_method_50_code
def yX8_run : MethodName := ⟨RX8, "run", "(I)I"⟩
abbrev cX8_rewind : ByteArray := prog_10_method_51_code
def yX8_rewind : MethodName := ⟨RX8, "rewind", "()I"⟩
abbrev cX8_clock : ByteArray := prog_10_method_52_code
def yX8_clock : MethodName := ⟨RX8, "clock", "()I"⟩
abbrev cX8_ranAt : ByteArray := prog_10_method_53_code
def yX8_ranAt : MethodName := ⟨RX8, "ranAt", "(I)I"⟩
abbrev cX8_pending : ByteArray := prog_10_method_54_code
def yX8_pending : MethodName := ⟨RX8, "pending", "(I)I"⟩
abbrev cX8_activePriority : ByteArray := prog_10_method_55_code
def yX8_activePriority : MethodName := ⟨RX8, "activePriority", "(I)I"⟩
abbrev cX8_holder : ByteArray := prog_10_method_56_code
def yX8_holder : MethodName := ⟨RX8, "holder", "(I)I"⟩
abbrev cX8_result : ByteArray := prog_10_method_57_code
def yX8_result : MethodName := ⟨RX8, "result", "(II)I"⟩
abbrev cX8_averageResponse : ByteArray := prog_10_method_58_code
def yX8_averageResponse : MethodName := ⟨RX8, "averageResponse", "(I)F"⟩
abbrev cX8_balance : ByteArray := prog_10_method_59_code
def yX8_balance : MethodName := ⟨RX8, "balance", "()I"⟩
abbrev cX8_nextReplenishment : ByteArray := prog_10_method_60_code
def yX8_nextReplenishment : MethodName := ⟨RX8, "nextReplenishment", "()I"⟩
abbrev cX8_requestResponse : ByteArray := prog_10_method_61_code
def yX8_requestResponse : MethodName := ⟨RX8, "requestResponse", "(I)I"⟩
abbrev cX8_utilization : ByteArray := prog_10_method_62_code
def yX8_utilization : MethodName := ⟨RX8, "utilization", "()D"⟩
abbrev cX8_append : ByteArray := prog_10_method_63_code
def yX8_append : MethodName := ⟨RX8, "append", "(C)I"⟩
abbrev cX8_sign : ByteArray := prog_10_method_64_code
def yX8_sign : MethodName := ⟨RX8, "sign", "()I"⟩
abbrev cX8_take : ByteArray := prog_10_method_65_code
def yX8_take : MethodName := ⟨RX8, "take", "(C)V"⟩
abbrev cX8_takeAll : ByteArray := prog_10_method_66_code
def yX8_takeAll : MethodName := ⟨RX8, "takeAll", "(CCCCCCC)V"⟩
abbrev cX8_number : ByteArray := prog_10_method_67_code
def yX8_number : MethodName := ⟨RX8, "number", "()I"⟩
abbrev cX8_resource : ByteArray := prog_10_method_68_code
def yX8_resource : MethodName := ⟨RX8, "resource", "()I"⟩
abbrev cX8_policyName : ByteArray := prog_10_method_69_code
def yX8_policyName : MethodName := ⟨RX8, "policyName", "()I"⟩
abbrev cX8_readNumbers : ByteArray := prog_10_method_70_code
def yX8_readNumbers : MethodName := ⟨RX8, "readNumbers", "(I)V"⟩
abbrev cX8_readCommand : ByteArray := prog_10_method_71_code
def yX8_readCommand : MethodName := ⟨RX8, "readCommand", "()I"⟩
abbrev cX8_doCommand : ByteArray := prog_10_method_72_code
def yX8_doCommand : MethodName := ⟨RX8, "doCommand", "(I)I"⟩
abbrev cX8_configure : ByteArray := prog_10_method_73_code
def yX8_configure : MethodName := ⟨RX8, "configure", "()I"⟩
abbrev cX8_errorPosition : ByteArray := prog_10_method_74_code
def yX8_errorPosition : MethodName := ⟨RX8, "errorPosition", "()I"⟩
abbrev cX8_pass : ByteArray := prog_10_method_75_code
def yX8_pass : MethodName := ⟨RX8, "pass", "(I)I"⟩
abbrev cX8_passRow : ByteArray := prog_10_method_76_code
def yX8_passRow : MethodName := ⟨RX8, "passRow", "([I)V"⟩
abbrev cX8_passAll : ByteArray := prog_10_method_77_code
def yX8_passAll : MethodName := ⟨RX8, "passAll", "(Z)V"⟩
abbrev cX8_snapshot : ByteArray := prog_10_method_78_code
def yX8_snapshot : MethodName := ⟨RX8, "snapshot", "()I"⟩
abbrev cX8_restore : ByteArray := prog_10_method_79_code
def yX8_restore : MethodName := ⟨RX8, "restore", "()I"⟩
def RL : String := "CeilingWorkbenchLaw"
abbrev cL_addTask : ByteArray := method_3_code
def yL_addTask : MethodName := ⟨RL, "addTask", "(LCeilingWorkbench;IIII[J)I"⟩
abbrev cL_addSegment : ByteArray := method_4_code
def yL_addSegment : MethodName := ⟨RL, "addSegment", "(LCeilingWorkbench;III[J)I"⟩
abbrev cL_setServer : ByteArray := method_5_code
def yL_setServer : MethodName := ⟨RL, "setServer", "(LCeilingWorkbench;III[J)I"⟩
abbrev cL_request : ByteArray := method_6_code
def yL_request : MethodName := ⟨RL, "request", "(LCeilingWorkbench;II[J)I"⟩
abbrev cL_setPolicy : ByteArray := method_7_code
def yL_setPolicy : MethodName := ⟨RL, "setPolicy", "(LCeilingWorkbench;I[J)I"⟩
abbrev cL_append : ByteArray := method_8_code
def yL_append : MethodName := ⟨RL, "append", "(LCeilingWorkbench;C[J)I"⟩
abbrev cL_configure : ByteArray := method_9_code
def yL_configure : MethodName := ⟨RL, "configure", "(LCeilingWorkbench;[J)I"⟩
abbrev cL_errorPosition : ByteArray := method_10_code
def yL_errorPosition : MethodName := ⟨RL, "errorPosition", "(LCeilingWorkbench;[J)I"⟩
abbrev cL_task : ByteArray := method_11_code
def yL_task : MethodName := ⟨RL, "task", "(LCeilingWorkbench;II[J)I"⟩
abbrev cL_ceiling : ByteArray := method_12_code
def yL_ceiling : MethodName := ⟨RL, "ceiling", "(LCeilingWorkbench;I[J)I"⟩
abbrev cL_blocking : ByteArray := method_13_code
def yL_blocking : MethodName := ⟨RL, "blocking", "(LCeilingWorkbench;I[J)I"⟩
abbrev cL_bound : ByteArray := method_14_code
def yL_bound : MethodName := ⟨RL, "bound", "(LCeilingWorkbench;I[J)I"⟩
abbrev cL_witness : ByteArray := method_15_code
def yL_witness : MethodName := ⟨RL, "witness", "(LCeilingWorkbench;I[J)I"⟩
abbrev cL_run : ByteArray := method_16_code
def yL_run : MethodName := ⟨RL, "run", "(LCeilingWorkbench;I[J)I"⟩
abbrev cL_ranAt : ByteArray := method_17_code
def yL_ranAt : MethodName := ⟨RL, "ranAt", "(LCeilingWorkbench;I[J)I"⟩
abbrev cL_pending : ByteArray := method_18_code
def yL_pending : MethodName := ⟨RL, "pending", "(LCeilingWorkbench;I[J)I"⟩
abbrev cL_activePriority : ByteArray := method_19_code
def yL_activePriority : MethodName := ⟨RL, "activePriority", "(LCeilingWorkbench;I[J)I"⟩
abbrev cL_holder : ByteArray := method_20_code
def yL_holder : MethodName := ⟨RL, "holder", "(LCeilingWorkbench;I[J)I"⟩
abbrev cL_result : ByteArray := method_21_code
def yL_result : MethodName := ⟨RL, "result", "(LCeilingWorkbench;II[J)I"⟩
abbrev cL_averageResponse : ByteArray := method_22_code
def yL_averageResponse : MethodName := ⟨RL, "averageResponse", "(LCeilingWorkbench;I[D)I"⟩
abbrev cL_balance : ByteArray := method_23_code
def yL_balance : MethodName := ⟨RL, "balance", "(LCeilingWorkbench;[J)I"⟩
abbrev cL_nextReplenishment : ByteArray := method_24_code
def yL_nextReplenishment : MethodName := ⟨RL, "nextReplenishment", "(LCeilingWorkbench;[J)I"⟩
abbrev cL_requestResponse : ByteArray := method_25_code
def yL_requestResponse : MethodName := ⟨RL, "requestResponse", "(LCeilingWorkbench;I[J)I"⟩
abbrev cL_utilization : ByteArray := method_26_code
def yL_utilization : MethodName := ⟨RL, "utilization", "(LCeilingWorkbench;[D)I"⟩
abbrev cL_restore : ByteArray := method_27_code
def yL_restore : MethodName := ⟨RL, "restore", "(LCeilingWorkbench;[J)I"⟩
abbrev cL_law : ByteArray := code
def yL_law : MethodName := ⟨RL, "law", "([I)Z"⟩
end
section
/-! ===== BEGIN words of one list among another's, by their places ===== -/
theorem goodIn_r {big : List Cond} (ws : List Cond) (ps : List Nat) (hp : ws = ps.filterMap (fun i => big[i]?)) (h : ws.all goodWord = true) : GoodIn big ws := by
  intro w hw
  have h1 := List.all_eq_true.mp h w hw
  rw [hp] at hw
  obtain ⟨i, -, hi⟩ := List.mem_filterMap.mp hw
  have hm : w ∈ big := by first | exact List.mem_of_getElem? hi | exact List.getElem?_mem hi
  exact ⟨hm, good_of_word h1⟩
theorem goodIn_app {big a b : List Cond} (ha : GoodIn big a) (hb : GoodIn big b) : GoodIn big (a ++ b) := fun w h => (List.mem_append.mp h).elim (ha w) (hb w)
theorem goodIn_ca {big a b : List Cond} {c : Cond} (ha : GoodIn big (c :: a)) (hb : GoodIn big b) : GoodIn big (c :: (a ++ b)) := fun w h => (List.mem_cons.mp h).elim (fun e => ha w (List.mem_cons.mpr (Or.inl e))) (fun h => (List.mem_append.mp h).elim (fun h => ha w (List.mem_cons.mpr (Or.inr h))) (hb w))
theorem goodIn_sub {big ws : List Cond} (hm : ∀ w ∈ ws, w ∈ big) (h : ws.all goodWord = true) : GoodIn big ws := fun w hw => ⟨hm w hw, good_of_word (List.all_eq_true.mp h w hw)⟩
/-! ===== END ===== -/

/-! ===== BEGIN exceptions that leave a method, and their catching by the caller (launches without stack traces) ===== -/
section VXA
/-! The laws vx_back, vx_callV, vx_callS, vx_callSW, vx_throw0, vx_throwS follow proofs of the library, with one case more: JvmDerived/Free/Laws.lean (Back.of_free), Shelf42/LK1.lean (callV, callS), Shelf/KitTraced.lean (throwNew0V, throwNewS). -/
/-- where a method has thrown q: the class by its name, the cell, what was written, the world -/
def vx_T (XC : String → State → State → Prop) (st : State) (q : Addr) (t : State) (mc ms : Nat) (free : Addr → Prop) : Prop :=
  ∃ (E : String) (ce : Cell) (L : List Loc), XC E st t ∧ t.heap[q]? = some ce ∧ ce.vm = .none ∧ st.vm.findClass E = some ce.cls ∧ st.WarmedH t.vm ∧ st.sameButNew ({ t with vm := st.vm } : State) L mc ms ∧ ∀ z ∈ L, free z.base
def vx_Q (Qc : Array Value → State → Outcome → State → Prop) (XC : String → State → State → Prop) (mc ms : Nat) (free : Addr → Prop) : Array Value → State → Outcome → State → Prop := fun a st o t =>
  (Qc a st o t ∧ ∃ L, FrameEnd st o t L mc ms ∧ ∀ q ∈ L, free q.base) ∨ ∃ q, o = .threw q ∧ vx_T XC st q t mc ms free
/-- a callee that returns or throws -/
def vx_Met (l : Launch) (y : MethodName) (ws : List Cond) (rm : Room) (Pc : Array Value → State → Prop) (Qc : Array Value → State → Outcome → State → Prop) (XC : String → State → State → Prop) (mc ms : Nat) (free : Addr → Prop) : Prop :=
  MetFree l y (headSpec ws rm) Pc (fun _ _ _ _ _ => True) (vx_Q Qc XC mc ms free)
def vx_Post (XC : String → State → State → Prop) (mc ms : Nat) (free : Addr → Prop) : Pt → Array Value → Addr → Pt → Prop := fun A a q B =>
  ∃ (g : JFrame) (mk : MethodId) (t : State) (L : List Loc) (E : String) (ce : Cell), B.U.heap = t.heap ∧ B.U.vm = t.vm ∧ XC E (A.U.calling g mk a) t ∧ t.heap[q]? = some ce ∧ ce.vm = .none ∧ A.U.vm.findClass E = some ce.cls ∧ B.locs = A.locs ++ L ∧ (∀ z ∈ L, free z.base) ∧ B.cells = A.cells + mc ∧ B.slots = A.slots + ms
def vx_Back (l : Launch) (R : Room) (p : Program) (e : Env) (below : List Frame) (s : State) (sargs : Array Value) (y : MethodName) (len W9 : Nat)
    (Pre : Pt → Array Value → Prop) (Post : Pt → Array Value → Option Value → Pt → Prop) (PostX : Pt → Array Value → Addr → Pt → Prop) : Prop :=
  ∀ (m : MethodId) (meth : Method) (c : Code) (A : Pt) (g : JFrame) (ig : Instr) (mk : MethodId) (a : Array Value),
    Stand p l e R s m sargs below meth c A.U A.locs A.cells A.slots → g.method = m → g.locals.size = c.maxLocals → decode c.code g.pc = .ok (ig, len) →
    2 * g.monitorRoom + (g.stack.map fun v => v.category).sum ≤ W9 → A.U.methodNamed? y = some mk → Pre A a →
    (∃ (v : Option Value) (B : Pt), Stand p l e R s m sargs below meth c B.U B.locs B.cells B.slots ∧ Post A a v B ∧
      Steps p.tables e below (doInvoke e (A.U.setTop g) [] mk a).1 (B.U.setTop { g with pc := g.pc + len, stack := v.toList ++ g.stack })) ∨
    (∃ (q : Addr) (B : Pt), Stand p l e R s m sargs below meth c B.U B.locs B.cells B.slots ∧ PostX A a q B ∧
      Steps p.tables e below (doInvoke e (A.U.setTop g) [] mk a).1 ((B.U.setTop g).pushFrame (.throwing q)))
section Payer
variable {l : Launch} {R : Room} {p : Program} {e : Env} {below : List Frame} {s : State} {sargs : Array Value} {y : MethodName} {len W9 : Nat}
theorem vx_back {ws : List Cond} {rm : Room} {Pc : Array Value → State → Prop} {Qc : Array Value → State → Outcome → State → Prop} {XC : String → State → State → Prop} {mc ms : Nat} {free : Addr → Prop} {bytes : ByteArray} {maxL : Nat} {ret : Option FieldType}
    (hM : vx_Met l y ws rm Pc Qc XC mc ms free) (hblind : FrameBlind Pc) (hrc : rm.cells = mc) (hrs : rm.slots = ms)
    (hframes : rm.frames + 1 ≤ R.frames) (hlocals : W9 + (maxL + 11) + rm.locals ≤ R.locals)
    (hws : ∀ w ∈ ws, ∀ a' U, s.WarmedH U.vm → w.before a' U = true) (hcode : Cond.code y bytes maxL ret ∈ ws) (hinit : ∀ a' U, s.WarmedH U.vm → (Cond.initialized y.cls).before a' U = true) :
    vx_Back l R p e below s sargs y len W9 (PreOf R mc ms Pc) (PostOf Qc mc ms free) (vx_Post XC mc ms free) := by
  intro m meth c A g ig mk a X hg hsize hdg hW hn hp
  have h1 : (headSpec ws rm).pre.before a A.U = true := atoms_intro fun w hw => hws w hw _ _ X.warmed
  have h2 : (Cond.code y bytes maxL ret).before a A.U = true := hws _ hcode _ _ X.warmed
  have h3 : (Cond.initialized y.cls).before a A.U = true := hinit _ _ X.warmed
  have h4 : A.cells + (headSpec ws rm).room.cells ≤ R.cells := by rw [show (headSpec ws rm).room.cells = mc from hrc]; exact hp.1
  have h5 : A.slots + (headSpec ws rm).room.slots ≤ R.slots := by rw [show (headSpec ws rm).room.slots = ms from hrs]; exact hp.2.1
  have hPc : Pc a (A.U.calling g mk a) := hblind _ _ _ _ hp.2.2
  obtain ⟨U, Ls, c0, s0⟩ := A
  dsimp only [Pt.U, Pt.locs, Pt.cells, Pt.slots] at h1 h2 h3 h4 h5 X hn hPc ⊢
  obtain ⟨methY, cY, hmY, hcY, -, hlY, -, -, -, -⟩ := Cond.code_spec hn h2
  obtain ⟨kY, hkY, -⟩ := className_of_methodNamed hn
  have hinitY : kY.init = .initialized := Cond.initialized_spec (findClass_of_methodNamed hn) hkY h3
  have h : At U g.method c below := by rw [hg]; exact X.here
  have hlocals9 : W9 + (maxL + 11) + (headSpec ws rm).room.locals ≤ R.locals := hlocals
  have happ : (headSpec ws rm).appliesLoose y e.platform (U.calling g mk a) = true :=
    Spec.appliesLoose_calling (g := g) h hdg hn hkY hinitY
      (X.room_calling (g := g) (R' := (headSpec ws rm).room) hsize hmY hcY hframes (by rw [hlY]; omega) h4 h5) h1
  obtain ⟨mid, hmid⟩ := h.above
  have hfr : (U.setTop g).frames = (.java g :: mid) ++ below := by rw [State.frames_setTop' g h.top, hmid]; rfl
  obtain ⟨o, s₂, hsteps, -, hend, hq⟩ := Steps.callFree hM p X.admits X.cas X.clock (acts := []) hfr happ hPc trivial
  have hq' : vx_Q Qc XC mc ms free a (U.calling g mk a) o s₂ := hq
  rw [State.frames_setTop' g h.top] at hend
  obtain ⟨g₀, hg0⟩ := Option.isSome_iff_exists.mp h.top
  obtain ⟨r, hr⟩ := State.topJava?_eq_some.mp hg0
  have hr' : (({ U with heap := s₂.heap, slotsUsed := s₂.slotsUsed } : State).setVm s₂.vm).frames = .java g₀ :: r := hr
  rcases hq' with ⟨hqc, L, hfe, hL⟩ | ⟨q, rfl, E, ce, L, hx, hce, hcv, hcl, hW₂, hsm, hL⟩
  · obtain ⟨⟨v, rfl⟩, hW₂, e2, q2, q3, q4, q5, q6⟩ := id hfe
    have e3 : s₂ = ({ (U.calling g mk a).setFrames s₂.frames with heap := s₂.heap, slotsUsed := s₂.slotsUsed } : State).setVm s₂.vm := by
      have : s₂ = ({ s₂ with vm := (U.calling g mk a).vm } : State).setVm s₂.vm := rfl
      rw [e2] at this
      exact this
    obtain ⟨c₂, i₂, len₂, hc₂, hd₂, hf₂⟩ := hend
    have hW' : U.WarmedH s₂.vm := hW₂
    have hcc : c₂ = c := by
      have h1 : s₂.code? g.method = U.code? g.method := by
        rw [State.code?_eq, State.code?_eq, hW'.alike.method?]
      exact Option.some.inj (hc₂.symm.trans (h1.trans h.code))
    subst hcc
    have hlen : len₂ = len := by rw [hdg] at hd₂; cases hd₂; rfl
    subst hlen
    have hs₂ : s₂ = (({ U with heap := s₂.heap, slotsUsed := s₂.slotsUsed } : State).setVm s₂.vm).setTop { g with pc := g.pc + len₂, stack := v.toList ++ g.stack } := by
      refine e3.trans ?_
      rw [hf₂, State.calling_eq h.top, State.setFrames_setFrames, State.setTop_of_frames _ hr', hr]
      rfl
    have hsame : U.sameButNew ({ U with heap := s₂.heap, slotsUsed := s₂.slotsUsed } : State) L mc ms := by
      refine ⟨?_, q2, q3, q4, q5, q6⟩
      obtain ⟨t, ht, -⟩ := State.frames_cons hr
      show ({ U with heap := s₂.heap, slotsUsed := s₂.slotsUsed } : State) = { U.setFrames U.frames with heap := s₂.heap, slotsUsed := s₂.slotsUsed }
      rw [State.setFrames_self ht]
    subst hg
    refine Or.inl ⟨v, ⟨(({ U with heap := s₂.heap, slotsUsed := s₂.slotsUsed } : State).setVm s₂.vm), Ls ++ L, c0 + mc, s0 + ms⟩,
      ⟨X.admits, X.cas, X.clock, X.frames, X.room, X.hears, X.method, X.code, (X.here.setHeapUsed s₂.heap s₂.slotsUsed).setVm hW'.alike, X.tail, State.WarmedH.trans X.warmed hW', X.limits, X.bytes, X.same.trans (hsame.setVm s.vm)⟩,
      ⟨g, mk, s₂, L, rfl, rfl, hqc, rfl, hL, rfl, rfl⟩, ?_⟩
    show Steps p.tables e below _ ((({ U with heap := s₂.heap, slotsUsed := s₂.slotsUsed } : State).setVm s₂.vm).setTop { g with pc := g.pc + len₂, stack := v.toList ++ g.stack })
    rw [← hs₂]
    exact hsteps
  · obtain ⟨e2, q2, q3, q4, q5, q6⟩ := id hsm
    have e3 : s₂ = ({ (U.calling g mk a).setFrames s₂.frames with heap := s₂.heap, slotsUsed := s₂.slotsUsed } : State).setVm s₂.vm := by
      have : s₂ = ({ s₂ with vm := (U.calling g mk a).vm } : State).setVm s₂.vm := rfl
      rw [e2] at this
      exact this
    have hf₂ : s₂.frames = .throwing q :: .java g :: U.frames.tail := hend
    have hW' : U.WarmedH s₂.vm := hW₂
    have hs₂ : s₂ = ((({ U with heap := s₂.heap, slotsUsed := s₂.slotsUsed } : State).setVm s₂.vm).setTop g).pushFrame (.throwing q) := by
      refine e3.trans ?_
      rw [hf₂, State.calling_eq h.top, State.setFrames_setFrames, State.pushFrame, State.frames_setTop _ hr', State.setTop_of_frames _ hr', State.setFrames_setFrames, hr]
      rfl
    have hsame : U.sameButNew ({ U with heap := s₂.heap, slotsUsed := s₂.slotsUsed } : State) L mc ms := by
      refine ⟨?_, q2, q3, q4, q5, q6⟩
      obtain ⟨t, ht, -⟩ := State.frames_cons hr
      show ({ U with heap := s₂.heap, slotsUsed := s₂.slotsUsed } : State) = { U.setFrames U.frames with heap := s₂.heap, slotsUsed := s₂.slotsUsed }
      rw [State.setFrames_self ht]
    subst hg
    refine Or.inr ⟨q, ⟨(({ U with heap := s₂.heap, slotsUsed := s₂.slotsUsed } : State).setVm s₂.vm), Ls ++ L, c0 + mc, s0 + ms⟩,
      ⟨X.admits, X.cas, X.clock, X.frames, X.room, X.hears, X.method, X.code, (X.here.setHeapUsed s₂.heap s₂.slotsUsed).setVm hW'.alike, X.tail, State.WarmedH.trans X.warmed hW', X.limits, X.bytes, X.same.trans (hsame.setVm s.vm)⟩,
      ⟨g, mk, s₂, L, E, ce, rfl, rfl, hx, hce, hcv, hcl, rfl, hL, rfl, rfl⟩, ?_⟩
    show Steps p.tables e below _ (((({ U with heap := s₂.heap, slotsUsed := s₂.slotsUsed } : State).setVm s₂.vm).setTop g).pushFrame (.throwing q))
    rw [← hs₂]
    exact hsteps
end Payer
section Calls
variable {p : Program} {l : Launch} {e : Env} {R : Room} {s : State} {m : MethodId} {args : Array Value} {below : List Frame} {meth : Method} {c : Code} {T : State} {locs : List Loc} {cells slots : Nat}
theorem vx_callV (X : Stand p l e R s m args below meth c T locs cells slots) (hexec : p.tables.exec = Jvm.exec) {own C : String} {index : Nat} {y : MethodName} {bytes : ByteArray} {maxL : Nat} {ret : Option FieldType}
    (hown : s.vm.findClass own = some m.cls) (hlink : (Cond.methodLink own index y).before args s = true) (hinst : (Cond.instanceMethod y).before args s = true) (hsel : (Cond.selects C y y).before args s = true)
    (hcode : (Cond.code y bytes maxL ret).before args s = true) (hy : y.cls ≠ "java/lang/invoke/MethodHandle" ∧ y.cls ≠ "java/lang/invoke/VarHandle")
    {W9 : Nat} {Pre : Pt → Array Value → Prop} {Post : Pt → Array Value → Option Value → Pt → Prop} {PostX : Pt → Array Value → Addr → Pt → Prop} (hK : vx_Back l R p e below s args y 3 W9 Pre Post PostX)
    {b : Addr} {cellB : Cell} (hcell : T.heap[b]? = some cellB) (hobj : cellB.vm.isStatics = false) (hcls : s.vm.findClass C = some cellB.cls)
    {g : JFrame} (hg : g.method = m) (hsize : g.locals.size = c.maxLocals) {argsL rest : List Value} (hlen : ∀ sig, parseMethodDescriptor y.desc = some sig → argsL.length = sig.parameters.length)
    (hstack : g.stack = argsL.reverse ++ .ref b :: rest) (hW : 2 * g.monitorRoom + (rest.map fun v => v.category).sum ≤ W9) (hdg : decode c.code g.pc = .ok (.invokevirtual index, 3))
    (hpre : ∀ vm₁, s.WarmedH vm₁ → Pre ⟨T.setVm vm₁, locs, cells, slots⟩ (Value.ref b :: argsL).toArray) :
    (∃ (v : Option Value) (vm₁ : Vm) (B : Pt), s.WarmedH vm₁ ∧ Stand p l e R s m args below meth c B.U B.locs B.cells B.slots ∧ Post ⟨T.setVm vm₁, locs, cells, slots⟩ (Value.ref b :: argsL).toArray v B ∧
      ∀ target, Steps p.tables e below (B.U.setTop { g with pc := g.pc + 3, stack := v.toList ++ rest }) target → Steps p.tables e below (T.setTop g) target) ∨
    (∃ (q : Addr) (vm₁ : Vm) (B : Pt), s.WarmedH vm₁ ∧ Stand p l e R s m args below meth c B.U B.locs B.cells B.slots ∧ PostX ⟨T.setVm vm₁, locs, cells, slots⟩ (Value.ref b :: argsL).toArray q B ∧
      Steps p.tables e below (T.setTop g) ((B.U.setTop { g with stack := rest }).pushFrame (.throwing q))) := by
  obtain ⟨mk, methM, hnamed, hmethM, hstM, habM⟩ := Cond.instanceMethod_spec hinst
  obtain ⟨methM', cM, hmethM', -, -, -, -, -, -, hsigM⟩ := Cond.code_spec hnamed hcode
  cases hmethM.symm.trans hmethM'
  obtain ⟨c2, r2, m2, q1, q2, q3, q4, kP, hkP, hkPi⟩ := Cond.selects_spec hsel
  cases hcls.symm.trans q1
  cases (State.methodFound?_of_named hnamed hy).symm.trans q2
  cases hnamed.symm.trans q3
  have hselP : selectMethod e.platform s.vm cellB.cls mk = .method mk := by rw [Launch.admits_selectMethod X.admits]; exact q4
  obtain ⟨vm₁, X₁, hstep₁⟩ := X.invokevirtual hexec hown hlink hnamed hmethM hstM hkP hkPi hy (a := b) (cell := cellB) hcell
    (fun z h => by rw [h] at hobj; cases hobj) hselP hmethM habM hkP hkPi (g := g) hg (argsL := argsL) (rest := rest) (hlen _ hsigM) hstack hdg
  rcases hK m meth c ⟨T.setVm vm₁, locs, cells, slots⟩ { g with stack := rest } (.invokevirtual index) mk (Value.ref b :: argsL).toArray X₁ hg hsize hdg hW (X₁.named hnamed) (hpre vm₁ X₁.warmed) with ⟨v, B, X', hpost, hsteps⟩ | ⟨q, B, X', hpost, hsteps⟩
  · exact Or.inl ⟨v, vm₁, B, X₁.warmed, X', hpost, fun target h => hstep₁ _ fun acts => by rw [doInvoke_state]; exact hsteps.trans h⟩
  · exact Or.inr ⟨q, vm₁, B, X₁.warmed, X', hpost, hstep₁ _ fun acts => by rw [doInvoke_state]; exact hsteps⟩
theorem vx_callS (X : Stand p l e R s m args below meth c T locs cells slots) (hexec : p.tables.exec = Jvm.exec) {own : String} {index : Nat} {y : MethodName} {bytes : ByteArray} {maxL : Nat} {ret : Option FieldType}
    (hown : s.vm.findClass own = some m.cls) (hlink : (Cond.methodLink own index y).before args s = true) (hstat : (Cond.static y).before args s = true) (hinit : (Cond.initialized y.cls).before args s = true)
    (hcode : (Cond.code y bytes maxL ret).before args s = true) (hy : y.cls ≠ "java/lang/invoke/MethodHandle" ∧ y.cls ≠ "java/lang/invoke/VarHandle")
    {W9 : Nat} {Pre : Pt → Array Value → Prop} {Post : Pt → Array Value → Option Value → Pt → Prop} {PostX : Pt → Array Value → Addr → Pt → Prop} (hK : vx_Back l R p e below s args y 3 W9 Pre Post PostX)
    {g : JFrame} (hg : g.method = m) (hsize : g.locals.size = c.maxLocals) {argsL rest : List Value} (hlen : ∀ sig, parseMethodDescriptor y.desc = some sig → argsL.length = sig.parameters.length)
    (hstack : g.stack = argsL.reverse ++ rest) (hW : 2 * g.monitorRoom + (rest.map fun v => v.category).sum ≤ W9) (hdg : decode c.code g.pc = .ok (.invokestatic index, 3))
    (hpre : ∀ vm₁, s.WarmedH vm₁ → Pre ⟨T.setVm vm₁, locs, cells, slots⟩ argsL.toArray) :
    (∃ (v : Option Value) (vm₁ : Vm) (B : Pt), s.WarmedH vm₁ ∧ Stand p l e R s m args below meth c B.U B.locs B.cells B.slots ∧ Post ⟨T.setVm vm₁, locs, cells, slots⟩ argsL.toArray v B ∧
      ∀ target, Steps p.tables e below (B.U.setTop { g with pc := g.pc + 3, stack := v.toList ++ rest }) target → Steps p.tables e below (T.setTop g) target) ∨
    (∃ (q : Addr) (vm₁ : Vm) (B : Pt), s.WarmedH vm₁ ∧ Stand p l e R s m args below meth c B.U B.locs B.cells B.slots ∧ PostX ⟨T.setVm vm₁, locs, cells, slots⟩ argsL.toArray q B ∧
      Steps p.tables e below (T.setTop g) ((B.U.setTop { g with stack := rest }).pushFrame (.throwing q))) := by
  obtain ⟨mk, hnamed⟩ := Cond.code_named hcode
  obtain ⟨methM, cM, hmethM, -, -, -, -, -, -, hsigM⟩ := Cond.code_spec hnamed hcode
  have hstatic : methM.isStatic = true := Cond.static_spec hnamed hmethM hstat
  obtain ⟨kP, hkP, -⟩ := className_of_methodNamed hnamed
  have hinitP : kP.init = .initialized := Cond.initialized_spec (findClass_of_methodNamed hnamed) hkP hinit
  obtain ⟨vm₁, X₁, hstep₁⟩ := X.invokestatic hexec hown hlink hnamed hmethM hstatic hkP hinitP hy (g := g) hg (argsL := argsL) (rest := rest) (hlen _ hsigM) hstack hdg
  rcases hK m meth c ⟨T.setVm vm₁, locs, cells, slots⟩ { g with stack := rest } (.invokestatic index) mk argsL.toArray X₁ hg hsize hdg hW (X₁.named hnamed) (hpre vm₁ X₁.warmed) with ⟨v, B, X', hpost, hsteps⟩ | ⟨q, B, X', hpost, hsteps⟩
  · exact Or.inl ⟨v, vm₁, B, X₁.warmed, X', hpost, fun target h => hstep₁ _ fun acts => by rw [doInvoke_state]; exact hsteps.trans h⟩
  · exact Or.inr ⟨q, vm₁, B, X₁.warmed, X', hpost, hstep₁ _ fun acts => by rw [doInvoke_state]; exact hsteps⟩
end Calls
theorem vx_cls {s : State} {T : State} {vm₁ : Vm} {E : String} {k : ClassId} (hW : s.WarmedH vm₁) (h : (T.setVm vm₁).vm.findClass E = some k) : s.vm.findClass E = some k := by
  have h1 : vm₁.findClass E = some k := h
  rw [hW.alike.findClass] at h1
  exact h1
/-- the method's frame g, with q thrown over it -/
def vx_W (p : Program) (l : Launch) (e : Env) (R : Room) (s : State) (m : MethodId) (args : Array Value) (below : List Frame) (meth : Method) (c : Code) (H : Heap) (locs : List Loc) (cells slots : Nat) (Q : State → Prop) (g : JFrame) (q : Addr) : Prop :=
  ∀ T : State, T.heap = H → Stand p l e R s m args below meth c T locs cells slots → ∃ t, Steps p.tables e below ((T.setTop g).pushFrame (.throwing q)) t ∧ Q t
def vx_Run (p : Program) (l : Launch) (e : Env) (R : Room) (s : State) (m : MethodId) (args : Array Value) (below : List Frame) (meth : Method) (c : Code) (H : Heap) (locs : List Loc) (cells slots mc ms : Nat) (g : JFrame) (rest : List Value) (Qa : State → Outcome → State → Prop) (XC : String → State → State → Prop) (free : Addr → Prop) : Prop :=
  ∀ T : State, T.heap = H → Stand p l e R s m args below meth c T locs cells slots →
    (∃ (v : Option Value) (st₀ t T' : State) (L : List Loc), st₀.heap = H ∧ Stand p l e R s m args below meth c T' (locs ++ L) (cells + mc) (slots + ms) ∧ (∀ q ∈ L, free q.base) ∧ T'.heap = t.heap ∧ T'.vm = t.vm ∧ Qa st₀ (.returned v) t ∧
      Goes p e below T g T' { g with pc := g.pc + 3, stack := v.toList ++ rest }) ∨
    (∃ (q : Addr) (st₀ t T' : State) (L : List Loc) (E : String) (ce : Cell), st₀.heap = H ∧ Stand p l e R s m args below meth c T' (locs ++ L) (cells + mc) (slots + ms) ∧ (∀ z ∈ L, free z.base) ∧ T'.heap = t.heap ∧ T'.vm = t.vm ∧ XC E st₀ t ∧ t.heap[q]? = some ce ∧ ce.vm = .none ∧ s.vm.findClass E = some ce.cls ∧
      Steps p.tables e below (T.setTop g) ((T'.setTop { g with stack := rest }).pushFrame (.throwing q)))
def vx_X {S : Type} (px : S → Prop) (B : String → S → State → Prop) (A : Nat → Prop) : String → State → State → Prop := fun E st t => ∃ u : S, px u ∧ B E u t ∧ va_F A st t
section Runs
variable {p : Program} {l : Launch} {e : Env} {R : Room} {s : State} {m : MethodId} {args : Array Value} {below : List Frame} {meth : Method} {c : Code} {H : Heap} {locs : List Loc} {cells slots : Nat}
variable {y : MethodName} {bytes cc : ByteArray} {maxL nL mc ms n index : Nat} {ret : Option FieldType} {ws : List Cond} {rm : Room} {Pc : Array Value → State → Prop} {Qc : Array Value → State → Outcome → State → Prop} {XC : String → State → State → Prop} {free : Addr → Prop} {Ts : List Cond} {own C : String} {b : Addr} {As rest : List Value} {g : JFrame}
theorem vx_callBack (cb : CallB R s args own index y bytes maxL ret ws rm mc ms n) (hM : vx_Met l y ws rm Pc Qc XC mc ms free) (hbl : FrameBlind Pc) : vx_Back l R p e below s args y 3 8 (PreOf R mc ms Pc) (PostOf Qc mc ms free) (vx_Post XC mc ms free) := by
  obtain ⟨hrc, hrs, hfr, hlo, hws, hcw, -, hini, -⟩ := cb
  exact vx_back (bytes := bytes) (maxL := maxL) (ret := ret) hM hbl hrc hrs hfr hlo hws hcw (fun a' U hW => word_at hW (Or.inl (by first | rfl | simp [Cond.onTables, Cond.keeps, Cond.steady])) hini)
theorem vx_runV (S : CallFix p m c cc nL s args Ts own) (hM : vx_Met l y ws rm Pc Qc XC mc ms free) (cw : CallW R s args own C index y bytes maxL ret ws rm mc ms n) (hp : PreV s H C b Pc As)
    (hg : g.method = m) (hn : As.length = n) (hsize : g.locals.size = nL) (hstack : g.stack = As.reverse ++ .ref b :: rest) (hW : 2 * g.monitorRoom + (rest.map fun v => v.category).sum ≤ 8) (hdg : decode cc g.pc = .ok (.invokevirtual index, 3)) (hf : cells + mc ≤ R.cells ∧ slots + ms ≤ R.slots) :
    vx_Run p l e R s m args below meth c H locs cells slots mc ms g rest (Qc (Value.ref b :: As).toArray) XC free := by
  have hK : vx_Back l R p e below s args y 3 8 (PreOf R mc ms Pc) (PostOf Qc mc ms free) (vx_Post XC mc ms free) := vx_callBack cw.1 hM hp.1
  obtain ⟨⟨-, -, -, -, -, -, hcode, -, hy, hlen, hl⟩, hin, hse⟩ := cw
  obtain ⟨hx, hb, hml, ho, -⟩ := S
  obtain ⟨-, ⟨cellB, hcB, hoB, hclB⟩, hPc⟩ := hp
  intro T hT X
  rcases vx_callV X hx (C := C) (bytes := bytes) (maxL := maxL) (ret := ret) ho hl hin hse hcode hy hK (by rw [hT]; exact hcB) hoB hclB hg (hsize.trans hml.symm) (argsL := As) (rest := rest) (fun sig h => hn.trans (hlen sig h)) hstack hW (by rw [hb]; exact hdg)
    (fun vm₁ hW₁ => ⟨hf.1, hf.2, hPc (T.setVm vm₁) hT hW₁⟩) with ⟨v, vm₁, ⟨U', l2, c2, s2⟩, hW₁, X', ⟨g', mk, t, L, e1, e2, hq, h1, hL, h2, h3⟩, st⟩ | ⟨q, vm₁, ⟨U', l2, c2, s2⟩, hW₁, X', ⟨g', mk, t, L, E, ce, e1, e2, hq, hce, hcv, hcl, h1, hL, h2, h3⟩, st⟩
  · dsimp only [Pt.U, Pt.locs, Pt.cells, Pt.slots] at X' e1 e2 h1 h2 h3 st
    subst h1; subst h2; subst h3
    exact Or.inl ⟨v, (T.setVm vm₁).calling g' mk (Value.ref b :: As).toArray, t, U', L, hT, X', hL, e1, e2, hq, st⟩
  · dsimp only [Pt.U, Pt.locs, Pt.cells, Pt.slots] at X' e1 e2 h1 h2 h3 st hcl
    subst h1; subst h2; subst h3
    exact Or.inr ⟨q, (T.setVm vm₁).calling g' mk (Value.ref b :: As).toArray, t, U', L, E, ce, hT, X', hL, e1, e2, hq, hce, hcv, vx_cls hW₁ hcl, st⟩
theorem vx_runS (S : CallFix p m c cc nL s args Ts own) (hM : vx_Met l y ws rm Pc Qc XC mc ms free) (cw : CallB R s args own index y bytes maxL ret ws rm mc ms n ∧ (Cond.static y).before args s = true) (hp : PreS s H Pc As)
    (hg : g.method = m) (hn : As.length = n) (hsize : g.locals.size = nL) (hstack : g.stack = As.reverse ++ rest) (hW : 2 * g.monitorRoom + (rest.map fun v => v.category).sum ≤ 8) (hdg : decode cc g.pc = .ok (.invokestatic index, 3)) (hf : cells + mc ≤ R.cells ∧ slots + ms ≤ R.slots) :
    vx_Run p l e R s m args below meth c H locs cells slots mc ms g rest (Qc As.toArray) XC free := by
  have hK : vx_Back l R p e below s args y 3 8 (PreOf R mc ms Pc) (PostOf Qc mc ms free) (vx_Post XC mc ms free) := vx_callBack cw.1 hM hp.1
  obtain ⟨⟨-, -, -, -, -, -, hcode, hini, hy, hlen, hl⟩, hstt⟩ := cw
  obtain ⟨hx, hb, hml, ho, -⟩ := S
  intro T hT X
  rcases vx_callS X hx (bytes := bytes) (maxL := maxL) (ret := ret) ho hl hstt hini hcode hy hK hg (hsize.trans hml.symm) (argsL := As) (rest := rest) (fun sig h => hn.trans (hlen sig h)) hstack hW (by rw [hb]; exact hdg)
    (fun vm₁ hW₁ => ⟨hf.1, hf.2, hp.2 (T.setVm vm₁) hT hW₁⟩) with ⟨v, vm₁, ⟨U', l2, c2, s2⟩, hW₁, X', ⟨g', mk, t, L, e1, e2, hq, h1, hL, h2, h3⟩, st⟩ | ⟨q, vm₁, ⟨U', l2, c2, s2⟩, hW₁, X', ⟨g', mk, t, L, E, ce, e1, e2, hq, hce, hcv, hcl, h1, hL, h2, h3⟩, st⟩
  · dsimp only [Pt.U, Pt.locs, Pt.cells, Pt.slots] at X' e1 e2 h1 h2 h3 st
    subst h1; subst h2; subst h3
    exact Or.inl ⟨v, (T.setVm vm₁).calling g' mk As.toArray, t, U', L, hT, X', hL, e1, e2, hq, st⟩
  · dsimp only [Pt.U, Pt.locs, Pt.cells, Pt.slots] at X' e1 e2 h1 h2 h3 st hcl
    subst h1; subst h2; subst h3
    exact Or.inr ⟨q, (T.setVm vm₁).calling g' mk As.toArray, t, U', L, E, ce, hT, X', hL, e1, e2, hq, hce, hcv, vx_cls hW₁ hcl, st⟩
end Runs
section Rows
variable {p : Program} {l : Launch} {e : Env} {R : Room} {s : State} {m : MethodId} {args : Array Value} {below : List Frame} {meth : Method} {c : Code} {H : Heap} {locs : List Loc} {cells slots : Nat} {Q : State → Prop}
variable {mc ms : Nat} {free : Addr → Prop} {A0 A1 : Nat → Prop} {H0 : Heap} {a : Array Value} {pc : Nat} {ls : Array Slot} {st0 rest : List Value}
theorem vx_keep {st₀ t T' : State} {L : List Loc} (h0 : st₀.heap = H) (e1 : T'.heap = t.heap) (hS : va_S A0 H0 H locs) (hA : ∀ q, q < H.size → A1 q → A0 q) (hf : ∀ q, free q → A0 q) (hL : ∀ q ∈ L, free q.base) (hF : va_F A1 st₀ t) :
    H.size ≤ T'.heap.size ∧ (∀ q : Nat, q < H.size → ¬ A1 q → T'.heap[q]? = H[q]?) ∧ va_S A0 H0 T'.heap (locs ++ L) := by
  obtain ⟨hz, hk⟩ := hF
  rw [h0] at hz hk
  exact ⟨by rw [e1]; exact hz, fun q h1 h2 => by rw [e1]; exact hk q h1 h2,
    ⟨Nat.le_trans hS.1 (by rw [e1]; exact hz), fun q h1 h2 => by rw [e1, hk q (Nat.lt_of_lt_of_le h1 hS.1) (fun z => h2 (hA q (Nat.lt_of_lt_of_le h1 hS.1) z))]; exact hS.2.1 q h1 h2, fun q hq => by
      rcases List.mem_append.mp hq with h | h
      · exact hS.2.2 q h
      · exact hf _ (hL q h)⟩⟩
theorem vx_calli {S SX : Type} {post : Int32 → S → Prop} {px : SX → Prop} {B : S → State → Prop} {BX : String → SX → State → Prop} {AX : Nat → Prop} (hr : vx_Run p l e R s m args below meth c H locs cells slots mc ms (F0 m pc ls st0) rest (va_Qi post B A1 a) (vx_X px BX AX) free) (hS : va_S A0 H0 H locs) (hA : ∀ q, q < H.size → A1 q → A0 q) (hf : ∀ q, free q → A0 q) (hAX : ∀ q, q < H.size → AX q → A0 q)
    (kx : ∀ (E : String) (ce : Cell) (q9 : Addr) (u : SX) (t : State) (H1 : Heap) (locs1 : List Loc), t.heap = H1 → s.vm.Alike t.vm → px u → BX E u t → H.size ≤ H1.size → (∀ q : Nat, q < H.size → ¬ AX q → H1[q]? = H[q]?) → va_S A0 H0 H1 locs1 → H1[q9]? = some ce → ce.vm = .none → s.vm.findClass E = some ce.cls → vx_W p l e R s m args below meth c H1 locs1 (cells + mc) (slots + ms) Q (F0 m pc ls rest) q9)
    (kk : ∀ (r : Int32) (u : S) (t : State) (H1 : Heap) (locs1 : List Loc), t.heap = H1 → s.vm.Alike t.vm → post r u → B u t → H.size ≤ H1.size → (∀ q : Nat, q < H.size → ¬ A1 q → H1[q]? = H[q]?) → va_S A0 H0 H1 locs1 → W p l e R s m args below meth c H1 locs1 (cells + mc) (slots + ms) Q (F0 m (pc + 3) ls (.int r :: rest))) : W p l e R s m args below meth c H locs cells slots Q (F0 m pc ls st0) := by
  intro T hT X
  rcases hr T hT X with ⟨v, st₀, t, T', L, h0, X', hL, e1, e2, ⟨⟨r, u, hv, hp, hb⟩, hF⟩, st⟩ | ⟨q, st₀, t, T', L, E, ce, h0, X', hL, e1, e2, ⟨u, hp, hb, hF⟩, hce, hcv, hcl, st⟩
  · cases hv
    obtain ⟨k1, k2, k3⟩ := vx_keep h0 e1 hS hA hf hL hF
    obtain ⟨t2, a1, b1⟩ := kk r u t T'.heap (locs ++ L) e1.symm (by rw [← e2]; exact X'.warmed.alike) hp hb k1 k2 k3 T' rfl X'
    exact ⟨t2, st t2 a1, b1⟩
  · obtain ⟨k1, k2, k3⟩ := vx_keep h0 e1 hS hAX hf hL hF
    obtain ⟨t2, a1, b1⟩ := kx E ce q u t T'.heap (locs ++ L) e1.symm (by rw [← e2]; exact X'.warmed.alike) hp hb k1 k2 k3 (by rw [e1]; exact hce) hcv hcl T' rfl X'
    exact ⟨t2, st.trans a1, b1⟩
theorem vx_calll {S SX : Type} {post : Int64 → S → Prop} {px : SX → Prop} {B : S → State → Prop} {BX : String → SX → State → Prop} {AX : Nat → Prop} (hr : vx_Run p l e R s m args below meth c H locs cells slots mc ms (F0 m pc ls st0) rest (va_Ql post B A1 a) (vx_X px BX AX) free) (hS : va_S A0 H0 H locs) (hA : ∀ q, q < H.size → A1 q → A0 q) (hf : ∀ q, free q → A0 q) (hAX : ∀ q, q < H.size → AX q → A0 q)
    (kx : ∀ (E : String) (ce : Cell) (q9 : Addr) (u : SX) (t : State) (H1 : Heap) (locs1 : List Loc), t.heap = H1 → s.vm.Alike t.vm → px u → BX E u t → H.size ≤ H1.size → (∀ q : Nat, q < H.size → ¬ AX q → H1[q]? = H[q]?) → va_S A0 H0 H1 locs1 → H1[q9]? = some ce → ce.vm = .none → s.vm.findClass E = some ce.cls → vx_W p l e R s m args below meth c H1 locs1 (cells + mc) (slots + ms) Q (F0 m pc ls rest) q9)
    (kk : ∀ (r : Int64) (u : S) (t : State) (H1 : Heap) (locs1 : List Loc), t.heap = H1 → s.vm.Alike t.vm → post r u → B u t → H.size ≤ H1.size → (∀ q : Nat, q < H.size → ¬ A1 q → H1[q]? = H[q]?) → va_S A0 H0 H1 locs1 → W p l e R s m args below meth c H1 locs1 (cells + mc) (slots + ms) Q (F0 m (pc + 3) ls (.long r :: rest))) : W p l e R s m args below meth c H locs cells slots Q (F0 m pc ls st0) := by
  intro T hT X
  rcases hr T hT X with ⟨v, st₀, t, T', L, h0, X', hL, e1, e2, ⟨⟨r, u, hv, hp, hb⟩, hF⟩, st⟩ | ⟨q, st₀, t, T', L, E, ce, h0, X', hL, e1, e2, ⟨u, hp, hb, hF⟩, hce, hcv, hcl, st⟩
  · cases hv
    obtain ⟨k1, k2, k3⟩ := vx_keep h0 e1 hS hA hf hL hF
    obtain ⟨t2, a1, b1⟩ := kk r u t T'.heap (locs ++ L) e1.symm (by rw [← e2]; exact X'.warmed.alike) hp hb k1 k2 k3 T' rfl X'
    exact ⟨t2, st t2 a1, b1⟩
  · obtain ⟨k1, k2, k3⟩ := vx_keep h0 e1 hS hAX hf hL hF
    obtain ⟨t2, a1, b1⟩ := kx E ce q u t T'.heap (locs ++ L) e1.symm (by rw [← e2]; exact X'.warmed.alike) hp hb k1 k2 k3 (by rw [e1]; exact hce) hcv hcl T' rfl X'
    exact ⟨t2, st.trans a1, b1⟩
theorem vx_callf {S SX : Type} {post : UInt32 → S → Prop} {px : SX → Prop} {B : S → State → Prop} {BX : String → SX → State → Prop} {AX : Nat → Prop} (hr : vx_Run p l e R s m args below meth c H locs cells slots mc ms (F0 m pc ls st0) rest (va_Qf post B A1 a) (vx_X px BX AX) free) (hS : va_S A0 H0 H locs) (hA : ∀ q, q < H.size → A1 q → A0 q) (hf : ∀ q, free q → A0 q) (hAX : ∀ q, q < H.size → AX q → A0 q)
    (kx : ∀ (E : String) (ce : Cell) (q9 : Addr) (u : SX) (t : State) (H1 : Heap) (locs1 : List Loc), t.heap = H1 → s.vm.Alike t.vm → px u → BX E u t → H.size ≤ H1.size → (∀ q : Nat, q < H.size → ¬ AX q → H1[q]? = H[q]?) → va_S A0 H0 H1 locs1 → H1[q9]? = some ce → ce.vm = .none → s.vm.findClass E = some ce.cls → vx_W p l e R s m args below meth c H1 locs1 (cells + mc) (slots + ms) Q (F0 m pc ls rest) q9)
    (kk : ∀ (r : UInt32) (u : S) (t : State) (H1 : Heap) (locs1 : List Loc), t.heap = H1 → s.vm.Alike t.vm → post r u → B u t → H.size ≤ H1.size → (∀ q : Nat, q < H.size → ¬ A1 q → H1[q]? = H[q]?) → va_S A0 H0 H1 locs1 → W p l e R s m args below meth c H1 locs1 (cells + mc) (slots + ms) Q (F0 m (pc + 3) ls (.float r :: rest))) : W p l e R s m args below meth c H locs cells slots Q (F0 m pc ls st0) := by
  intro T hT X
  rcases hr T hT X with ⟨v, st₀, t, T', L, h0, X', hL, e1, e2, ⟨⟨r, u, hv, hp, hb⟩, hF⟩, st⟩ | ⟨q, st₀, t, T', L, E, ce, h0, X', hL, e1, e2, ⟨u, hp, hb, hF⟩, hce, hcv, hcl, st⟩
  · cases hv
    obtain ⟨k1, k2, k3⟩ := vx_keep h0 e1 hS hA hf hL hF
    obtain ⟨t2, a1, b1⟩ := kk r u t T'.heap (locs ++ L) e1.symm (by rw [← e2]; exact X'.warmed.alike) hp hb k1 k2 k3 T' rfl X'
    exact ⟨t2, st t2 a1, b1⟩
  · obtain ⟨k1, k2, k3⟩ := vx_keep h0 e1 hS hAX hf hL hF
    obtain ⟨t2, a1, b1⟩ := kx E ce q u t T'.heap (locs ++ L) e1.symm (by rw [← e2]; exact X'.warmed.alike) hp hb k1 k2 k3 (by rw [e1]; exact hce) hcv hcl T' rfl X'
    exact ⟨t2, st.trans a1, b1⟩
theorem vx_calld {S SX : Type} {post : UInt64 → S → Prop} {px : SX → Prop} {B : S → State → Prop} {BX : String → SX → State → Prop} {AX : Nat → Prop} (hr : vx_Run p l e R s m args below meth c H locs cells slots mc ms (F0 m pc ls st0) rest (va_Qd post B A1 a) (vx_X px BX AX) free) (hS : va_S A0 H0 H locs) (hA : ∀ q, q < H.size → A1 q → A0 q) (hf : ∀ q, free q → A0 q) (hAX : ∀ q, q < H.size → AX q → A0 q)
    (kx : ∀ (E : String) (ce : Cell) (q9 : Addr) (u : SX) (t : State) (H1 : Heap) (locs1 : List Loc), t.heap = H1 → s.vm.Alike t.vm → px u → BX E u t → H.size ≤ H1.size → (∀ q : Nat, q < H.size → ¬ AX q → H1[q]? = H[q]?) → va_S A0 H0 H1 locs1 → H1[q9]? = some ce → ce.vm = .none → s.vm.findClass E = some ce.cls → vx_W p l e R s m args below meth c H1 locs1 (cells + mc) (slots + ms) Q (F0 m pc ls rest) q9)
    (kk : ∀ (r : UInt64) (u : S) (t : State) (H1 : Heap) (locs1 : List Loc), t.heap = H1 → s.vm.Alike t.vm → post r u → B u t → H.size ≤ H1.size → (∀ q : Nat, q < H.size → ¬ A1 q → H1[q]? = H[q]?) → va_S A0 H0 H1 locs1 → W p l e R s m args below meth c H1 locs1 (cells + mc) (slots + ms) Q (F0 m (pc + 3) ls (.double r :: rest))) : W p l e R s m args below meth c H locs cells slots Q (F0 m pc ls st0) := by
  intro T hT X
  rcases hr T hT X with ⟨v, st₀, t, T', L, h0, X', hL, e1, e2, ⟨⟨r, u, hv, hp, hb⟩, hF⟩, st⟩ | ⟨q, st₀, t, T', L, E, ce, h0, X', hL, e1, e2, ⟨u, hp, hb, hF⟩, hce, hcv, hcl, st⟩
  · cases hv
    obtain ⟨k1, k2, k3⟩ := vx_keep h0 e1 hS hA hf hL hF
    obtain ⟨t2, a1, b1⟩ := kk r u t T'.heap (locs ++ L) e1.symm (by rw [← e2]; exact X'.warmed.alike) hp hb k1 k2 k3 T' rfl X'
    exact ⟨t2, st t2 a1, b1⟩
  · obtain ⟨k1, k2, k3⟩ := vx_keep h0 e1 hS hAX hf hL hF
    obtain ⟨t2, a1, b1⟩ := kx E ce q u t T'.heap (locs ++ L) e1.symm (by rw [← e2]; exact X'.warmed.alike) hp hb k1 k2 k3 (by rw [e1]; exact hce) hcv hcl T' rfl X'
    exact ⟨t2, st.trans a1, b1⟩
theorem vx_callv {S SX : Type} {post : S → Prop} {px : SX → Prop} {B : S → State → Prop} {BX : String → SX → State → Prop} {AX : Nat → Prop} (hr : vx_Run p l e R s m args below meth c H locs cells slots mc ms (F0 m pc ls st0) rest (va_Qv post B A1 a) (vx_X px BX AX) free) (hS : va_S A0 H0 H locs) (hA : ∀ q, q < H.size → A1 q → A0 q) (hf : ∀ q, free q → A0 q) (hAX : ∀ q, q < H.size → AX q → A0 q)
    (kx : ∀ (E : String) (ce : Cell) (q9 : Addr) (u : SX) (t : State) (H1 : Heap) (locs1 : List Loc), t.heap = H1 → s.vm.Alike t.vm → px u → BX E u t → H.size ≤ H1.size → (∀ q : Nat, q < H.size → ¬ AX q → H1[q]? = H[q]?) → va_S A0 H0 H1 locs1 → H1[q9]? = some ce → ce.vm = .none → s.vm.findClass E = some ce.cls → vx_W p l e R s m args below meth c H1 locs1 (cells + mc) (slots + ms) Q (F0 m pc ls rest) q9)
    (kk : ∀ (u : S) (t : State) (H1 : Heap) (locs1 : List Loc), t.heap = H1 → s.vm.Alike t.vm → post u → B u t → H.size ≤ H1.size → (∀ q : Nat, q < H.size → ¬ A1 q → H1[q]? = H[q]?) → va_S A0 H0 H1 locs1 → W p l e R s m args below meth c H1 locs1 (cells + mc) (slots + ms) Q (F0 m (pc + 3) ls (rest))) : W p l e R s m args below meth c H locs cells slots Q (F0 m pc ls st0) := by
  intro T hT X
  rcases hr T hT X with ⟨v, st₀, t, T', L, h0, X', hL, e1, e2, ⟨⟨u, hv, hp, hb⟩, hF⟩, st⟩ | ⟨q, st₀, t, T', L, E, ce, h0, X', hL, e1, e2, ⟨u, hp, hb, hF⟩, hce, hcv, hcl, st⟩
  · cases hv
    obtain ⟨k1, k2, k3⟩ := vx_keep h0 e1 hS hA hf hL hF
    obtain ⟨t2, a1, b1⟩ := kk u t T'.heap (locs ++ L) e1.symm (by rw [← e2]; exact X'.warmed.alike) hp hb k1 k2 k3 T' rfl X'
    exact ⟨t2, st t2 a1, b1⟩
  · obtain ⟨k1, k2, k3⟩ := vx_keep h0 e1 hS hAX hf hL hF
    obtain ⟨t2, a1, b1⟩ := kx E ce q u t T'.heap (locs ++ L) e1.symm (by rw [← e2]; exact X'.warmed.alike) hp hb k1 k2 k3 (by rw [e1]; exact hce) hcv hcl T' rfl X'
    exact ⟨t2, st.trans a1, b1⟩
/-- caught by the row x of this method's table; the rows ahead don't take it -/
theorem vx_catch {own name : String} {E : String} {ce : Cell} {q : Addr} (hown : s.vm.findClass own = some m.cls) (pre : List ExceptionTableEntry) (x : ExceptionTableEntry) (suf : List ExceptionTableEntry) (hsplit : c.exceptionTable.toList = pre ++ x :: suf)
    (hpass : ∀ z ∈ pre, covers z pc = false ∨ (z.catchType ≠ 0 ∧ ∃ nm : String, (Cond.classLink own z.catchType nm).before args s = true ∧ va_Nc E nm s)) (hx : covers x pc = true) (h0 : x.catchType ≠ 0)
    (hlink : (Cond.classLink own x.catchType name).before args s = true) (hcast : (Cond.castable E name).before args s = true) (hcell : H[q]? = some ce) (hv : ce.vm = .none) (hcl : s.vm.findClass E = some ce.cls)
    (kk : W p l e R s m args below meth c H locs cells slots Q (F0 m x.handlerPc ls [.ref q])) : vx_W p l e R s m args below meth c H locs cells slots Q (F0 m pc ls rest) q := by
  intro T hT X
  have hpl : e.platform.magicAccessors = ({} : Platform).magicAccessors := by rw [X.admits.platform]
  obtain ⟨c3, c4, hc3, hc4, hasg⟩ := Cond.castable_spec hcast
  cases Option.some.inj (hc3.symm.trans hcl)
  obtain ⟨c5, hc5, hcl5⟩ := Cond.classLink_spec hown hlink e.platform hpl
  cases Option.some.inj (hc4.symm.trans hc5)
  obtain ⟨vm', X', st⟩ := X.thenCaughtThrough q (g := F0 m pc ls rest) rfl (Steps.refl _) (by rw [hT]; exact hcell) (by rw [hv]; rfl) (by obtain ⟨k9, h9, -⟩ := Vm.findClass_spec hcl; exact ⟨k9, h9⟩) pre x suf hsplit
    (fun z hz => by
      rcases hpass z hz with h | ⟨hz0, nm, hl1, hn1⟩
      · exact Or.inl h
      · obtain ⟨c6, hc6, hcl6⟩ := Cond.classLink_spec hown hl1 e.platform hpl
        obtain ⟨a8, b8, h1, h2, h3⟩ := hn1
        cases Option.some.inj (h1.symm.trans hcl)
        cases Option.some.inj (h2.symm.trans hc6)
        exact Or.inr ⟨hz0, _, hcl6, h3⟩) hx (Or.inr ⟨h0, c4, hcl5, hasg⟩)
  obtain ⟨t, a1, b1⟩ := kk (T.setVm vm') hT X'
  exact ⟨t, st.trans a1, b1⟩
end Rows
section Ends
variable {p : Program} {l : Launch} {e : Env} {R : Room} {s : State} {m : MethodId} {args : Array Value} {below : List Frame} {meth : Method} {c : Code} {H : Heap} {locs : List Loc} {cells slots : Nat} {Q : State → Prop}
variable {mc ms : Nat} {free : Addr → Prop} {A0 A1 : Nat → Prop} {H0 : Heap} {a : Array Value} {ls : Array Slot} {st0 rest : List Value}
variable {Qc : Array Value → State → Outcome → State → Prop} {XC : String → State → State → Prop}
/-- what a body that may throw owes at its end -/
def vx_MQ (below : List Frame) (Qc : Array Value → State → Outcome → State → Prop) (XC : String → State → State → Prop) (a : Array Value) (s : State) (mc ms : Nat) (free : Addr → Prop) : State → Prop := fun t =>
  ∃ o, t.status = .running ∧ Ended t below o ∧ vx_Q Qc XC mc ms free a s o t
theorem vx_ret {g : JFrame} {mc ms : Nat} (k : W p l e R s m args below meth c H locs cells slots (MQ below Qc args s mc ms free) g) : W p l e R s m args below meth c H locs cells slots (vx_MQ below Qc XC args s mc ms free) g := by
  intro T hT X
  obtain ⟨t, a1, o, b1, b2, b3, b4⟩ := k T hT X
  exact ⟨t, a1, o, b1, b2, Or.inl ⟨b3, b4⟩⟩
/-- not caught here: it goes on to the caller -/
theorem vx_widen {g : JFrame} {q : Addr} {k n : Nat} (h1 : cells ≤ k) (h2 : slots ≤ n) (kk : vx_W p l e R s m args below meth c H locs k n Q g q) : vx_W p l e R s m args below meth c H locs cells slots Q g q := fun T hT X => kk T hT (stand_widen X h1 h2)
theorem vx_out {pc : Nat} {E : String} {ce : Cell} {q : Addr} {mc ms : Nat} (hout : ∀ x ∈ c.exceptionTable.toList, covers x pc = false) (hlocks : meth.locks = false) (hcell : H[q]? = some ce) (hv : ce.vm = .none) (hcl : s.vm.findClass E = some ce.cls)
    (hx : ∀ t : State, t.heap = H → s.vm.Alike t.vm → XC E s t) (hf : ∀ z ∈ locs, free z.base) (hc : cells ≤ mc) (hs : slots ≤ ms) :
    vx_W p l e R s m args below meth c H locs cells slots (vx_MQ below Qc XC args s mc ms free) (F0 m pc ls rest) q := by
  intro T hT X
  obtain ⟨st1, hrun, hend, hW, hsm⟩ := X.leaveThrown q (g := F0 m pc ls rest) rfl rfl rfl hout hlocks
  have hcell9 : (T.setFrames (.throwing q :: below)).heap[q]? = some ce := by
    show T.heap[q]? = some ce
    rw [hT]; exact hcell
  exact ⟨_, st1, .threw q, hrun, hend, Or.inr ⟨q, rfl, E, ce, locs, hx _ hT hW.alike, hcell9, hv, hcl, hW, hsm.mono hc hs, hf⟩⟩
theorem vx_frame {U : State} {k n : Nat} (h : s.sameButNew ({ U with vm := s.vm } : State) locs k n) : s.heap.size ≤ U.heap.size ∧ ∀ q : Nat, q < s.heap.size → (∀ z ∈ locs, z.base ≠ q) → U.heap[q]? = s.heap[q]? := by
  obtain ⟨-, h2, -, -, -, h6⟩ := h
  refine ⟨h2, fun q hq hz => ?_⟩
  obtain ⟨c9, e1, e2, e3, e4⟩ := h6 q _ (Array.getElem?_eq_getElem hq)
  have hs : c9.slots = (s.heap[q]).slots := Array.ext_getElem? fun i => e4 i fun hm => hz _ hm rfl
  have h9 : c9 = s.heap[q] := by
    rw [hs] at e2
    exact e2
  have e5 : U.heap[q]? = some c9 := e1
  rw [e5, h9, Array.getElem?_eq_getElem hq]
/-- the words of a throw but the four that speak of the heap -/
def vx_no (w : Cond) : Bool := decide (w ≠ .isRef (.static Bundle.tN "UNASSIGNED_STACK" Bundle.steD)) && decide (w ≠ .isRef (.static Bundle.tN "SUPPRESSED_SENTINEL" Bundle.listD)) && decide (w ≠ .laysStatic Bundle.tN "UNASSIGNED_STACK" Bundle.steD) && decide (w ≠ .laysStatic Bundle.tN "SUPPRESSED_SENTINEL" Bundle.listD)
def vx_at0 (own : String) (ic : Nat) (X : String) (names : List String) : List Cond := (Bundle.ownAtoms0 own ic X names).filter vx_no
def vx_atS (own : String) (ic : Nat) (X : String) (names : List String) : List Cond := (Bundle.ownAtoms own ic X names).filter vx_no
/-- a word that the tables alone decide, or a good one -/
def vx_ot (w : Cond) : Bool := w.onTables || goodWord w
theorem vx_ot_at {args a' : Array Value} {s U : State} {w : Cond} (hW : s.WarmedH U.vm) (hvm : s.vm = U.vm) (hg : vx_ot w = true) (h : w.before args s = true) : w.before a' U = true := by
  simp only [vx_ot, Bool.or_eq_true] at hg
  rcases hg with hg | hg
  · exact va_tabs hg hvm h
  · exact word_at hW (good_of_word hg) h
/-- a list's words: the good ones out of the method's own list, the others by premises of their own -/
theorem vx_hat {args : Array Value} {s : State} {L B : List Cond} (h1 : ∀ w ∈ L.filter goodWord, w.before args s = true) (h2 : ∀ w ∈ L.filter (fun w => !goodWord w), w ∈ B) (h3 : ∀ w ∈ B, w.before args s = true) : ∀ w ∈ L, w.before args s = true := by
  intro w hw
  by_cases g : goodWord w = true
  · exact h1 w (List.mem_filter.mpr ⟨hw, g⟩)
  · refine h3 w (h2 w (List.mem_filter.mpr ⟨hw, ?_⟩))
    show (!goodWord w) = true
    cases hgw : goodWord w
    · rfl
    · exact absurd hgw g
theorem vx_c {args : Array Value} {s : State} {w : Cond} {B : List Cond} (h : w.before args s = true) (t : ∀ w ∈ B, w.before args s = true) : ∀ w' ∈ w :: B, w'.before args s = true := fun w' h' => (List.mem_cons.mp h').elim (fun e => by rw [e]; exact h) (t w')
theorem vx_n {args : Array Value} {s : State} : ∀ w ∈ ([] : List Cond), w.before args s = true := fun _ h => nomatch h
theorem vx_own {args : Array Value} {s : State} {L : List Cond} (h1 : ∀ w ∈ L.filter vx_no, w.before args s = true)
    (hU : (Cond.isRef (.static Bundle.tN "UNASSIGNED_STACK" Bundle.steD)).before args s = true) (hN : (Cond.isRef (.static Bundle.tN "SUPPRESSED_SENTINEL" Bundle.listD)).before args s = true)
    (lU : (Cond.laysStatic Bundle.tN "UNASSIGNED_STACK" Bundle.steD).before args s = true) (lN : (Cond.laysStatic Bundle.tN "SUPPRESSED_SENTINEL" Bundle.listD).before args s = true) : ∀ w ∈ L, w.before args s = true := by
  intro w hw
  by_cases e1 : w = .isRef (.static Bundle.tN "UNASSIGNED_STACK" Bundle.steD)
  · rw [e1]; exact hU
  · by_cases e2 : w = .isRef (.static Bundle.tN "SUPPRESSED_SENTINEL" Bundle.listD)
    · rw [e2]; exact hN
    · by_cases e3 : w = .laysStatic Bundle.tN "UNASSIGNED_STACK" Bundle.steD
      · rw [e3]; exact lU
      · by_cases e4 : w = .laysStatic Bundle.tN "SUPPRESSED_SENTINEL" Bundle.listD
        · rw [e4]; exact lN
        · exact h1 w (List.mem_filter.mpr ⟨hw, by unfold vx_no; rw [decide_eq_true e1, decide_eq_true e2, decide_eq_true e3, decide_eq_true e4]; rfl⟩)
/-- where a static field lies, its class's statics cell in H -/
def vx_L (C n d : String) (A : Nat → Prop) (U : State) (H : Heap) : Prop := ∃ (c : ClassId) (k : Class) (i : Nat) (f : Field) (a : Nat) (cell : Cell), U.vm.findClass C = some c ∧ U.fieldFound? C n d = some (c, k, i, f) ∧ f.isStatic = true ∧ k.statics = some a ∧ H[a]? = some cell ∧ cell.vm.isStatics = true ∧ cell.cls = c ∧ f.slot < cell.slots.size ∧ k.staticTypes[f.slot]? = some f.type ∧ ¬ A a
theorem vx_L.moved {C n d : String} {A : Nat → Prop} {u U : State} {H : Heap} (hvm : u.vm.Alike U.vm) (h : vx_L C n d A u H) : vx_L C n d A U H := by
  obtain ⟨c, k, i, f, a, cell, h1, h2, h3, h4, h5, h6, h7, h8, h9, h10⟩ := h
  obtain ⟨k', hi', he⟩ := State.fieldFound?_setVm hvm h2
  exact ⟨c, k', i, f, a, cell, by rw [hvm.findClass]; exact h1, hi', h3, by rw [he]; exact h4, h5, h6, h7, h8, by rw [he]; exact h9, h10⟩
theorem vx_L.kept {C n d : String} {A : Nat → Prop} {U : State} {H H1 : Heap} (h : vx_L C n d A U H) (hq : ∀ a : Nat, a < H.size → ¬ A a → H1[a]? = H[a]?) : vx_L C n d A U H1 := by
  obtain ⟨c, k, i, f, a, cell, h1, h2, h3, h4, h5, h6, h7, h8, h9, h10⟩ := h
  exact ⟨c, k, i, f, a, cell, h1, h2, h3, h4, by rw [hq a (Array.getElem?_eq_some_iff.mp h5).1 h10]; exact h5, h6, h7, h8, h9, h10⟩
theorem vx_L.narrow {C n d : String} {A B : Nat → Prop} {U : State} {H : Heap} (h : vx_L C n d A U H) (hAB : ∀ q, B q → A q) : vx_L C n d B U H := by
  obtain ⟨c, k, i, f, a, cell, h1, h2, h3, h4, h5, h6, h7, h8, h9, h10⟩ := h
  exact ⟨c, k, i, f, a, cell, h1, h2, h3, h4, h5, h6, h7, h8, h9, fun z => h10 (hAB _ z)⟩
theorem vx_L.word {C n d : String} {A : Nat → Prop} {s : State} {args : Array Value} (h : vx_L C n d A s s.heap) : (Cond.laysStatic C n d).before args s = true := by
  obtain ⟨c, k, i, f, a, cell, h1, h2, h3, h4, h5, h6, h7, h8, h9, -⟩ := h
  show (Cond.laysStatic C n d).holds args s none s [] = true
  exact Cond.laysStatic_of h1 h2 h3 h4 h5 h6 h7 h8 h9
/-- .. and what it holds: null or some reference -/
def vx_Zq (C n d : String) (A : Nat → Prop) (U : State) (H : Heap) : Prop := va_Zq C n d A U H ∧ vx_L C n d A U H
theorem vx_Zq.moved {C n d : String} {A : Nat → Prop} {u U : State} {H : Heap} (hvm : u.vm.Alike U.vm) (h : vx_Zq C n d A u H) : vx_Zq C n d A U H := ⟨va_Zq.moved hvm h.1, vx_L.moved hvm h.2⟩
theorem vx_Zq.kept {C n d : String} {A : Nat → Prop} {U : State} {H H1 : Heap} (h : vx_Zq C n d A U H) (hq : ∀ a : Nat, a < H.size → ¬ A a → H1[a]? = H[a]?) : vx_Zq C n d A U H1 := ⟨va_Zq.kept h.1 hq, vx_L.kept h.2 hq⟩
theorem vx_Zq.narrow {C n d : String} {A B : Nat → Prop} {U : State} {H : Heap} (h : vx_Zq C n d A U H) (hAB : ∀ q, B q → A q) : vx_Zq C n d B U H := ⟨va_Zq.narrow h.1 hAB, vx_L.narrow h.2 hAB⟩
theorem vx_Zqof {args : Array Value} {s : State} {C n d : String} {A : Nat → Prop} (hl : (Cond.laysStatic C n d).before args s = true) (hini : (Cond.initialized C).before args s = true) (h : (Cond.isRef (.static C n d)).before args s = true) (hA : ∀ a : Nat, a < s.heap.size → ¬ A a) : vx_Zq C n d A s s.heap := by
  refine ⟨va_Zqof hl hini h hA, ?_⟩
  obtain ⟨c, k, i, f, a, cell, h1, h2, h3, h4, h5, h6, h7, h8, h9⟩ := Cond.laysStatic_spec hl
  exact ⟨c, k, i, f, a, cell, h1, h2, h3, h4, h5, h6, h7, h8, h9, hA a (Array.getElem?_eq_some_iff.mp h5).1⟩
theorem vx_isRef {C n d : String} {v : Value} {A : Nat → Prop} {s : State} {args : Array Value} (h : va_Z C n d v A s s.heap) (hv : v.isRef = true) : (Cond.isRef (.static C n d)).before args s = true := by
  obtain ⟨cf, kf, fi, f, a, cell, h1, h2, h3, h4, h5, h6, h7, -⟩ := h
  have he : (Term.static C n d).eval args s none [] s = some v := by
    simp [Term.eval, State.fieldNamed?, h1, h2, h4, h5, h6, h7]
  simp only [Cond.before, Cond.holds, Cond.value, he]
  cases v <;> simp_all [Value.isRef]
theorem vx_isRefq {C n d : String} {A : Nat → Prop} {s : State} {args : Array Value} (h : va_Zq C n d A s s.heap) : (Cond.isRef (.static C n d)).before args s = true := by
  rcases h with h | ⟨t, h⟩
  · exact vx_isRef h rfl
  · exact vx_isRef h rfl
/-- the same frame, seen from here: as if the method were called anew in this heap -/
theorem vx_rebase {T : State} (X : Stand p l e R s m args below meth c T locs cells slots) {R' : Room} (hf : R'.frames ≤ R.frames) (hl : R'.locals ≤ R.locals) (hc : cells + R'.cells ≤ R.cells) (hs : slots + R'.slots ≤ R.slots) :
    Stand p l e R' ((T.setVm s.vm).setFrames (.invoking m args :: below)) m args below meth c T [] 0 0 := by
  have htop : (T.setVm s.vm).topJava?.isSome := X.here.top
  have hF : ((T.setVm s.vm).setFrames (.invoking m args :: below)).frames = .invoking m args :: below := State.frames_setFrames _ (State.cur_lt_of_top htop)
  obtain ⟨g₀, hg0⟩ := Option.isSome_iff_exists.mp htop
  obtain ⟨r, hr⟩ := State.topJava?_eq_some.mp hg0
  have hl9 : e.platform.stackLimits (T.setVm s.vm).me = e.platform.stackLimits s.me := X.limits
  have hb9 : (T.setVm s.vm).me.stackBytes = s.me.stackBytes := X.bytes
  refine ⟨X.admits, X.cas, X.clock, hF, ?_, X.hears, X.method, X.code, X.here, X.tail, X.warmed, ?_, ?_, ?_⟩
  · have h := X.room
    have hU : ((T.setVm s.vm).setFrames (.invoking m args :: below)).localsInUse = s.localsInUse := by
      rw [State.localsInUse_invoking hF (meth := meth) (c := c) X.method X.code, State.localsInUse_invoking X.frames X.method X.code]
    simp only [State.hasRoom, Bool.and_eq_true, decide_eq_true_eq] at h ⊢
    obtain ⟨⟨⟨⟨h1, h2, h3, h4, h5, h6⟩, h7⟩, h8⟩, h9⟩ := h
    rw [X.frames, List.length_cons] at h2 h3
    have q1 := X.heapSize
    have q2 := X.used
    simp only [hF, hU, List.length_cons, State.stackLimits_setFrames, State.stackBytes_setFrames, hl9, hb9]
    refine ⟨⟨⟨⟨by omega, by omega, by omega, by omega, by omega, h6⟩, ?_⟩, ?_⟩, X.book⟩
    · show T.heap.size + R'.cells ≤ e.platform.maxCells
      omega
    · show T.slotsUsed + R'.slots ≤ e.platform.maxSlots
      omega
  · rw [State.stackLimits_setFrames]; rfl
  · rw [State.stackBytes_setFrames]; rfl
  · refine ⟨?_, Nat.le_refl _, Nat.le_refl _, ?_, ?_, fun a c9 h9 => ⟨c9, h9, rfl, rfl, fun _ _ => rfl⟩⟩
    · obtain ⟨t, ht, -⟩ := State.frames_cons hr
      show T.setVm s.vm = { ((T.setVm s.vm).setFrames (.invoking m args :: below)).setFrames (T.setVm s.vm).frames with heap := T.heap, slotsUsed := T.slotsUsed }
      rw [State.setFrames_setFrames, State.setFrames_self ht]
      rfl
    · show T.slotsUsed = T.slotsUsed + ((T.heap.toList.drop T.heap.size).map (·.slots.size)).sum
      rw [List.drop_eq_nil_of_le (Nat.le_of_eq Array.length_toList)]
      rfl
    · show ((T.heap.toList.drop T.heap.size).map (·.slots.size)).sum ≤ 0
      rw [List.drop_eq_nil_of_le (Nat.le_of_eq Array.length_toList)]
      exact Nat.le_refl _
/-- 'throw new E()': new; dup; invokespecial; athrow -/
theorem vx_throw0 {cc : ByteArray} {pc : Nat} (hexec : p.tables.exec = Jvm.exec) (hb : c.code = cc) (hl : l.stackTraces = false) {own cls : String} {names : List String} {ik ic mc ms : Nat} {A : Nat → Prop}
    (hown : s.vm.findClass own = some m.cls) (hcls : Bundle.fit cls = true) (hnames : ∀ n ∈ names, Bundle.fit n = true)
    (hk : (Cond.classLink own ik cls).before args s = true) (hini : (Cond.initialized cls).before args s = true) (hat : ∀ w ∈ vx_at0 own ic cls names, w.before args s = true)
    (hgood : ∀ w ∈ Cond.classLink own ik cls :: Cond.initialized cls :: vx_at0 own ic cls names, vx_ot w = true)
    (hU : vx_Zq Bundle.tN "UNASSIGNED_STACK" Bundle.steD A s s.heap) (hN : vx_Zq Bundle.tN "SUPPRESSED_SENTINEL" Bundle.listD A s s.heap) (hS : va_S A s.heap H locs) (hsize : ls.size = c.maxLocals)
    (d0 : decode cc pc = .ok (.new ik, 3)) (d3 : decode cc (pc + 3) = .ok (.dup, 1)) (d4 : decode cc (pc + 4) = .ok (.invokespecial ic, 3)) (d7 : decode cc (pc + 7) = .ok (.athrow, 1))
    (hout : ∀ x ∈ c.exceptionTable.toList, covers x (pc + 7) = false)
    (hRframes : names.length + 3 < R.frames) (hRlocals : (rest.map fun v => v.category).sum + (13 * (names.length + 1) + 42) ≤ R.locals) (hRcells : cells + 1 ≤ R.cells) (hRslots : slots + 6 ≤ R.slots) (hlocks : meth.locks = false)
    (hx : ∀ t : State, s.vm.Alike t.vm → H.size ≤ t.heap.size → (∀ q : Nat, q < H.size → t.heap[q]? = H[q]?) → XC cls s t)
    (hf : ∀ z ∈ locs, free z.base) (hc : cells + 1 ≤ mc) (hs : slots + 6 ≤ ms) :
    W p l e R s m args below meth c H locs cells slots (vx_MQ below Qc XC args s mc ms free) (F0 m pc ls rest) := by
  intro T hT X
  have htr : e.platform.stackTraces = false := (show e.platform.stackTraces = l.stackTraces by rw [X.admits.platform]).trans hl
  have Y := vx_rebase X (R' := { frames := R.frames, locals := R.locals, cells := 1, slots := 6 }) (Nat.le_refl _) (Nat.le_refl _) hRcells hRslots
  obtain ⟨s', hA⟩ : ∃ z, z = (T.setVm s.vm).setFrames (.invoking m args :: below) := ⟨_, rfl⟩
  rw [← hA] at Y
  have hvm : s'.vm = s.vm := by rw [hA]; rfl
  have hhp : s'.heap = H := by rw [hA]; exact hT
  have hW0 : s.WarmedH s'.vm := by rw [hvm]; exact State.WarmedH.refl s
  have hat' : ∀ w ∈ vx_at0 own ic cls names, w.before args s' = true := fun w hw => vx_ot_at hW0 hvm.symm (hgood w (List.mem_cons_of_mem _ (List.mem_cons_of_mem _ hw))) (hat w hw)
  have hk' : (Cond.classLink own ik cls).before args s' = true := vx_ot_at hW0 hvm.symm (hgood _ List.mem_cons_self) hk
  have hini' : (Cond.initialized cls).before args s' = true := vx_ot_at hW0 hvm.symm (hgood _ (List.mem_cons_of_mem _ List.mem_cons_self)) hini
  have hU' : vx_Zq Bundle.tN "UNASSIGNED_STACK" Bundle.steD A s' s'.heap := by rw [hhp]; exact vx_Zq.moved hW0.alike (hU.kept hS.2.1)
  have hN' : vx_Zq Bundle.tN "SUPPRESSED_SENTINEL" Bundle.listD A s' s'.heap := by rw [hhp]; exact vx_Zq.moved hW0.alike (hN.kept hS.2.1)
  have h : ∀ w ∈ Bundle.ownAtoms0 own ic cls names, w.before args s' = true := vx_own hat' (vx_isRefq hU'.1) (vx_isRefq hN'.1) hU'.2.word hN'.2.word
  have hown' : s'.vm.findClass own = some m.cls := by rw [hvm]; exact hown
  have hins : (Cond.instantiable cls 6).before args s' = true := h _ (by simp [Bundle.ownAtoms0])
  obtain ⟨vm₁, cX, kX, hfX, hkX, -, -, X₁, st1⟩ := Y.newCold hexec (own := own) (C := cls) (index := ik) (n := 6) hown' hk' hins hini'
    (g := F0 m pc ls rest) rfl (by rw [hb]; exact d0) (Nat.le_refl _) (Nat.le_refl _)
  generalize hT1 : (T.setVm vm₁).pushCell { cls := cX, slots := kX.instanceTypes.map defaultValue, vm := .none } = T1 at X₁ st1
  have hcat : (Value.ref T.heap.size).category = 1 := rfl
  have hcellA : T1.heap[T.heap.size]? = some (freshCell cX kX) := by rw [← hT1]; exact State.heap_pushCell_size _ _
  have d3' : decode c.code (pc + 3) = .ok (.dup, 1) := by rw [hb]; exact d3
  obtain ⟨U, hsteps, hrun, hend, hW, hsame, ce, hce, hO⟩ := X₁.ctorThrow0 hexec htr (own := own) (cls := cls) (names := names) (ic := ic) hown' hcls hnames h (fun x hx => nomatch hx) hfX hkX hcellA (by rw [hhp, hT]; exact Nat.le_refl _)
    (g := { method := m, pc := pc + 4, locals := ls, stack := .ref T.heap.size :: .ref T.heap.size :: rest, locked := none }) rfl hsize rfl rfl (rest := rest) rfl
    (by rw [hb]; exact d4) (by rw [hb]; exact d7) hout hRframes (by simp only [List.map_cons, List.sum_cons, hcat]; omega) hlocks
  obtain ⟨f1, f2⟩ := vx_frame hsame
  rw [hhp] at f1 f2
  have hWs : s.WarmedH U.vm := State.WarmedH.trans hW0 hW
  have hcl : s.vm.findClass cls = some ce.cls := by
    have h9 := hO.cls
    rw [hvm] at h9
    exact h9
  have hall : s.sameButNew ({ U with vm := s.vm } : State) locs mc ms := by
    subst hA
    obtain ⟨e1, e2⟩ := hsame
    rw [State.setFrames_setFrames] at e1
    have h2 : (T.setVm s.vm).sameButNew ({ U with vm := s.vm } : State) [] (0 + 1) (0 + 6) := ⟨e1, e2⟩
    have h3 := X.same.trans h2
    rw [List.append_nil] at h3
    exact h3.mono hc hs
  refine ⟨U, ?_, .threw T.heap.size, hrun, hend, Or.inr ⟨T.heap.size, rfl, cls, ce, locs, hx U hWs.alike f1 (fun q hq => f2 q hq (fun z hz => nomatch hz)), hce, hO.vm, hcl, hWs, hall, hf⟩⟩
  refine st1 _ ?_
  show Steps p.tables e below (T1.setTop { method := m, pc := pc + 3, locals := ls, stack := .ref T.heap.size :: rest, locked := none }) _
  jvm_step X₁.here [X₁.here.top, hexec, d3', Value.category]
  exact hsteps
/-- 'throw new E("text")': new; dup; ldc; invokespecial; athrow -/
theorem vx_throwS {cc : ByteArray} {pc : Nat} (hexec : p.tables.exec = Jvm.exec) (hb : c.code = cc) (hl : l.stackTraces = false) {own cls text : String} {names : List String} {ik is ic mc ms sa : Nat} {A : Nat → Prop}
    (hown : s.vm.findClass own = some m.cls) (hcls : Bundle.fit cls = true) (hnames : ∀ n ∈ names, Bundle.fit n = true)
    (hk : (Cond.classLink own ik cls).before args s = true) (hini : (Cond.initialized cls).before args s = true) (hstr : vk_R own is text sa s) (hat : ∀ w ∈ vx_atS own ic cls names, w.before args s = true)
    (hgood : ∀ w ∈ Cond.classLink own ik cls :: Cond.initialized cls :: vx_atS own ic cls names, vx_ot w = true)
    (hU : vx_Zq Bundle.tN "UNASSIGNED_STACK" Bundle.steD A s s.heap) (hN : vx_Zq Bundle.tN "SUPPRESSED_SENTINEL" Bundle.listD A s s.heap) (hS : va_S A s.heap H locs) (hsize : ls.size = c.maxLocals)
    (d0 : decode cc pc = .ok (.new ik, 3)) (d3 : decode cc (pc + 3) = .ok (.dup, 1)) (d4 : decode cc (pc + 4) = .ok (.ldc is, 2)) (d6 : decode cc (pc + 6) = .ok (.invokespecial ic, 3)) (d9 : decode cc (pc + 9) = .ok (.athrow, 1))
    (hout : ∀ x ∈ c.exceptionTable.toList, covers x (pc + 9) = false)
    (hRframes : names.length + 3 < R.frames) (hRlocals : (rest.map fun v => v.category).sum + (13 * (names.length + 1) + 43) ≤ R.locals) (hRcells : cells + 1 ≤ R.cells) (hRslots : slots + 6 ≤ R.slots) (hlocks : meth.locks = false)
    (hx : ∀ t : State, s.vm.Alike t.vm → H.size ≤ t.heap.size → (∀ q : Nat, q < H.size → t.heap[q]? = H[q]?) → XC cls s t)
    (hf : ∀ z ∈ locs, free z.base) (hc : cells + 1 ≤ mc) (hs : slots + 6 ≤ ms) :
    W p l e R s m args below meth c H locs cells slots (vx_MQ below Qc XC args s mc ms free) (F0 m pc ls rest) := by
  intro T hT X
  have htr : e.platform.stackTraces = false := (show e.platform.stackTraces = l.stackTraces by rw [X.admits.platform]).trans hl
  have Y := vx_rebase X (R' := { frames := R.frames, locals := R.locals, cells := 1, slots := 6 }) (Nat.le_refl _) (Nat.le_refl _) hRcells hRslots
  obtain ⟨s', hA⟩ : ∃ z, z = (T.setVm s.vm).setFrames (.invoking m args :: below) := ⟨_, rfl⟩
  rw [← hA] at Y
  have hvm : s'.vm = s.vm := by rw [hA]; rfl
  have hhp : s'.heap = H := by rw [hA]; exact hT
  have hW0 : s.WarmedH s'.vm := by rw [hvm]; exact State.WarmedH.refl s
  have hat' : ∀ w ∈ vx_atS own ic cls names, w.before args s' = true := fun w hw => vx_ot_at hW0 hvm.symm (hgood w (List.mem_cons_of_mem _ (List.mem_cons_of_mem _ hw))) (hat w hw)
  have hk' : (Cond.classLink own ik cls).before args s' = true := vx_ot_at hW0 hvm.symm (hgood _ List.mem_cons_self) hk
  have hini' : (Cond.initialized cls).before args s' = true := vx_ot_at hW0 hvm.symm (hgood _ (List.mem_cons_of_mem _ List.mem_cons_self)) hini
  have hU' : vx_Zq Bundle.tN "UNASSIGNED_STACK" Bundle.steD A s' s'.heap := by rw [hhp]; exact vx_Zq.moved hW0.alike (hU.kept hS.2.1)
  have hN' : vx_Zq Bundle.tN "SUPPRESSED_SENTINEL" Bundle.listD A s' s'.heap := by rw [hhp]; exact vx_Zq.moved hW0.alike (hN.kept hS.2.1)
  have h : ∀ w ∈ Bundle.ownAtoms own ic cls names, w.before args s' = true := vx_own hat' (vx_isRefq hU'.1) (vx_isRefq hN'.1) hU'.2.word hN'.2.word
  have hown' : s'.vm.findClass own = some m.cls := by rw [hvm]; exact hown
  have hins : (Cond.instantiable cls 6).before args s' = true := h _ (by simp [Bundle.ownAtoms])
  obtain ⟨vm₁, cX, kX, hfX, hkX, -, -, X₁, st1⟩ := Y.newCold hexec (own := own) (C := cls) (index := ik) (n := 6) hown' hk' hins hini'
    (g := F0 m pc ls rest) rfl (by rw [hb]; exact d0) (Nat.le_refl _) (Nat.le_refl _)
  generalize hT1 : (T.setVm vm₁).pushCell { cls := cX, slots := kX.instanceTypes.map defaultValue, vm := .none } = T1 at X₁ st1
  have hcat : (Value.ref T.heap.size).category = 1 := rfl
  have hcellA : T1.heap[T.heap.size]? = some (freshCell cX kX) := by rw [← hT1]; exact State.heap_pushCell_size _ _
  have d3' : decode c.code (pc + 3) = .ok (.dup, 1) := by rw [hb]; exact d3
  have d4' : decode c.code (pc + 4) = .ok (.ldc is, 2) := by rw [hb]; exact d4
  have hstr' : vk_R own is text sa s' := vk_R.warm hW0 hstr
  obtain ⟨U, hsteps, hrun, hend, hW, hsame, ce, hce, hO⟩ := X₁.ctorThrowS hexec htr (own := own) (cls := cls) (names := names) (ic := ic) hown' hcls hnames h (fun x hx => nomatch hx) hfX hkX hcellA (by rw [hhp, hT]; exact Nat.le_refl _) (msg := .ref sa) rfl
    (g := { method := m, pc := pc + 6, locals := ls, stack := .ref sa :: .ref T.heap.size :: .ref T.heap.size :: rest, locked := none }) rfl hsize rfl rfl (rest := rest) rfl
    (by rw [hb]; exact d6) (by rw [hb]; exact d9) hout hRframes (by simp only [List.map_cons, List.sum_cons, hcat]; omega) hlocks
  obtain ⟨f1, f2⟩ := vx_frame hsame
  rw [hhp] at f1 f2
  have hWs : s.WarmedH U.vm := State.WarmedH.trans hW0 hW
  have hcl : s.vm.findClass cls = some ce.cls := by
    have h9 := hO.cls
    rw [hvm] at h9
    exact h9
  have hall : s.sameButNew ({ U with vm := s.vm } : State) locs mc ms := by
    subst hA
    obtain ⟨e1, e2⟩ := hsame
    rw [State.setFrames_setFrames] at e1
    have h2 : (T.setVm s.vm).sameButNew ({ U with vm := s.vm } : State) [] (0 + 1) (0 + 6) := ⟨e1, e2⟩
    have h3 := X.same.trans h2
    rw [List.append_nil] at h3
    exact h3.mono hc hs
  refine ⟨U, ?_, .threw T.heap.size, hrun, hend, Or.inr ⟨T.heap.size, rfl, cls, ce, locs, hx U hWs.alike f1 (fun q hq => f2 q hq (fun z hz => nomatch hz)), hce, hO.vm, hcl, hWs, hall, hf⟩⟩
  refine st1 _ ?_
  show Steps p.tables e below (T1.setTop { method := m, pc := pc + 3, locals := ls, stack := .ref T.heap.size :: rest, locked := none }) _
  jvm_step X₁.here [X₁.here.top, hexec, d3', Value.category]
  exact X₁.ldcString hexec (own := own) (text := text) (index := is) (a := sa) hown' hstr'.1 hstr'.2
    (g := { method := m, pc := pc + 4, locals := ls, stack := .ref T.heap.size :: .ref T.heap.size :: rest, locked := none }) rfl d4' _ hsteps
/-- 'throw new E("text")', the text by a wide index -/
theorem vx_throwSW {cc : ByteArray} {pc : Nat} (hexec : p.tables.exec = Jvm.exec) (hb : c.code = cc) (hl : l.stackTraces = false) {own cls text : String} {names : List String} {ik is ic mc ms sa : Nat} {A : Nat → Prop}
    (hown : s.vm.findClass own = some m.cls) (hcls : Bundle.fit cls = true) (hnames : ∀ n ∈ names, Bundle.fit n = true)
    (hk : (Cond.classLink own ik cls).before args s = true) (hini : (Cond.initialized cls).before args s = true) (hstr : vk_R own is text sa s) (hat : ∀ w ∈ vx_atS own ic cls names, w.before args s = true)
    (hgood : ∀ w ∈ Cond.classLink own ik cls :: Cond.initialized cls :: vx_atS own ic cls names, vx_ot w = true)
    (hU : vx_Zq Bundle.tN "UNASSIGNED_STACK" Bundle.steD A s s.heap) (hN : vx_Zq Bundle.tN "SUPPRESSED_SENTINEL" Bundle.listD A s s.heap) (hS : va_S A s.heap H locs) (hsize : ls.size = c.maxLocals)
    (d0 : decode cc pc = .ok (.new ik, 3)) (d3 : decode cc (pc + 3) = .ok (.dup, 1)) (d4 : decode cc (pc + 4) = .ok (.ldc_w is, 3)) (d7 : decode cc (pc + 7) = .ok (.invokespecial ic, 3)) (d10 : decode cc (pc + 10) = .ok (.athrow, 1))
    (hout : ∀ x ∈ c.exceptionTable.toList, covers x (pc + 10) = false)
    (hRframes : names.length + 3 < R.frames) (hRlocals : (rest.map fun v => v.category).sum + (13 * (names.length + 1) + 43) ≤ R.locals) (hRcells : cells + 1 ≤ R.cells) (hRslots : slots + 6 ≤ R.slots) (hlocks : meth.locks = false)
    (hx : ∀ t : State, s.vm.Alike t.vm → H.size ≤ t.heap.size → (∀ q : Nat, q < H.size → t.heap[q]? = H[q]?) → XC cls s t)
    (hf : ∀ z ∈ locs, free z.base) (hc : cells + 1 ≤ mc) (hs : slots + 6 ≤ ms) :
    W p l e R s m args below meth c H locs cells slots (vx_MQ below Qc XC args s mc ms free) (F0 m pc ls rest) := by
  intro T hT X
  have htr : e.platform.stackTraces = false := (show e.platform.stackTraces = l.stackTraces by rw [X.admits.platform]).trans hl
  have Y := vx_rebase X (R' := { frames := R.frames, locals := R.locals, cells := 1, slots := 6 }) (Nat.le_refl _) (Nat.le_refl _) hRcells hRslots
  obtain ⟨s', hA⟩ : ∃ z, z = (T.setVm s.vm).setFrames (.invoking m args :: below) := ⟨_, rfl⟩
  rw [← hA] at Y
  have hvm : s'.vm = s.vm := by rw [hA]; rfl
  have hhp : s'.heap = H := by rw [hA]; exact hT
  have hW0 : s.WarmedH s'.vm := by rw [hvm]; exact State.WarmedH.refl s
  have hat' : ∀ w ∈ vx_atS own ic cls names, w.before args s' = true := fun w hw => vx_ot_at hW0 hvm.symm (hgood w (List.mem_cons_of_mem _ (List.mem_cons_of_mem _ hw))) (hat w hw)
  have hk' : (Cond.classLink own ik cls).before args s' = true := vx_ot_at hW0 hvm.symm (hgood _ List.mem_cons_self) hk
  have hini' : (Cond.initialized cls).before args s' = true := vx_ot_at hW0 hvm.symm (hgood _ (List.mem_cons_of_mem _ List.mem_cons_self)) hini
  have hU' : vx_Zq Bundle.tN "UNASSIGNED_STACK" Bundle.steD A s' s'.heap := by rw [hhp]; exact vx_Zq.moved hW0.alike (hU.kept hS.2.1)
  have hN' : vx_Zq Bundle.tN "SUPPRESSED_SENTINEL" Bundle.listD A s' s'.heap := by rw [hhp]; exact vx_Zq.moved hW0.alike (hN.kept hS.2.1)
  have h : ∀ w ∈ Bundle.ownAtoms own ic cls names, w.before args s' = true := vx_own hat' (vx_isRefq hU'.1) (vx_isRefq hN'.1) hU'.2.word hN'.2.word
  have hown' : s'.vm.findClass own = some m.cls := by rw [hvm]; exact hown
  have hins : (Cond.instantiable cls 6).before args s' = true := h _ (by simp [Bundle.ownAtoms])
  obtain ⟨vm₁, cX, kX, hfX, hkX, -, -, X₁, st1⟩ := Y.newCold hexec (own := own) (C := cls) (index := ik) (n := 6) hown' hk' hins hini'
    (g := F0 m pc ls rest) rfl (by rw [hb]; exact d0) (Nat.le_refl _) (Nat.le_refl _)
  generalize hT1 : (T.setVm vm₁).pushCell { cls := cX, slots := kX.instanceTypes.map defaultValue, vm := .none } = T1 at X₁ st1
  have hcat : (Value.ref T.heap.size).category = 1 := rfl
  have hcellA : T1.heap[T.heap.size]? = some (freshCell cX kX) := by rw [← hT1]; exact State.heap_pushCell_size _ _
  have d3' : decode c.code (pc + 3) = .ok (.dup, 1) := by rw [hb]; exact d3
  have d4' : decode c.code (pc + 4) = .ok (.ldc_w is, 3) := by rw [hb]; exact d4
  have hstr' : vk_R own is text sa s' := vk_R.warm hW0 hstr
  obtain ⟨U, hsteps, hrun, hend, hW, hsame, ce, hce, hO⟩ := X₁.ctorThrowS hexec htr (own := own) (cls := cls) (names := names) (ic := ic) hown' hcls hnames h (fun x hx => nomatch hx) hfX hkX hcellA (by rw [hhp, hT]; exact Nat.le_refl _) (msg := .ref sa) rfl
    (g := { method := m, pc := pc + 7, locals := ls, stack := .ref sa :: .ref T.heap.size :: .ref T.heap.size :: rest, locked := none }) rfl hsize rfl rfl (rest := rest) rfl
    (by rw [hb]; exact d7) (by rw [hb]; exact d10) hout hRframes (by simp only [List.map_cons, List.sum_cons, hcat]; omega) hlocks
  obtain ⟨f1, f2⟩ := vx_frame hsame
  rw [hhp] at f1 f2
  have hWs : s.WarmedH U.vm := State.WarmedH.trans hW0 hW
  have hcl : s.vm.findClass cls = some ce.cls := by
    have h9 := hO.cls
    rw [hvm] at h9
    exact h9
  have hall : s.sameButNew ({ U with vm := s.vm } : State) locs mc ms := by
    subst hA
    obtain ⟨e1, e2⟩ := hsame
    rw [State.setFrames_setFrames] at e1
    have h2 : (T.setVm s.vm).sameButNew ({ U with vm := s.vm } : State) [] (0 + 1) (0 + 6) := ⟨e1, e2⟩
    have h3 := X.same.trans h2
    rw [List.append_nil] at h3
    exact h3.mono hc hs
  refine ⟨U, ?_, .threw T.heap.size, hrun, hend, Or.inr ⟨T.heap.size, rfl, cls, ce, locs, hx U hWs.alike f1 (fun q hq => f2 q hq (fun z hz => nomatch hz)), hce, hO.vm, hcl, hWs, hall, hf⟩⟩
  refine st1 _ ?_
  show Steps p.tables e below (T1.setTop { method := m, pc := pc + 3, locals := ls, stack := .ref T.heap.size :: rest, locked := none }) _
  jvm_step X₁.here [X₁.here.top, hexec, d3', Value.category]
  exact X₁.ldcStringW hexec (own := own) (text := text) (index := is) (a := sa) hown' hstr'.1 hstr'.2
    (g := { method := m, pc := pc + 4, locals := ls, stack := .ref T.heap.size :: .ref T.heap.size :: rest, locked := none }) rfl d4' _ hsteps
end Ends
section Bodies
variable {l : Launch}
theorem vx_ofW {y : MethodName} {ws ws' : List Cond} {rm : Room} {Pc : Array Value → State → Prop} {Qc : Array Value → State → Outcome → State → Prop} {XC : String → State → State → Prop} {mc ms : Nat} {free : Addr → Prop} {cc : ByteArray} {maxL : Nat} {ret : Option FieldType}
    (hy : plainName y.cls = true) (hw : ws = Cond.code y cc maxL ret :: ws')
    (body : ∀ p e s m args below meth c s₁, BodyLoose p l y (headSpec ws rm) cc maxL ret e s m args below meth c s₁ → c.maxLocals = maxL → (∀ x ∈ c.exceptionTable.toList, False) → Pc args s →
      W p l e (headSpec ws rm).room s m args below meth c s.heap [] 0 0 (vx_MQ below Qc XC args s mc ms free) (entryFrame m args maxL)) : vx_Met l y ws rm Pc Qc XC mc ms free := by
  refine MetFree.of_bodyS (code := cc) (maxLocals := maxL) (ret := ret) hy ?_ ?_
  · intro args s m h hn
    obtain ⟨meth, c, h1, h2, h3, h4, h5, h6, -, -⟩ := Cond.code_spec hn (atoms_spec (ws := ws) h _ (by rw [hw]; exact List.mem_cons_self))
    exact ⟨meth, c, h1, h2, h3, h4, h5, h6⟩
  · intro p e s m args below meth c s₁ B hml hP _
    have hh0 : s₁.heap = s.heap := by rw [B.state]; rfl
    have ht : ∀ x ∈ c.exceptionTable.toList, False := by
      obtain ⟨meth9, c9, h1, h2, -, -, -, -, h7, -⟩ := Cond.code_spec B.named (atoms_spec (ws := ws) B.pre _ (by rw [hw]; exact List.mem_cons_self))
      cases Option.some.inj (h1.symm.trans B.method)
      cases Option.some.inj (h2.symm.trans (Stand.of_body B).code)
      intro x hx
      rw [Array.isEmpty_iff.mp h7] at hx
      cases hx
    obtain ⟨t, a1, o, b1, b2, b3⟩ := body p e s m args below meth c s₁ B hml ht hP s₁ hh0 (Stand.of_body B)
    exact ⟨t, o, a1, b1, b2, b3⟩
/-- the table of a body with handlers -/
theorem vx_table {p : Program} {x y : MethodName} {S : Spec} {cc bytes : ByteArray} {maxL maxL' : Nat} {ret ret' : Option FieldType} {e : Env} {s s₁ : State} {m : MethodId} {args : Array Value} {below : List Frame} {meth : Method} {c : Code} {hh : List (Nat × Nat × Nat × Nat)}
    (B : BodyLoose p l y S cc maxL ret e s m args below meth c s₁) (h : (Cond.codeWith y bytes maxL' ret' hh).before args s = true) : c.exceptionTable.toList = tableOf hh := by
  obtain ⟨m9, meth9, c9, hn9, h1, h2, -, -, h6, -⟩ := Cond.codeWith_spec h
  cases Option.some.inj (hn9.symm.trans B.named)
  cases Option.some.inj (h1.symm.trans B.method)
  cases Option.some.inj (h2.symm.trans (Stand.of_body B).code)
  rw [← h6, table_eq]
end Bodies
end VXA
/-! ===== END ===== -/
/-! ===== BEGIN a static call of a method with an exception table ===== -/
section VXS
variable {p : Program} {l : Launch} {e : Env} {R : Room} {s : State} {m : MethodId} {args : Array Value} {below : List Frame} {meth : Method} {c : Code} {T : State} {H : Heap} {locs : List Loc} {cells slots : Nat}
abbrev vx_CSW (R : Room) (s : State) (args : Array Value) (own : String) (index : Nat) (y : MethodName) (bytes : ByteArray) (maxL : Nat) (ret : Option FieldType) (hh : List (Nat × Nat × Nat × Nat)) (ws : List Cond) (rm : Room) (mc ms n : Nat) : Prop :=
  (rm.cells = mc ∧ rm.slots = ms ∧ rm.frames + 1 ≤ R.frames ∧ 8 + (maxL + 11) + rm.locals ≤ R.locals ∧ (∀ w ∈ ws, ∀ (a' : Array Value) (U : State), s.WarmedH U.vm → w.before a' U = true) ∧ Cond.codeWith y bytes maxL ret hh ∈ ws) ∧
  (Cond.codeWith y bytes maxL ret hh).before args s = true ∧ (Cond.initialized y.cls).before args s = true ∧ (y.cls ≠ "java/lang/invoke/MethodHandle" ∧ y.cls ≠ "java/lang/invoke/VarHandle") ∧
  (∀ sig, parseMethodDescriptor y.desc = some sig → n = sig.parameters.length) ∧ (Cond.methodLink own index y).before args s = true ∧ (Cond.static y).before args s = true
theorem vx_cwSW {own : String} {index maxL mc ms : Nat} {y : MethodName} {bytes : ByteArray} {ret : Option FieldType} {hh : List (Nat × Nat × Nat × Nat)} {Ts ws ws' : List Cond} {rm : Room} (n : Nat) (ht : ∀ w ∈ Ts, w.before args s = true) (hT : GoodIn Ts (va_wsS own index y ws)) (hw : ws = Cond.codeWith y bytes maxL ret hh :: ws') (hrc : rm.cells = mc) (hrs : rm.slots = ms)
    (hd : y.cls ≠ "java/lang/invoke/MethodHandle" ∧ y.cls ≠ "java/lang/invoke/VarHandle" ∧ (parseMethodDescriptor y.desc).map (fun d => d.parameters.length) = some n) (hR : rm.frames + 1 ≤ R.frames ∧ 8 + (maxL + 11) + rm.locals ≤ R.locals) :
    vx_CSW R s args own index y bytes maxL ret hh ws rm mc ms n := by
  have ok : ∀ w ∈ va_wsS own index y ws, w.before args s = true := fun w h => ht w (hT w h).1
  have hG : GoodIn Ts ws := fun w h => hT w (by unfold va_wsS; exact List.mem_append_right _ h)
  have hc : Cond.codeWith y bytes maxL ret hh ∈ ws := by rw [hw]; exact List.mem_cons_self
  refine ⟨⟨hrc, hrs, hR.1, hR.2, pay_in ht hG, hc⟩, ht _ (hG _ hc).1, ok _ (by simp [va_wsS]), ⟨hd.1, hd.2.1⟩, fun sig h => ?_, ok _ (by simp [va_wsS]), ok _ (by simp [va_wsS])⟩
  have h2 := hd.2.2
  rw [h] at h2
  exact (Option.some.inj h2).symm
theorem vx_callSW (X : Stand p l e R s m args below meth c T locs cells slots) (hexec : p.tables.exec = Jvm.exec) {own : String} {index : Nat} {y : MethodName} {bytes : ByteArray} {maxL : Nat} {ret : Option FieldType} {hh : List (Nat × Nat × Nat × Nat)}
    (hown : s.vm.findClass own = some m.cls) (hlink : (Cond.methodLink own index y).before args s = true) (hstat : (Cond.static y).before args s = true) (hinit : (Cond.initialized y.cls).before args s = true)
    (hcode : (Cond.codeWith y bytes maxL ret hh).before args s = true) (hy : y.cls ≠ "java/lang/invoke/MethodHandle" ∧ y.cls ≠ "java/lang/invoke/VarHandle")
    {W9 : Nat} {Pre : Pt → Array Value → Prop} {Post : Pt → Array Value → Option Value → Pt → Prop} (hK : Back l R p e below s args y 3 W9 Pre Post)
    {g : JFrame} (hg : g.method = m) (hsize : g.locals.size = c.maxLocals) {argsL rest : List Value} (hlen : ∀ sig, parseMethodDescriptor y.desc = some sig → argsL.length = sig.parameters.length)
    (hstack : g.stack = argsL.reverse ++ rest) (hW : 2 * g.monitorRoom + (rest.map fun v => v.category).sum ≤ W9) (hdg : decode c.code g.pc = .ok (.invokestatic index, 3))
    (hpre : ∀ vm₁, s.WarmedH vm₁ → Pre ⟨T.setVm vm₁, locs, cells, slots⟩ argsL.toArray) :
    ∃ (v : Option Value) (vm₁ : Vm) (B : Pt), s.WarmedH vm₁ ∧ Stand p l e R s m args below meth c B.U B.locs B.cells B.slots ∧ Post ⟨T.setVm vm₁, locs, cells, slots⟩ argsL.toArray v B ∧
      ∀ target, Steps p.tables e below (B.U.setTop { g with pc := g.pc + 3, stack := v.toList ++ rest }) target → Steps p.tables e below (T.setTop g) target := by
  obtain ⟨mk, methM, cM, hnamed, hmethM, -, -, -, -, -, -, hsigM⟩ := Cond.codeWith_spec hcode
  have hstatic : methM.isStatic = true := Cond.static_spec hnamed hmethM hstat
  obtain ⟨kP, hkP, -⟩ := className_of_methodNamed hnamed
  have hinitP : kP.init = .initialized := Cond.initialized_spec (findClass_of_methodNamed hnamed) hkP hinit
  obtain ⟨vm₁, X₁, hstep₁⟩ := X.invokestatic hexec hown hlink hnamed hmethM hstatic hkP hinitP hy (g := g) hg (argsL := argsL) (rest := rest) (hlen _ hsigM) hstack hdg
  obtain ⟨v, B, X', hpost, hsteps⟩ := hK m meth c ⟨T.setVm vm₁, locs, cells, slots⟩ { g with stack := rest } (.invokestatic index) mk argsL.toArray X₁ hg hsize hdg hW (X₁.named hnamed) (hpre vm₁ X₁.warmed)
  exact ⟨v, vm₁, B, X₁.warmed, X', hpost, fun target h => hstep₁ _ fun acts => by rw [doInvoke_state]; exact hsteps.trans h⟩
theorem vx_runSW {y : MethodName} {bytes cc : ByteArray} {maxL nL mc ms n index : Nat} {ret : Option FieldType} {hh : List (Nat × Nat × Nat × Nat)} {ws : List Cond} {rm : Room} {Pc : Array Value → State → Prop} {Qc : Array Value → State → Outcome → State → Prop} {free : Addr → Prop} {Ts : List Cond} {own : String} {As rest : List Value} {g : JFrame}
    (S : CallFix p m c cc nL s args Ts own) (hM : Met l y ws rm Pc Qc mc ms free) (cw : vx_CSW R s args own index y bytes maxL ret hh ws rm mc ms n) (hp : PreS s H Pc As)
    (hg : g.method = m) (hn : As.length = n) (hsize : g.locals.size = nL) (hstack : g.stack = As.reverse ++ rest) (hW : 2 * g.monitorRoom + (rest.map fun v => v.category).sum ≤ 8) (hdg : decode cc g.pc = .ok (.invokestatic index, 3)) (hf : cells + mc ≤ R.cells ∧ slots + ms ≤ R.slots) :
    va_Run p l e R s m args below meth c H locs cells slots mc ms g rest (Qc As.toArray) (free) := by
  obtain ⟨⟨hrc, hrs, hfr, hlo, hws, hcw⟩, hcode, hini, hy, hlen, hl, hstt⟩ := cw
  have hK : Back l R p e below s args y 3 8 (PreOf R mc ms Pc) (PostOf Qc mc ms free) := va_backW (hh := hh) (bytes := bytes) (maxL := maxL) (ret := ret) hM hp.1 hrc hrs hfr hlo hws hcw (fun a' U hW => word_at hW (Or.inl (by first | rfl | simp [Cond.onTables, Cond.keeps, Cond.steady])) hini)
  obtain ⟨hx, hb, hml, ho, -⟩ := S
  intro T hT X
  obtain ⟨v, vm₁, ⟨U', l2, c2, s2⟩, hW₁, X', ⟨g', mk, t, L, e1, e2, hq, h1, hL, h2, h3⟩, st⟩ := vx_callSW X hx (hh := hh) (bytes := bytes) (maxL := maxL) (ret := ret) ho hl hstt hini hcode hy hK hg (hsize.trans hml.symm) (argsL := As) (rest := rest) (fun sig h => hn.trans (hlen sig h)) hstack hW (by rw [hb]; exact hdg)
    (fun vm₁ hW₁ => ⟨hf.1, hf.2, hp.2 (T.setVm vm₁) hT hW₁⟩)
  dsimp only [Pt.U, Pt.locs, Pt.cells, Pt.slots] at X' e1 e2 h1 h2 h3 st
  subst h1; subst h2; subst h3
  exact ⟨v, (T.setVm vm₁).calling g' mk As.toArray, t, U', L, hT, X', hL, e1, e2, hq, st⟩
/-- not caught here, past rows that name other classes: it goes on to the caller -/
theorem vx_outP {p : Program} {l : Launch} {e : Env} {R : Room} {s : State} {m : MethodId} {args : Array Value} {below : List Frame} {meth : Method} {c : Code} {H : Heap} {locs : List Loc} {cells slots : Nat} {free : Addr → Prop} {ls : Array Slot} {rest : List Value} {Qc : Array Value → State → Outcome → State → Prop} {XC : String → State → State → Prop}
    {pc : Nat} {own E : String} {ce : Cell} {q : Addr} {mc ms : Nat} (hown : s.vm.findClass own = some m.cls) (hlocks : meth.locks = false)
    (hpass : ∀ z ∈ c.exceptionTable.toList, covers z pc = false ∨ (z.catchType ≠ 0 ∧ ∃ nm : String, (Cond.classLink own z.catchType nm).before args s = true ∧ va_Nc E nm s)) (hcell : H[q]? = some ce) (hv : ce.vm = .none) (hcl : s.vm.findClass E = some ce.cls)
    (hx : ∀ t : State, t.heap = H → s.vm.Alike t.vm → XC E s t) (hf : ∀ z ∈ locs, free z.base) (hc : cells ≤ mc) (hs : slots ≤ ms) :
    vx_W p l e R s m args below meth c H locs cells slots (vx_MQ below Qc XC args s mc ms free) (F0 m pc ls rest) q := by
  intro T hT X
  have hpl : e.platform.magicAccessors = ({} : Platform).magicAccessors := by rw [X.admits.platform]
  obtain ⟨vm', hW', X', st⟩ := X.outThrough hlocks q (g := F0 m pc ls rest) rfl rfl rfl (cell := ce) (by rw [hT]; exact hcell) (by rw [hv]; rfl)
    (by obtain ⟨k9, h9, -⟩ := Vm.findClass_spec hcl; exact ⟨k9, h9⟩) (fun z hz => by
      rcases hpass z hz with h | ⟨hz0, nm, hl1, hn1⟩
      · exact Or.inl h
      · obtain ⟨c6, hc6, hcl6⟩ := Cond.classLink_spec hown hl1 e.platform hpl
        obtain ⟨a8, b8, h1, h2, h3⟩ := hn1
        cases Option.some.inj (h1.symm.trans hcl)
        cases Option.some.inj (h2.symm.trans hc6)
        exact Or.inr ⟨hz0, _, hcl6, h3⟩)
  obtain ⟨g₀, hfr⟩ := X'.frames_eq
  have hcell9 : ((T.setVm vm').setFrames (.throwing q :: below)).heap[q]? = some ce := by
    show T.heap[q]? = some ce
    rw [hT]; exact hcell
  have hend : Ended ((T.setVm vm').setFrames (.throwing q :: below)) below (.threw q) := State.frames_setFrames _ (State.cur_lt_of_frames hfr)
  refine ⟨(T.setVm vm').setFrames (.throwing q :: below), ?_, .threw q, X'.here.running, hend, Or.inr ⟨q, rfl, E, ce, locs, hx _ hT (X'.ends _).1.alike, hcell9, hv, hcl, (X'.ends _).1, (X'.ends _).2.mono hc hs, hf⟩⟩
  rw [X.pushThrowing_eq]
  exact st
/-- a thing of a world lies in the heap -/
theorem vx_lt {D : va_G} {cl : List vw_C} {ws : va_W} {H1 : Heap} (h : va_P D cl ws H1) {k : Nat} {q : Nat × va_E} (hk : ws[k]? = some q) : q.1 < H1.size := (h k q hk).lt
end VXS
/-! ===== END ===== -/
/-! ===== BEGIN methods with a table of their own: called by a name, returning or throwing ===== -/
section VXH
/-! vx_backW, vx_callVX, vx_callSX, vx_callVW, vx_runVW, vx_runVX, vx_runSX, vx_ofWH follow the same proofs as their sisters above (Free/Laws.lean, Shelf42/LK1.lean); vx_outP calls Shelf42/NT130.lean (outThrough). -/
section
variable {l : Launch} {R : Room} {p : Program} {e : Env} {below : List Frame} {s : State} {sargs : Array Value} {y : MethodName} {len W9 : Nat}
theorem vx_backW {ws : List Cond} {rm : Room} {Pc : Array Value → State → Prop} {Qc : Array Value → State → Outcome → State → Prop} {XC : String → State → State → Prop} {mc ms : Nat} {free : Addr → Prop} {bytes : ByteArray} {maxL : Nat} {ret : Option FieldType} {hh : List (Nat × Nat × Nat × Nat)}
    (hM : vx_Met l y ws rm Pc Qc XC mc ms free) (hblind : FrameBlind Pc) (hrc : rm.cells = mc) (hrs : rm.slots = ms)
    (hframes : rm.frames + 1 ≤ R.frames) (hlocals : W9 + (maxL + 11) + rm.locals ≤ R.locals)
    (hws : ∀ w ∈ ws, ∀ a' U, s.WarmedH U.vm → w.before a' U = true) (hcode : Cond.codeWith y bytes maxL ret hh ∈ ws) (hinit : ∀ a' U, s.WarmedH U.vm → (Cond.initialized y.cls).before a' U = true) :
    vx_Back l R p e below s sargs y len W9 (PreOf R mc ms Pc) (PostOf Qc mc ms free) (vx_Post XC mc ms free) := by
  intro m meth c A g ig mk a X hg hsize hdg hW hn hp
  have h1 : (headSpec ws rm).pre.before a A.U = true := atoms_intro fun w hw => hws w hw _ _ X.warmed
  have h2 : (Cond.codeWith y bytes maxL ret hh).before a A.U = true := hws _ hcode _ _ X.warmed
  have h3 : (Cond.initialized y.cls).before a A.U = true := hinit _ _ X.warmed
  have h4 : A.cells + (headSpec ws rm).room.cells ≤ R.cells := by rw [show (headSpec ws rm).room.cells = mc from hrc]; exact hp.1
  have h5 : A.slots + (headSpec ws rm).room.slots ≤ R.slots := by rw [show (headSpec ws rm).room.slots = ms from hrs]; exact hp.2.1
  have hPc : Pc a (A.U.calling g mk a) := hblind _ _ _ _ hp.2.2
  obtain ⟨U, Ls, c0, s0⟩ := A
  dsimp only [Pt.U, Pt.locs, Pt.cells, Pt.slots] at h1 h2 h3 h4 h5 X hn hPc ⊢
  obtain ⟨m9, methY, cY, hn9, hmY, hcY, -, hlY, -⟩ := Cond.codeWith_spec h2
  cases Option.some.inj (hn9.symm.trans hn)
  obtain ⟨kY, hkY, -⟩ := className_of_methodNamed hn
  have hinitY : kY.init = .initialized := Cond.initialized_spec (findClass_of_methodNamed hn) hkY h3
  have h : At U g.method c below := by rw [hg]; exact X.here
  have hlocals9 : W9 + (maxL + 11) + (headSpec ws rm).room.locals ≤ R.locals := hlocals
  have happ : (headSpec ws rm).appliesLoose y e.platform (U.calling g mk a) = true :=
    Spec.appliesLoose_calling (g := g) h hdg hn hkY hinitY
      (X.room_calling (g := g) (R' := (headSpec ws rm).room) hsize hmY hcY hframes (by rw [hlY]; omega) h4 h5) h1
  obtain ⟨mid, hmid⟩ := h.above
  have hfr : (U.setTop g).frames = (.java g :: mid) ++ below := by rw [State.frames_setTop' g h.top, hmid]; rfl
  obtain ⟨o, s₂, hsteps, -, hend, hq⟩ := Steps.callFree hM p X.admits X.cas X.clock (acts := []) hfr happ hPc trivial
  have hq' : vx_Q Qc XC mc ms free a (U.calling g mk a) o s₂ := hq
  rw [State.frames_setTop' g h.top] at hend
  obtain ⟨g₀, hg0⟩ := Option.isSome_iff_exists.mp h.top
  obtain ⟨r, hr⟩ := State.topJava?_eq_some.mp hg0
  have hr' : (({ U with heap := s₂.heap, slotsUsed := s₂.slotsUsed } : State).setVm s₂.vm).frames = .java g₀ :: r := hr
  rcases hq' with ⟨hqc, L, hfe, hL⟩ | ⟨q, rfl, E, ce, L, hx, hce, hcv, hcl, hW₂, hsm, hL⟩
  · obtain ⟨⟨v, rfl⟩, hW₂, e2, q2, q3, q4, q5, q6⟩ := id hfe
    have e3 : s₂ = ({ (U.calling g mk a).setFrames s₂.frames with heap := s₂.heap, slotsUsed := s₂.slotsUsed } : State).setVm s₂.vm := by
      have : s₂ = ({ s₂ with vm := (U.calling g mk a).vm } : State).setVm s₂.vm := rfl
      rw [e2] at this
      exact this
    obtain ⟨c₂, i₂, len₂, hc₂, hd₂, hf₂⟩ := hend
    have hW' : U.WarmedH s₂.vm := hW₂
    have hcc : c₂ = c := by
      have h1 : s₂.code? g.method = U.code? g.method := by
        rw [State.code?_eq, State.code?_eq, hW'.alike.method?]
      exact Option.some.inj (hc₂.symm.trans (h1.trans h.code))
    subst hcc
    have hlen : len₂ = len := by rw [hdg] at hd₂; cases hd₂; rfl
    subst hlen
    have hs₂ : s₂ = (({ U with heap := s₂.heap, slotsUsed := s₂.slotsUsed } : State).setVm s₂.vm).setTop { g with pc := g.pc + len₂, stack := v.toList ++ g.stack } := by
      refine e3.trans ?_
      rw [hf₂, State.calling_eq h.top, State.setFrames_setFrames, State.setTop_of_frames _ hr', hr]
      rfl
    have hsame : U.sameButNew ({ U with heap := s₂.heap, slotsUsed := s₂.slotsUsed } : State) L mc ms := by
      refine ⟨?_, q2, q3, q4, q5, q6⟩
      obtain ⟨t, ht, -⟩ := State.frames_cons hr
      show ({ U with heap := s₂.heap, slotsUsed := s₂.slotsUsed } : State) = { U.setFrames U.frames with heap := s₂.heap, slotsUsed := s₂.slotsUsed }
      rw [State.setFrames_self ht]
    subst hg
    refine Or.inl ⟨v, ⟨(({ U with heap := s₂.heap, slotsUsed := s₂.slotsUsed } : State).setVm s₂.vm), Ls ++ L, c0 + mc, s0 + ms⟩,
      ⟨X.admits, X.cas, X.clock, X.frames, X.room, X.hears, X.method, X.code, (X.here.setHeapUsed s₂.heap s₂.slotsUsed).setVm hW'.alike, X.tail, State.WarmedH.trans X.warmed hW', X.limits, X.bytes, X.same.trans (hsame.setVm s.vm)⟩,
      ⟨g, mk, s₂, L, rfl, rfl, hqc, rfl, hL, rfl, rfl⟩, ?_⟩
    show Steps p.tables e below _ ((({ U with heap := s₂.heap, slotsUsed := s₂.slotsUsed } : State).setVm s₂.vm).setTop { g with pc := g.pc + len₂, stack := v.toList ++ g.stack })
    rw [← hs₂]
    exact hsteps
  · obtain ⟨e2, q2, q3, q4, q5, q6⟩ := id hsm
    have e3 : s₂ = ({ (U.calling g mk a).setFrames s₂.frames with heap := s₂.heap, slotsUsed := s₂.slotsUsed } : State).setVm s₂.vm := by
      have : s₂ = ({ s₂ with vm := (U.calling g mk a).vm } : State).setVm s₂.vm := rfl
      rw [e2] at this
      exact this
    have hf₂ : s₂.frames = .throwing q :: .java g :: U.frames.tail := hend
    have hW' : U.WarmedH s₂.vm := hW₂
    have hs₂ : s₂ = ((({ U with heap := s₂.heap, slotsUsed := s₂.slotsUsed } : State).setVm s₂.vm).setTop g).pushFrame (.throwing q) := by
      refine e3.trans ?_
      rw [hf₂, State.calling_eq h.top, State.setFrames_setFrames, State.pushFrame, State.frames_setTop _ hr', State.setTop_of_frames _ hr', State.setFrames_setFrames, hr]
      rfl
    have hsame : U.sameButNew ({ U with heap := s₂.heap, slotsUsed := s₂.slotsUsed } : State) L mc ms := by
      refine ⟨?_, q2, q3, q4, q5, q6⟩
      obtain ⟨t, ht, -⟩ := State.frames_cons hr
      show ({ U with heap := s₂.heap, slotsUsed := s₂.slotsUsed } : State) = { U.setFrames U.frames with heap := s₂.heap, slotsUsed := s₂.slotsUsed }
      rw [State.setFrames_self ht]
    subst hg
    refine Or.inr ⟨q, ⟨(({ U with heap := s₂.heap, slotsUsed := s₂.slotsUsed } : State).setVm s₂.vm), Ls ++ L, c0 + mc, s0 + ms⟩,
      ⟨X.admits, X.cas, X.clock, X.frames, X.room, X.hears, X.method, X.code, (X.here.setHeapUsed s₂.heap s₂.slotsUsed).setVm hW'.alike, X.tail, State.WarmedH.trans X.warmed hW', X.limits, X.bytes, X.same.trans (hsame.setVm s.vm)⟩,
      ⟨g, mk, s₂, L, E, ce, rfl, rfl, hx, hce, hcv, hcl, rfl, hL, rfl, rfl⟩, ?_⟩
    show Steps p.tables e below _ (((({ U with heap := s₂.heap, slotsUsed := s₂.slotsUsed } : State).setVm s₂.vm).setTop g).pushFrame (.throwing q))
    rw [← hs₂]
    exact hsteps
end
variable {p : Program} {l : Launch} {e : Env} {R : Room} {s : State} {m : MethodId} {args : Array Value} {below : List Frame} {meth : Method} {c : Code} {T : State} {H : Heap} {locs : List Loc} {cells slots : Nat}
theorem vx_callVX (X : Stand p l e R s m args below meth c T locs cells slots) (hexec : p.tables.exec = Jvm.exec) {own C : String} {index : Nat} {y : MethodName} {bytes : ByteArray} {maxL : Nat} {ret : Option FieldType} {hh : List (Nat × Nat × Nat × Nat)}
    (hown : s.vm.findClass own = some m.cls) (hlink : (Cond.methodLink own index y).before args s = true) (hinst : (Cond.instanceMethod y).before args s = true) (hsel : (Cond.selects C y y).before args s = true)
    (hcode : (Cond.codeWith y bytes maxL ret hh).before args s = true) (hy : y.cls ≠ "java/lang/invoke/MethodHandle" ∧ y.cls ≠ "java/lang/invoke/VarHandle")
    {W9 : Nat} {Pre : Pt → Array Value → Prop} {Post : Pt → Array Value → Option Value → Pt → Prop} {PostX : Pt → Array Value → Addr → Pt → Prop} (hK : vx_Back l R p e below s args y 3 W9 Pre Post PostX)
    {b : Addr} {cellB : Cell} (hcell : T.heap[b]? = some cellB) (hobj : cellB.vm.isStatics = false) (hcls : s.vm.findClass C = some cellB.cls)
    {g : JFrame} (hg : g.method = m) (hsize : g.locals.size = c.maxLocals) {argsL rest : List Value} (hlen : ∀ sig, parseMethodDescriptor y.desc = some sig → argsL.length = sig.parameters.length)
    (hstack : g.stack = argsL.reverse ++ .ref b :: rest) (hW : 2 * g.monitorRoom + (rest.map fun v => v.category).sum ≤ W9) (hdg : decode c.code g.pc = .ok (.invokevirtual index, 3))
    (hpre : ∀ vm₁, s.WarmedH vm₁ → Pre ⟨T.setVm vm₁, locs, cells, slots⟩ (Value.ref b :: argsL).toArray) :
    (∃ (v : Option Value) (vm₁ : Vm) (B : Pt), s.WarmedH vm₁ ∧ Stand p l e R s m args below meth c B.U B.locs B.cells B.slots ∧ Post ⟨T.setVm vm₁, locs, cells, slots⟩ (Value.ref b :: argsL).toArray v B ∧
      ∀ target, Steps p.tables e below (B.U.setTop { g with pc := g.pc + 3, stack := v.toList ++ rest }) target → Steps p.tables e below (T.setTop g) target) ∨
    (∃ (q : Addr) (vm₁ : Vm) (B : Pt), s.WarmedH vm₁ ∧ Stand p l e R s m args below meth c B.U B.locs B.cells B.slots ∧ PostX ⟨T.setVm vm₁, locs, cells, slots⟩ (Value.ref b :: argsL).toArray q B ∧
      Steps p.tables e below (T.setTop g) ((B.U.setTop { g with stack := rest }).pushFrame (.throwing q))) := by
  obtain ⟨mk, methM, hnamed, hmethM, hstM, habM⟩ := Cond.instanceMethod_spec hinst
  obtain ⟨m8, methM', cM, hn8, hmethM', -, -, -, -, -, -, hsigM⟩ := Cond.codeWith_spec hcode
  cases Option.some.inj (hn8.symm.trans hnamed)
  cases hmethM.symm.trans hmethM'
  obtain ⟨c2, r2, m2, q1, q2, q3, q4, kP, hkP, hkPi⟩ := Cond.selects_spec hsel
  cases hcls.symm.trans q1
  cases (State.methodFound?_of_named hnamed hy).symm.trans q2
  cases hnamed.symm.trans q3
  have hselP : selectMethod e.platform s.vm cellB.cls mk = .method mk := by rw [Launch.admits_selectMethod X.admits]; exact q4
  obtain ⟨vm₁, X₁, hstep₁⟩ := X.invokevirtual hexec hown hlink hnamed hmethM hstM hkP hkPi hy (a := b) (cell := cellB) hcell
    (fun z h => by rw [h] at hobj; cases hobj) hselP hmethM habM hkP hkPi (g := g) hg (argsL := argsL) (rest := rest) (hlen _ hsigM) hstack hdg
  rcases hK m meth c ⟨T.setVm vm₁, locs, cells, slots⟩ { g with stack := rest } (.invokevirtual index) mk (Value.ref b :: argsL).toArray X₁ hg hsize hdg hW (X₁.named hnamed) (hpre vm₁ X₁.warmed) with ⟨v, B, X', hpost, hsteps⟩ | ⟨q, B, X', hpost, hsteps⟩
  · exact Or.inl ⟨v, vm₁, B, X₁.warmed, X', hpost, fun target h => hstep₁ _ fun acts => by rw [doInvoke_state]; exact hsteps.trans h⟩
  · exact Or.inr ⟨q, vm₁, B, X₁.warmed, X', hpost, hstep₁ _ fun acts => by rw [doInvoke_state]; exact hsteps⟩
theorem vx_callSX (X : Stand p l e R s m args below meth c T locs cells slots) (hexec : p.tables.exec = Jvm.exec) {own : String} {index : Nat} {y : MethodName} {bytes : ByteArray} {maxL : Nat} {ret : Option FieldType} {hh : List (Nat × Nat × Nat × Nat)}
    (hown : s.vm.findClass own = some m.cls) (hlink : (Cond.methodLink own index y).before args s = true) (hstat : (Cond.static y).before args s = true) (hinit : (Cond.initialized y.cls).before args s = true)
    (hcode : (Cond.codeWith y bytes maxL ret hh).before args s = true) (hy : y.cls ≠ "java/lang/invoke/MethodHandle" ∧ y.cls ≠ "java/lang/invoke/VarHandle")
    {W9 : Nat} {Pre : Pt → Array Value → Prop} {Post : Pt → Array Value → Option Value → Pt → Prop} {PostX : Pt → Array Value → Addr → Pt → Prop} (hK : vx_Back l R p e below s args y 3 W9 Pre Post PostX)
    {g : JFrame} (hg : g.method = m) (hsize : g.locals.size = c.maxLocals) {argsL rest : List Value} (hlen : ∀ sig, parseMethodDescriptor y.desc = some sig → argsL.length = sig.parameters.length)
    (hstack : g.stack = argsL.reverse ++ rest) (hW : 2 * g.monitorRoom + (rest.map fun v => v.category).sum ≤ W9) (hdg : decode c.code g.pc = .ok (.invokestatic index, 3))
    (hpre : ∀ vm₁, s.WarmedH vm₁ → Pre ⟨T.setVm vm₁, locs, cells, slots⟩ argsL.toArray) :
    (∃ (v : Option Value) (vm₁ : Vm) (B : Pt), s.WarmedH vm₁ ∧ Stand p l e R s m args below meth c B.U B.locs B.cells B.slots ∧ Post ⟨T.setVm vm₁, locs, cells, slots⟩ argsL.toArray v B ∧
      ∀ target, Steps p.tables e below (B.U.setTop { g with pc := g.pc + 3, stack := v.toList ++ rest }) target → Steps p.tables e below (T.setTop g) target) ∨
    (∃ (q : Addr) (vm₁ : Vm) (B : Pt), s.WarmedH vm₁ ∧ Stand p l e R s m args below meth c B.U B.locs B.cells B.slots ∧ PostX ⟨T.setVm vm₁, locs, cells, slots⟩ argsL.toArray q B ∧
      Steps p.tables e below (T.setTop g) ((B.U.setTop { g with stack := rest }).pushFrame (.throwing q))) := by
  obtain ⟨mk, methM, cM, hnamed, hmethM, -, -, -, -, -, -, hsigM⟩ := Cond.codeWith_spec hcode
  have hstatic : methM.isStatic = true := Cond.static_spec hnamed hmethM hstat
  obtain ⟨kP, hkP, -⟩ := className_of_methodNamed hnamed
  have hinitP : kP.init = .initialized := Cond.initialized_spec (findClass_of_methodNamed hnamed) hkP hinit
  obtain ⟨vm₁, X₁, hstep₁⟩ := X.invokestatic hexec hown hlink hnamed hmethM hstatic hkP hinitP hy (g := g) hg (argsL := argsL) (rest := rest) (hlen _ hsigM) hstack hdg
  rcases hK m meth c ⟨T.setVm vm₁, locs, cells, slots⟩ { g with stack := rest } (.invokestatic index) mk argsL.toArray X₁ hg hsize hdg hW (X₁.named hnamed) (hpre vm₁ X₁.warmed) with ⟨v, B, X', hpost, hsteps⟩ | ⟨q, B, X', hpost, hsteps⟩
  · exact Or.inl ⟨v, vm₁, B, X₁.warmed, X', hpost, fun target h => hstep₁ _ fun acts => by rw [doInvoke_state]; exact hsteps.trans h⟩
  · exact Or.inr ⟨q, vm₁, B, X₁.warmed, X', hpost, hstep₁ _ fun acts => by rw [doInvoke_state]; exact hsteps⟩
theorem vx_callVW (X : Stand p l e R s m args below meth c T locs cells slots) (hexec : p.tables.exec = Jvm.exec) {own C : String} {index : Nat} {y : MethodName} {bytes : ByteArray} {maxL : Nat} {ret : Option FieldType} {hh : List (Nat × Nat × Nat × Nat)}
    (hown : s.vm.findClass own = some m.cls) (hlink : (Cond.methodLink own index y).before args s = true) (hinst : (Cond.instanceMethod y).before args s = true) (hsel : (Cond.selects C y y).before args s = true)
    (hcode : (Cond.codeWith y bytes maxL ret hh).before args s = true) (hy : y.cls ≠ "java/lang/invoke/MethodHandle" ∧ y.cls ≠ "java/lang/invoke/VarHandle")
    {W9 : Nat} {Pre : Pt → Array Value → Prop} {Post : Pt → Array Value → Option Value → Pt → Prop} (hK : Back l R p e below s args y 3 W9 Pre Post)
    {b : Addr} {cellB : Cell} (hcell : T.heap[b]? = some cellB) (hobj : cellB.vm.isStatics = false) (hcls : s.vm.findClass C = some cellB.cls)
    {g : JFrame} (hg : g.method = m) (hsize : g.locals.size = c.maxLocals) {argsL rest : List Value} (hlen : ∀ sig, parseMethodDescriptor y.desc = some sig → argsL.length = sig.parameters.length)
    (hstack : g.stack = argsL.reverse ++ .ref b :: rest) (hW : 2 * g.monitorRoom + (rest.map fun v => v.category).sum ≤ W9) (hdg : decode c.code g.pc = .ok (.invokevirtual index, 3))
    (hpre : ∀ vm₁, s.WarmedH vm₁ → Pre ⟨T.setVm vm₁, locs, cells, slots⟩ (Value.ref b :: argsL).toArray) :
    ∃ (v : Option Value) (vm₁ : Vm) (B : Pt), s.WarmedH vm₁ ∧ Stand p l e R s m args below meth c B.U B.locs B.cells B.slots ∧ Post ⟨T.setVm vm₁, locs, cells, slots⟩ (Value.ref b :: argsL).toArray v B ∧
      ∀ target, Steps p.tables e below (B.U.setTop { g with pc := g.pc + 3, stack := v.toList ++ rest }) target → Steps p.tables e below (T.setTop g) target := by
  obtain ⟨mk, methM, hnamed, hmethM, hstM, habM⟩ := Cond.instanceMethod_spec hinst
  obtain ⟨m8, methM', cM, hn8, hmethM', -, -, -, -, -, -, hsigM⟩ := Cond.codeWith_spec hcode
  cases Option.some.inj (hn8.symm.trans hnamed)
  cases hmethM.symm.trans hmethM'
  obtain ⟨c2, r2, m2, q1, q2, q3, q4, kP, hkP, hkPi⟩ := Cond.selects_spec hsel
  cases hcls.symm.trans q1
  cases (State.methodFound?_of_named hnamed hy).symm.trans q2
  cases hnamed.symm.trans q3
  have hselP : selectMethod e.platform s.vm cellB.cls mk = .method mk := by rw [Launch.admits_selectMethod X.admits]; exact q4
  obtain ⟨vm₁, X₁, hstep₁⟩ := X.invokevirtual hexec hown hlink hnamed hmethM hstM hkP hkPi hy (a := b) (cell := cellB) hcell
    (fun z h => by rw [h] at hobj; cases hobj) hselP hmethM habM hkP hkPi (g := g) hg (argsL := argsL) (rest := rest) (hlen _ hsigM) hstack hdg
  obtain ⟨v, B, X', hpost, hsteps⟩ := hK m meth c ⟨T.setVm vm₁, locs, cells, slots⟩ { g with stack := rest } (.invokevirtual index) mk (Value.ref b :: argsL).toArray X₁ hg hsize hdg hW (X₁.named hnamed) (hpre vm₁ X₁.warmed)
  exact ⟨v, vm₁, B, X₁.warmed, X', hpost, fun target h => hstep₁ _ fun acts => by rw [doInvoke_state]; exact hsteps.trans h⟩
abbrev vx_CVW (R : Room) (s : State) (args : Array Value) (own C : String) (index : Nat) (y : MethodName) (bytes : ByteArray) (maxL : Nat) (ret : Option FieldType) (hh : List (Nat × Nat × Nat × Nat)) (ws : List Cond) (rm : Room) (mc ms n : Nat) : Prop :=
  (rm.cells = mc ∧ rm.slots = ms ∧ rm.frames + 1 ≤ R.frames ∧ 8 + (maxL + 11) + rm.locals ≤ R.locals ∧ (∀ w ∈ ws, ∀ (a' : Array Value) (U : State), s.WarmedH U.vm → w.before a' U = true) ∧ Cond.codeWith y bytes maxL ret hh ∈ ws) ∧
  (Cond.codeWith y bytes maxL ret hh).before args s = true ∧ (Cond.initialized y.cls).before args s = true ∧ (y.cls ≠ "java/lang/invoke/MethodHandle" ∧ y.cls ≠ "java/lang/invoke/VarHandle") ∧
  (∀ sig, parseMethodDescriptor y.desc = some sig → n = sig.parameters.length) ∧ (Cond.methodLink own index y).before args s = true ∧ (Cond.instanceMethod y).before args s = true ∧ (Cond.selects C y y).before args s = true
theorem vx_cwVW {own C : String} {index maxL mc ms : Nat} {y : MethodName} {bytes : ByteArray} {ret : Option FieldType} {hh : List (Nat × Nat × Nat × Nat)} {Ts ws ws' : List Cond} {rm : Room} (n : Nat) (ht : ∀ w ∈ Ts, w.before args s = true) (hT : GoodIn Ts (wsV own index C y ws)) (hw : ws = Cond.codeWith y bytes maxL ret hh :: ws') (hrc : rm.cells = mc) (hrs : rm.slots = ms)
    (hd : y.cls = C ∧ y.cls ≠ "java/lang/invoke/MethodHandle" ∧ y.cls ≠ "java/lang/invoke/VarHandle" ∧ (parseMethodDescriptor y.desc).map (fun d => d.parameters.length) = some n) (hR : rm.frames + 1 ≤ R.frames ∧ 8 + (maxL + 11) + rm.locals ≤ R.locals) :
    vx_CVW R s args own C index y bytes maxL ret hh ws rm mc ms n := by
  obtain ⟨hC, hd⟩ := hd
  subst hC
  have ok : ∀ w ∈ wsV own index y.cls y ws, w.before args s = true := fun w h => ht w (hT w h).1
  have hG : GoodIn Ts ws := fun w h => hT w (by unfold wsV; exact List.mem_append_right _ h)
  have hc : Cond.codeWith y bytes maxL ret hh ∈ ws := by rw [hw]; exact List.mem_cons_self
  refine ⟨⟨hrc, hrs, hR.1, hR.2, pay_in ht hG, hc⟩, ht _ (hG _ hc).1, ok _ (by simp [wsV]), ⟨hd.1, hd.2.1⟩, fun sig h => ?_, ok _ (by simp [wsV]), ok _ (by simp [wsV]), ok _ (by simp [wsV])⟩
  have h2 := hd.2.2
  rw [h] at h2
  exact (Option.some.inj h2).symm
theorem vx_runVW {y : MethodName} {bytes cc : ByteArray} {maxL nL mc ms n index : Nat} {ret : Option FieldType} {hh : List (Nat × Nat × Nat × Nat)} {ws : List Cond} {rm : Room} {Pc : Array Value → State → Prop} {Qc : Array Value → State → Outcome → State → Prop} {free : Addr → Prop} {Ts : List Cond} {own C : String} {b : Addr} {As rest : List Value} {g : JFrame}
    (S : CallFix p m c cc nL s args Ts own) (hM : Met l y ws rm Pc Qc mc ms free) (cw : vx_CVW R s args own C index y bytes maxL ret hh ws rm mc ms n) (hp : PreV s H C b Pc As)
    (hg : g.method = m) (hn : As.length = n) (hsize : g.locals.size = nL) (hstack : g.stack = As.reverse ++ .ref b :: rest) (hW : 2 * g.monitorRoom + (rest.map fun v => v.category).sum ≤ 8) (hdg : decode cc g.pc = .ok (.invokevirtual index, 3)) (hf : cells + mc ≤ R.cells ∧ slots + ms ≤ R.slots) :
    va_Run p l e R s m args below meth c H locs cells slots mc ms g rest (Qc (Value.ref b :: As).toArray) free := by
  obtain ⟨⟨hrc, hrs, hfr, hlo, hws, hcw⟩, hcode, hini, hy, hlen, hl, hin, hse⟩ := cw
  have hK : Back l R p e below s args y 3 8 (PreOf R mc ms Pc) (PostOf Qc mc ms free) := va_backW (hh := hh) (bytes := bytes) (maxL := maxL) (ret := ret) hM hp.1 hrc hrs hfr hlo hws hcw (fun a' U hW => word_at hW (Or.inl (by first | rfl | simp [Cond.onTables, Cond.keeps, Cond.steady])) hini)
  obtain ⟨hx, hb, hml, ho, -⟩ := S
  obtain ⟨-, ⟨cellB, hcB, hoB, hclB⟩, hPc⟩ := hp
  intro T hT X
  obtain ⟨v, vm₁, ⟨U', l2, c2, s2⟩, hW₁, X', ⟨g', mk, t, L, e1, e2, hq, h1, hL, h2, h3⟩, st⟩ := vx_callVW X hx (C := C) (hh := hh) (bytes := bytes) (maxL := maxL) (ret := ret) ho hl hin hse hcode hy hK (by rw [hT]; exact hcB) hoB hclB hg (hsize.trans hml.symm) (argsL := As) (rest := rest) (fun sig h => hn.trans (hlen sig h)) hstack hW (by rw [hb]; exact hdg)
    (fun vm₁ hW₁ => ⟨hf.1, hf.2, hPc (T.setVm vm₁) hT hW₁⟩)
  dsimp only [Pt.U, Pt.locs, Pt.cells, Pt.slots] at X' e1 e2 h1 h2 h3 st
  subst h1; subst h2; subst h3
  exact ⟨v, (T.setVm vm₁).calling g' mk (Value.ref b :: As).toArray, t, U', L, hT, X', hL, e1, e2, hq, st⟩
section
variable {y : MethodName} {bytes cc : ByteArray} {maxL nL mc ms n index : Nat} {ret : Option FieldType} {ws : List Cond} {rm : Room} {Pc : Array Value → State → Prop} {Qc : Array Value → State → Outcome → State → Prop} {XC : String → State → State → Prop} {free : Addr → Prop} {Ts : List Cond} {own C : String} {b : Addr} {As rest : List Value} {g : JFrame}
theorem vx_runVX {hh : List (Nat × Nat × Nat × Nat)} (S : CallFix p m c cc nL s args Ts own) (hM : vx_Met l y ws rm Pc Qc XC mc ms free) (cw : vx_CVW R s args own C index y bytes maxL ret hh ws rm mc ms n) (hp : PreV s H C b Pc As)
    (hg : g.method = m) (hn : As.length = n) (hsize : g.locals.size = nL) (hstack : g.stack = As.reverse ++ .ref b :: rest) (hW : 2 * g.monitorRoom + (rest.map fun v => v.category).sum ≤ 8) (hdg : decode cc g.pc = .ok (.invokevirtual index, 3)) (hf : cells + mc ≤ R.cells ∧ slots + ms ≤ R.slots) :
    vx_Run p l e R s m args below meth c H locs cells slots mc ms g rest (Qc (Value.ref b :: As).toArray) XC free := by
  obtain ⟨⟨hrc, hrs, hfr, hlo, hws, hcw⟩, hcode, hini, hy, hlen, hl, hin, hse⟩ := cw
  have hK : vx_Back l R p e below s args y 3 8 (PreOf R mc ms Pc) (PostOf Qc mc ms free) (vx_Post XC mc ms free) := vx_backW (hh := hh) (bytes := bytes) (maxL := maxL) (ret := ret) hM hp.1 hrc hrs hfr hlo hws hcw (fun a' U hW => word_at hW (Or.inl (by first | rfl | simp [Cond.onTables, Cond.keeps, Cond.steady])) hini)
  obtain ⟨hx, hb, hml, ho, -⟩ := S
  obtain ⟨-, ⟨cellB, hcB, hoB, hclB⟩, hPc⟩ := hp
  intro T hT X
  rcases vx_callVX X hx (C := C) (hh := hh) (bytes := bytes) (maxL := maxL) (ret := ret) ho hl hin hse hcode hy hK (by rw [hT]; exact hcB) hoB hclB hg (hsize.trans hml.symm) (argsL := As) (rest := rest) (fun sig h => hn.trans (hlen sig h)) hstack hW (by rw [hb]; exact hdg)
    (fun vm₁ hW₁ => ⟨hf.1, hf.2, hPc (T.setVm vm₁) hT hW₁⟩) with ⟨v, vm₁, ⟨U', l2, c2, s2⟩, hW₁, X', ⟨g', mk, t, L, e1, e2, hq, h1, hL, h2, h3⟩, st⟩ | ⟨q, vm₁, ⟨U', l2, c2, s2⟩, hW₁, X', ⟨g', mk, t, L, E, ce, e1, e2, hq, hce, hcv, hcl, h1, hL, h2, h3⟩, st⟩
  · dsimp only [Pt.U, Pt.locs, Pt.cells, Pt.slots] at X' e1 e2 h1 h2 h3 st
    subst h1; subst h2; subst h3
    exact Or.inl ⟨v, (T.setVm vm₁).calling g' mk (Value.ref b :: As).toArray, t, U', L, hT, X', hL, e1, e2, hq, st⟩
  · dsimp only [Pt.U, Pt.locs, Pt.cells, Pt.slots] at X' e1 e2 h1 h2 h3 st hcl
    subst h1; subst h2; subst h3
    exact Or.inr ⟨q, (T.setVm vm₁).calling g' mk (Value.ref b :: As).toArray, t, U', L, E, ce, hT, X', hL, e1, e2, hq, hce, hcv, vx_cls hW₁ hcl, st⟩
theorem vx_runSX {hh : List (Nat × Nat × Nat × Nat)} (S : CallFix p m c cc nL s args Ts own) (hM : vx_Met l y ws rm Pc Qc XC mc ms free) (cw : vx_CSW R s args own index y bytes maxL ret hh ws rm mc ms n) (hp : PreS s H Pc As)
    (hg : g.method = m) (hn : As.length = n) (hsize : g.locals.size = nL) (hstack : g.stack = As.reverse ++ rest) (hW : 2 * g.monitorRoom + (rest.map fun v => v.category).sum ≤ 8) (hdg : decode cc g.pc = .ok (.invokestatic index, 3)) (hf : cells + mc ≤ R.cells ∧ slots + ms ≤ R.slots) :
    vx_Run p l e R s m args below meth c H locs cells slots mc ms g rest (Qc As.toArray) XC free := by
  obtain ⟨⟨hrc, hrs, hfr, hlo, hws, hcw⟩, hcode, hini, hy, hlen, hl, hstt⟩ := cw
  have hK : vx_Back l R p e below s args y 3 8 (PreOf R mc ms Pc) (PostOf Qc mc ms free) (vx_Post XC mc ms free) := vx_backW (hh := hh) (bytes := bytes) (maxL := maxL) (ret := ret) hM hp.1 hrc hrs hfr hlo hws hcw (fun a' U hW => word_at hW (Or.inl (by first | rfl | simp [Cond.onTables, Cond.keeps, Cond.steady])) hini)
  obtain ⟨hx, hb, hml, ho, -⟩ := S
  intro T hT X
  rcases vx_callSX X hx (hh := hh) (bytes := bytes) (maxL := maxL) (ret := ret) ho hl hstt hini hcode hy hK hg (hsize.trans hml.symm) (argsL := As) (rest := rest) (fun sig h => hn.trans (hlen sig h)) hstack hW (by rw [hb]; exact hdg)
    (fun vm₁ hW₁ => ⟨hf.1, hf.2, hp.2 (T.setVm vm₁) hT hW₁⟩) with ⟨v, vm₁, ⟨U', l2, c2, s2⟩, hW₁, X', ⟨g', mk, t, L, e1, e2, hq, h1, hL, h2, h3⟩, st⟩ | ⟨q, vm₁, ⟨U', l2, c2, s2⟩, hW₁, X', ⟨g', mk, t, L, E, ce, e1, e2, hq, hce, hcv, hcl, h1, hL, h2, h3⟩, st⟩
  · dsimp only [Pt.U, Pt.locs, Pt.cells, Pt.slots] at X' e1 e2 h1 h2 h3 st
    subst h1; subst h2; subst h3
    exact Or.inl ⟨v, (T.setVm vm₁).calling g' mk As.toArray, t, U', L, hT, X', hL, e1, e2, hq, st⟩
  · dsimp only [Pt.U, Pt.locs, Pt.cells, Pt.slots] at X' e1 e2 h1 h2 h3 st hcl
    subst h1; subst h2; subst h3
    exact Or.inr ⟨q, (T.setVm vm₁).calling g' mk As.toArray, t, U', L, E, ce, hT, X', hL, e1, e2, hq, hce, hcv, vx_cls hW₁ hcl, st⟩
end
end VXH
theorem vx_ofWH {l : Launch} {y : MethodName} {ws ws' : List Cond} {rm : Room} {Pc : Array Value → State → Prop} {Qc : Array Value → State → Outcome → State → Prop} {XC : String → State → State → Prop} {mc ms : Nat} {free : Addr → Prop} {cc : ByteArray} {maxL : Nat} {ret : Option FieldType} {hh : List (Nat × Nat × Nat × Nat)}
    (hy : plainName y.cls = true) (hw : ws = Cond.codeWith y cc maxL ret hh :: ws')
    (body : ∀ p e s m args below meth c s₁, BodyLoose p l y (headSpec ws rm) cc maxL ret e s m args below meth c s₁ → c.maxLocals = maxL → Pc args s →
      W p l e (headSpec ws rm).room s m args below meth c s.heap [] 0 0 (vx_MQ below Qc XC args s mc ms free) (entryFrame m args maxL)) : vx_Met l y ws rm Pc Qc XC mc ms free := by
  refine MetFree.of_bodyS (code := cc) (maxLocals := maxL) (ret := ret) hy ?_ ?_
  · intro args s m h hn
    obtain ⟨m9, meth, c, hn9, h1, h2, h3, h4, -, h5, h6, -⟩ := Cond.codeWith_spec (atoms_spec (ws := ws) h _ (by rw [hw]; exact List.mem_cons_self))
    cases hn.symm.trans hn9
    exact ⟨meth, c, h1, h2, h3, h4, h5, h6⟩
  · intro p e s m args below meth c s₁ B hml hP _
    have hh0 : s₁.heap = s.heap := by rw [B.state]; rfl
    obtain ⟨t, a1, o, b1, b2, b3⟩ := body p e s m args below meth c s₁ B hml hP s₁ hh0 (Stand.of_body B)
    exact ⟨t, o, a1, b1, b2, b3⟩
/-! ===== END ===== -/
end
section
/-! the world: virtual cells (tag, number); a memory of ints by tag, number, slot; what the real heap holds for it -/
abbrev zkV : Type := Int ⊕ ((Nat × Nat) ⊕ Value)
abbrev vi (x : Int) : zkV := Sum.inl x
abbrev vr (t i : Nat) : zkV := Sum.inr (Sum.inl (t, i))
abbrev vv (v : Value) : zkV := Sum.inr (Sum.inr v)
abbrev vl (x : Int) : zkV := Sum.inr (Sum.inr (Value.long (Int64.ofInt x)))
abbrev vd (x : UInt64) : zkV := Sum.inr (Sum.inr (Value.double x))
abbrev vf (x : UInt32) : zkV := Sum.inr (Sum.inr (Value.float x))
abbrev zkM : Type := Nat → Nat → Nat → Int
def mset (m : zkM) (t i k : Nat) (x : Int) : zkM := fun t' i' k' => if t' = t ∧ i' = i ∧ k' = k then x else m t' i' k'
/-- a whole row is replaced -/
def mrow (m : zkM) (t i : Nat) (f : Nat → Int) : zkM := fun t' i' k' => if t' = t ∧ i' = i then f k' else m t' i' k'
/-- classes' numbers, slots' numbers, array classes, addresses -/
abbrev zkG : Type := (Nat → ClassId) × (Nat → Nat → Nat) × (Nat → ClassId) × (Nat × Nat → Nat)
abbrev gD (G : zkG) : va_G := (G.1, G.2.1)
abbrev gA (G : zkG) : Nat → ClassId := G.2.2.1
abbrev ga (G : zkG) : Nat × Nat → Nat := G.2.2.2
def tau (G : zkG) (v : zkV) : Value := match v with
  | Sum.inl x => .int (Int32.ofInt x)
  | Sum.inr (Sum.inl q) => .ref (ga G q)
  | Sum.inr (Sum.inr w) => w
def catV (v : zkV) : Nat := match v with
  | Sum.inl _ => 1
  | Sum.inr (Sum.inl _) => 1
  | Sum.inr (Sum.inr w) => w.category
theorem catV_eq (G : zkG) (v : zkV) : (tau G v).category = catV v := by
  rcases v with x | q | w <;> rfl
/-- how many cells of a tag there are -/
def cnt (t : Nat) : Nat := match t with
  | 0 => 2 | 1 => 10 | 2 => 1 | 3 => 2 | 4 => 2 | 5 => 10 | 6 => 1 | 7 => 1
  | 10 => 2 | 11 => 2 | 12 => 2 | 13 => 2 | 14 => 2 | 15 => 2 | 16 => 2 | 17 => 2 | 18 => 2
  | 19 => 10 | 20 => 10 | 21 => 10 | 22 => 10 | 23 => 1 | 24 => 1
  | 30 => 1 | 31 => 1 | 32 => 1 | 33 => 1 | 34 => 1 | 35 => 1 | 36 => 1 | 37 => 1 | 38 => 1 | 39 => 1
  | 40 => 1 | 41 => 1 | 42 => 1 | 43 => 1 | 44 => 1 | 45 => 1 | 46 => 1 | 50 => 1 | 51 => 1
  | _ => 0
theorem cnt_lt {t i : Nat} (h : i < cnt t) : t < 52 := by
  unfold cnt at h
  split at h <;> omega
/-- how many fields an object of a tag has -/
def nfl (t : Nat) : Nat := match t with
  | 0 => 8 | 1 => 3 | 2 => 5 | 3 => 5 | 4 => 11 | 5 => 15 | 6 => 5 | 7 => 38 | _ => 0
/-- the cell that a field holds, if it holds one -/
def rfo (t i k : Nat) : Option (Nat × Nat) := match t, k with
  | 0, 0 => some (10, i) | 0, 1 => some (4, i) | 0, 2 => some (3, i) | 0, 3 => some (17, i) | 0, 4 => some (18, i)
  | 1, 0 => some (21, i)
  | 2, 0 => some (23, i) | 2, 1 => some (24, i)
  | 3, 0 => some (13, i) | 3, 1 => some (14, i) | 3, 2 => some (15, i) | 3, 3 => some (16, i)
  | 4, 0 => some (11, i) | 4, 1 => some (12, i)
  | 5, 0 => some (19, i) | 5, 1 => some (20, i) | 5, 2 => some (1, i) | 5, 3 => some (22, i)
  | 6, 0 => some (0, 0) | 6, 1 => some (0, 1) | 6, 2 => some (2, 0)
  | 7, 3 => some (30, i) | 7, 4 => some (31, i) | 7, 5 => some (32, i) | 7, 10 => some (33, i) | 7, 12 => some (34, i) | 7, 13 => some (35, i)
  | 7, 14 => some (36, i) | 7, 15 => some (37, i) | 7, 16 => some (38, i) | 7, 17 => some (39, i) | 7, 18 => some (40, i)
  | 7, 23 => some (41, i) | 7, 24 => some (42, i) | 7, 25 => some (43, i) | 7, 27 => some (44, i) | 7, 33 => some (45, i) | 7, 35 => some (46, i)
  | _, _ => none
/-- an array's length, and its kind: 0 int, 1 char, 2 Task, 3 long, 4 double -/
def aln (t : Nat) : Nat := match t with
  | 10 => 5 | 11 => 9 | 12 => 9 | 13 => 12 | 14 => 12 | 15 => 12 | 16 => 12 | 17 => 4 | 18 => 400
  | 19 => 6 | 20 => 6 | 21 => 400 | 22 => 6 | 23 => 60 | 24 => 4
  | 30 => 20 | 31 => 5 | 32 => 60 | 33 => 24 | 34 => 400 | 35 => 2005 | 36 => 5 | 37 => 5 | 38 => 5 | 39 => 30
  | 40 => 5 | 41 => 12 | 42 => 12 | 43 => 800 | 44 => 60 | 45 => 4 | 46 => 3600 | 50 => 1 | 51 => 1
  | _ => 0
def akd (t : Nat) : Nat := match t with
  | 10 => 2 | 23 => 1 | 44 => 1 | 50 => 3 | 51 => 4 | _ => 0
def zkF (G : zkG) (m : zkM) (t i k : Nat) : Value := match rfo t i k with
  | some q => .ref (ga G q)
  | none => .int (Int32.ofInt (m t i k))
def zkE (G : zkG) (m : zkM) (q : Nat × Nat) : va_E :=
  if q.1 < 8 then Sum.inr (q.1, (List.range (nfl q.1)).map (fun k => zkF G m q.1 q.2 k))
  else Sum.inl (gA G (akd q.1), (aln q.1, match akd q.1 with
    | 2 => Sum.inr (Sum.inr (Sum.inr (Sum.inr (fun j => some (ga G (5, 5 * q.2 + j))))))
    | 3 => Sum.inr (Sum.inl (fun j => Int64.ofInt (m q.1 q.2 j)))
    | 4 => Sum.inr (Sum.inr (Sum.inr (Sum.inl (fun j => UInt64.ofNat (m q.1 q.2 j).toNat))))
    | _ => Sum.inl (fun j => Int32.ofInt (m q.1 q.2 j))))
def zkL : List (Nat × Nat) := (List.range 52).flatMap (fun t => (List.range (cnt t)).map (fun i => (t, i)))
theorem zkL_mem {t i : Nat} (h : i < cnt t) : (t, i) ∈ zkL :=
  List.mem_flatMap.mpr ⟨t, List.mem_range.mpr (cnt_lt h), List.mem_map.mpr ⟨i, List.mem_range.mpr h, rfl⟩⟩
theorem zkL_nd : zkL.Nodup := by decide +kernel
def wl (G : zkG) (m : zkM) : va_W := zkL.map (fun q => (ga G q, zkE G m q))
theorem wl_at (G : zkG) (m : zkM) {t i : Nat} (h : i < cnt t) : ∃ k : Nat, zkL[k]? = some (t, i) ∧ (wl G m)[k]? = some (ga G (t, i), zkE G m (t, i)) := by
  obtain ⟨k, hk⟩ := List.getElem?_of_mem (zkL_mem h)
  exact ⟨k, hk, by unfold wl; rw [List.getElem?_map, hk]; rfl⟩
/-- the cells may be told apart -/
def zkJ (G : zkG) : Prop := ∀ u ∈ zkL, ∀ v ∈ zkL, ga G u = ga G v → u = v
/-- which real cells may change: the world's, and new ones -/
def zkA (G : zkG) (sz : Nat) : Nat → Prop := fun q => (∃ v ∈ zkL, q = ga G v) ∨ sz ≤ q
theorem zkA_in {G : zkG} {sz t i : Nat} (h : i < cnt t) : zkA G sz (ga G (t, i)) := Or.inl ⟨_, zkL_mem h, rfl⟩
theorem zkA_mono {G : zkG} {a b : Nat} (h : a ≤ b) : ∀ q, zkA G b q → zkA G a q := fun q hq => hq.elim Or.inl (fun h2 => Or.inr (Nat.le_trans h h2))
theorem wl_D {G : zkG} (hJ : zkJ G) (m : zkM) (sz : Nat) : va_D (zkA G sz) (wl G m) := by
  have key : ∀ (k : Nat) (p : Nat × va_E), (wl G m)[k]? = some p → ∃ u, zkL[k]? = some u ∧ p.1 = ga G u := by
    intro k p hp
    unfold wl at hp
    rw [List.getElem?_map] at hp
    cases hu : zkL[k]? with
    | none => rw [hu] at hp; cases hp
    | some u => rw [hu] at hp; cases hp; exact ⟨u, rfl, rfl⟩
  refine ⟨fun i j p q hp hq e => ?_, fun k q hq => ?_⟩
  · obtain ⟨u, hu, eu⟩ := key i p hp
    obtain ⟨v, hv, ev⟩ := key j q hq
    have huv : u = v := hJ u (List.mem_of_getElem? hu) v (List.mem_of_getElem? hv) (by rw [← eu, ← ev]; exact e)
    subst huv
    have h1 := (List.getElem?_eq_some_iff.mp hu).1
    exact (List.getElem?_inj h1 zkL_nd).mp (hu.trans hv.symm)
  · obtain ⟨u, hu, eu⟩ := key k q hq
    exact Or.inl ⟨u, List.mem_of_getElem? hu, eu⟩
/-- one cell of the world is written -/
theorem wl_set {G : zkG} {m m' : zkM} {k t i : Nat} (hk : zkL[k]? = some (t, i)) (ho : ∀ u ∈ zkL, u ≠ (t, i) → zkE G m' u = zkE G m u) : (wl G m).set k (ga G (t, i), zkE G m' (t, i)) = wl G m' := by
  apply List.ext_getElem?
  intro j
  unfold wl
  rw [List.getElem?_set]
  by_cases hj : k = j
  · subst hj
    have h1 := (List.getElem?_eq_some_iff.mp hk).1
    rw [if_pos rfl, List.length_map, if_pos h1, List.getElem?_map, hk]
    rfl
  · rw [if_neg hj, List.getElem?_map, List.getElem?_map]
    cases hu : zkL[j]? with
    | none => rfl
    | some u =>
      have hne : u ≠ (t, i) := fun e => by
        subst e
        have h1 := (List.getElem?_eq_some_iff.mp hk).1
        exact hj ((List.getElem?_inj h1 zkL_nd).mp (hk.trans hu.symm))
      show some (ga G u, zkE G m u) = some (ga G u, zkE G m' u)
      rw [ho u (List.mem_of_getElem? hu) hne]
theorem zkE_off {G : zkG} {m m' : zkM} {u : Nat × Nat} (h : ∀ k, m' u.1 u.2 k = m u.1 u.2 k) : zkE G m' u = zkE G m u := by
  have h2 : m' u.1 u.2 = m u.1 u.2 := funext h
  unfold zkE
  simp only [zkF, h2]
theorem mset_s {m : zkM} {t i k : Nat} {x : Int} : mset m t i k x t i k = x := by simp [mset]
theorem mset_off {m : zkM} {t i k : Nat} {x : Int} {u : Nat × Nat} (h : u ≠ (t, i)) (j : Nat) : mset m t i k x u.1 u.2 j = m u.1 u.2 j := by
  unfold mset
  rw [if_neg]
  rintro ⟨h1, h2, -⟩
  exact h (Prod.ext h1 h2)
theorem mrow_off {m : zkM} {t i : Nat} {f : Nat → Int} {u : Nat × Nat} (h : u ≠ (t, i)) (j : Nat) : mrow m t i f u.1 u.2 j = m u.1 u.2 j := by
  unfold mrow
  rw [if_neg]
  rintro ⟨h1, h2⟩
  exact h (Prod.ext h1 h2)
abbrev zkTy (G : zkG) : List (ClassId × FieldType) := [(gA G 0, .int), (gA G 1, .char), (gA G 2, .object "CeilingWorkbench$Task"), (gA G 3, .long), (gA G 4, .double)]
abbrev zkCl : List vw_C := [(RX1, TX1, 8), (RX2, TX2, 3), (RX3, TX3, 5), (RX4, TX4, 5), (RX5, TX5, 11), (RX6, TX6, 15), (RX7, TX7, 5), (RX8, TX8, 38)]
/-- the classes' names, by their numbers -/
def zkR (o : Nat) : String := match o with
  | 0 => RX1 | 1 => RX2 | 2 => RX3 | 3 => RX4 | 4 => RX5 | 5 => RX6 | 6 => RX7 | 7 => RX8 | 8 => RX0 | _ => RL
def zkT (o : Nat) : u_T := match o with
  | 0 => TX1 | 1 => TX2 | 2 => TX3 | 3 => TX4 | 4 => TX5 | 5 => TX6 | 6 => TX7 | _ => TX8
def zkty (o : Nat) : Nat → FieldType := match o with
  | 0 => tyX1 | 1 => tyX2 | 2 => tyX3 | 3 => tyX4 | 4 => tyX5 | 5 => tyX6 | 6 => tyX7 | _ => tyX8
theorem zkCl_at {t : Nat} (h : t < 8) : zkCl[t]? = some (zkR t, zkT t, nfl t) := by
  rcases (show t = 0 ∨ t = 1 ∨ t = 2 ∨ t = 3 ∨ t = 4 ∨ t = 5 ∨ t = 6 ∨ t = 7 by omega) with rfl | rfl | rfl | rfl | rfl | rfl | rfl | rfl <;> rfl
theorem zkTy_ok {t : Nat} (h : t < 8) : ∀ k, k < nfl t → parseFieldDescriptor (zkT t k).2.2.1 = some (zkty t k) := by
  rcases (show t = 0 ∨ t = 1 ∨ t = 2 ∨ t = 3 ∨ t = 4 ∨ t = 5 ∨ t = 6 ∨ t = 7 by omega) with rfl | rfl | rfl | rfl | rfl | rfl | rfl | rfl
  · exact tyX1_ok
  · exact tyX2_ok
  · exact tyX3_ok
  · exact tyX4_ok
  · exact tyX5_ok
  · exact tyX6_ok
  · exact tyX7_ok
  · exact tyX8_ok
theorem zkNm {t : Nat} (h : t < 8) : ∀ a, a < nfl t → ∀ b, b < nfl t → a ≠ b → (zkT t a).2.1 ≠ (zkT t b).2.1 := by
  rcases (show t = 0 ∨ t = 1 ∨ t = 2 ∨ t = 3 ∨ t = 4 ∨ t = 5 ∨ t = 6 ∨ t = 7 by omega) with rfl | rfl | rfl | rfl | rfl | rfl | rfl | rfl
  · exact nmX1
  · exact nmX2
  · exact nmX3
  · exact nmX4
  · exact nmX5
  · exact nmX6
  · exact nmX7
  · exact nmX8
theorem nfl_pos {t k : Nat} (h : k < nfl t) : t < 8 := by
  unfold nfl at h
  split at h <;> omega
/-- the words that a callee may take over, and those on nest mates -/
def zkGw : List Cond := lw_tbl.filter goodWord
def zkNest (w : Cond) : Bool := match w with
  | .fieldLinkNest .. => true
  | .methodLinkNest .. => true
  | .declares .. => true
  | _ => false
def zkNw : List Cond := lw_tbl.filter zkNest
theorem zkGw_in {w : Cond} (i : Nat) (h : lw_tbl[i]? = some w) (hg : goodWord w = true) : w ∈ zkGw := List.mem_filter.mpr ⟨List.mem_of_getElem? h, hg⟩
theorem zkNw_in {w : Cond} (i : Nat) (h : lw_tbl[i]? = some w) (hg : zkNest w = true) : w ∈ zkNw := List.mem_filter.mpr ⟨List.mem_of_getElem? h, hg⟩
theorem zkGw_good : GoodIn zkGw zkGw := fun w h => ⟨h, good_of_word (List.mem_filter.mp h).2⟩
end
section
/-- the texts of the exceptions; the patterns (with their numbers), their lengths and signs -/
def zkSc : List (String × Nat × String) := [(RX7, 249, "there is no such task"), (RX7, 251, "a number is out of range"), (RX7, 253, "this cannot be added now"), (RX7, 257, "the priority is taken"), (RX7, 62, "the code is not from 32 to 126"), (RX7, 73, "the buffer is full"), (RX7, 86, "the text is malformed"), (RX7, 91, "the command is refused"), (RX7, 95, "no text was malformed"), (RX7, 105, "there is no such property"), (RX7, 262, "there is no such resource"), (RX7, 275, "the task has no segments"), (RX7, 260, "there is no such time"), (RX7, 148, "the number of units is out of range"), (RX7, 153, "the clock would become too great"), (RX7, 163, "the unit has not been made"), (RX7, 181, "there is no unfinished job"), (RX7, 190, "there is no such result"), (RX7, 197, "no job is finished"), (RX7, 284, "there is no server"), (RX7, 224, "there is no such request"), (RX7, 229, "the request is not finished"), (RX7, 231, "no unit has been made"), (RX7, 244, "there is no snapshot")]
def zkPt : List (String × Nat × String × Nat) := [(RX3, 45, "task # # # #", 0), (RX3, 47, "server # # #", 1), (RX3, 49, "request # #", 2), (RX3, 51, "segment # # #", 3), (RX3, 53, "segment # none #", 4), (RX3, 55, "policy continue", 5), (RX3, 57, "policy abort", 6), (RX3, 59, "policy skip", 7), (RX3, 61, "", 8)]
def zkLn : List Nat := [12, 12, 11, 13, 16, 15, 12, 11, 0]
def zkBy : List (List Int32) := [[116, 97, 115, 107, 32, 35, 32, 35, 32, 35, 32, 35], [115, 101, 114, 118, 101, 114, 32, 35, 32, 35, 32, 35], [114, 101, 113, 117, 101, 115, 116, 32, 35, 32, 35], [115, 101, 103, 109, 101, 110, 116, 32, 35, 32, 35, 32, 35], [115, 101, 103, 109, 101, 110, 116, 32, 35, 32, 110, 111, 110, 101, 32, 35], [112, 111, 108, 105, 99, 121, 32, 99, 111, 110, 116, 105, 110, 117, 101], [112, 111, 108, 105, 99, 121, 32, 97, 98, 111, 114, 116], [112, 111, 108, 105, 99, 121, 32, 115, 107, 105, 112], []]
def zkEx : List String := ["java/lang/IndexOutOfBoundsException", "java/lang/IllegalArgumentException", "java/lang/IllegalStateException", "java/lang/UnsupportedOperationException", "java/util/NoSuchElementException", "java/lang/ArithmeticException"]
/-- no two of the six exceptions are of one another's kind -/
def zkNc (s : State) : Prop := ∀ a ∈ zkEx, ∀ b ∈ zkEx, a ≠ b → va_Nc a b s
def zkCs (s : State) : Prop := ∀ a ∈ zkEx, ∃ c t : ClassId, s.vm.findClass a = some c ∧ s.vm.findClass a = some t ∧ s.vm.assignable c t = true
theorem zkCs_use {s : State} (h : zkCs s) {a : String} (ha : a ∈ zkEx) (args : Array Value) : (Cond.castable a a).before args s = true := by
  obtain ⟨c, t, h1, h2, h3⟩ := h a ha
  cases Option.some.inj (h1.symm.trans h2)
  simp [Cond.before, Cond.holds, Cond.value, h1, h3]
theorem zkCs_go {s U : State} (hvm : s.vm.Alike U.vm) (h : zkCs s) : zkCs U := by
  intro a ha
  obtain ⟨c, t, h1, h2, h3⟩ := h a ha
  exact ⟨c, t, by rw [hvm.findClass]; exact h1, by rw [hvm.findClass]; exact h2, by rw [hvm.assignable]; exact h3⟩
/-! the judgement: a method stands at pc, with these locals, this stack, this memory, and comes to its end -/
/-- a method: name, code, locals, return type, own class, its instructions (pc, instruction, next pc), its handlers -/
abbrev zkI : Type := MethodName × ByteArray × Nat × Option FieldType × Nat × List (Nat × Instr × Nat) × List (Nat × Nat × Nat × Nat)
abbrev iY (i : zkI) : MethodName := i.1
abbrev iC (i : zkI) : ByteArray := i.2.1
abbrev iL (i : zkI) : Nat := i.2.2.1
abbrev iR (i : zkI) : Option FieldType := i.2.2.2.1
abbrev iO (i : zkI) : Nat := i.2.2.2.2.1
abbrev iT (i : zkI) : List (Nat × Instr × Nat) := i.2.2.2.2.2.1
abbrev iH (i : zkI) : List (Nat × Nat × Nat × Nat) := i.2.2.2.2.2.2
/-- its table is its code's -/
def zkOk (i : zkI) : Prop := ∀ q ∈ iT i, decode (iC i) q.1 = .ok (q.2.1, q.2.2 - q.1)
def zkAt? (i : zkI) (pc : Nat) : Option (Instr × Nat) := (iT i).lookup pc
theorem zk_lk {α : Type} {pc : Nat} {y : α} : ∀ {l : List (Nat × α)}, l.lookup pc = some y → (pc, y) ∈ l
  | [], h => by cases h
  | (a, b) :: l, h => by
    unfold List.lookup at h
    split at h
    · next e => cases h; rw [eq_of_beq e]; exact List.mem_cons_self
    · exact List.mem_cons_of_mem _ (zk_lk h)
theorem zk_dec {i : zkI} {pc nx : Nat} {ins : Instr} {n : Nat} (hO : zkOk i) (h : (iT i).lookup pc = some (ins, nx)) (hn : nx = pc + n) : decode (iC i) pc = .ok (ins, n) := by
  have h1 : decode (iC i) pc = .ok (ins, nx - pc) := hO (pc, ins, nx) (zk_lk h)
  rw [h1, hn, Nat.add_sub_cancel_left]
/-- the locals: what the list names is held -/
def zkLv (G : zkG) (a : Array Slot) (n : Nat) (ls : List (Option zkV)) : Prop := a.size = n ∧ lv_wf a ∧ ∀ (i : Nat) (v : zkV), ls[i]? = some (some v) → a[i]? = some (.val (tau G v))
/-- what holds of the start of a method besides its memory: words on nest mates, classes, the four statics of throws, strings -/
def zkStr (G : zkG) (s : State) (sz : Nat) : Prop := (∀ q ∈ zkSc, ∃ sa : Nat, vk_R q.1 q.2.1 q.2.2 sa s) ∧ (∀ q ∈ zkPt, vk_R q.1 q.2.1 q.2.2.1 (ga G (60, q.2.2.2)) s) ∧ vk_S 9 zkLn zkBy (fun k => ga G (60, k)) (fun k => ga G (61, k)) (zkA G sz) s s.heap ∧ va_Z "java/lang/String" "COMPACT_STRINGS" "Z" (.int 1) (zkA G sz) s s.heap ∧ zkNc s ∧ zkCs s
def zkSF (G : zkG) (s : State) (sz : Nat) : Prop :=
  zkJ G ∧ (∀ w ∈ zkNw, va_Nw w s) ∧ va_K (gD G) zkCl (zkTy G) s ∧ vx_Zq Bundle.tN "UNASSIGNED_STACK" Bundle.steD (zkA G sz) s s.heap ∧ vx_Zq Bundle.tN "SUPPRESSED_SENTINEL" Bundle.listD (zkA G sz) s s.heap ∧ zkStr G s sz
/-- the way of a walk: its room, its end, what else is known at its start -/
abbrev zkK : Type := Room × (List Frame → Array Value → State → State → Prop) × (Array Value → State → Prop)
def zkC (l : Launch) (G : zkG) (i : zkI) (K : zkK) (p : Program) (s : State) (m : MethodId) (args : Array Value) (meth : Method) (c : Code) : Prop :=
  p.tables.exec = Jvm.exec ∧ c.code = iC i ∧ meth.sig.returnType = iR i ∧ c.maxLocals = iL i ∧ s.vm.findClass (zkR (iO i)) = some m.cls ∧ (∀ w ∈ zkGw, w.before args s = true) ∧ zkSF G s s.heap.size ∧ meth.locks = false ∧ c.exceptionTable.toList = tableOf (iH i) ∧ l.stackTraces = false ∧ zkOk i ∧ K.2.2 args s
def zkW (l : Launch) (G : zkG) (i : zkI) (K : zkK) (cu su pc : Nat) (ls : List (Option zkV)) (st : List zkV) (mem : zkM) : Prop :=
  ∀ (p : Program) (e : Env) (s : State) (m : MethodId) (args : Array Value) (below : List Frame) (meth : Method) (c : Code), zkC l G i K p s m args meth c → ∀ (H : Heap) (locs : List Loc) (a : Array Slot), va_P (gD G) zkCl (wl G mem) H → va_S (zkA G s.heap.size) s.heap H locs → zkLv G a (iL i) ls →
    W p l e K.1 s m args below meth c H locs cu su (K.2.1 below args s) (F0 m pc a (st.map (tau G)))
theorem zkC_dec {l : Launch} {G : zkG} {i : zkI} {K : zkK} {p : Program} {s : State} {m : MethodId} {args : Array Value} {meth : Method} {c : Code} (C : zkC l G i K p s m args meth c) {pc nx n : Nat} {ins : Instr} (h : (iT i).lookup pc = some (ins, nx)) (hn : nx = pc + n) : decode (iC i) pc = .ok (ins, n) := zk_dec C.2.2.2.2.2.2.2.2.2.2.1 h hn
/-- a value in range -/
def inR (x : Int) : Prop := -2147483648 ≤ x ∧ x < 2147483648
theorem i32_toInt {x : Int} (h : inR x) : (Int32.ofInt x).toInt = x := Int32.toInt_ofInt_of_le h.1 h.2
theorem i32_lt {x y : Int} (hx : inR x) (hy : inR y) : Int32.ofInt x < Int32.ofInt y ↔ x < y := by
  rw [Int32.lt_iff_toInt_lt, i32_toInt hx, i32_toInt hy]
theorem i32_le {x y : Int} (hx : inR x) (hy : inR y) : Int32.ofInt x ≤ Int32.ofInt y ↔ x ≤ y := by
  rw [Int32.le_iff_toInt_le, i32_toInt hx, i32_toInt hy]
theorem i32_eq {x y : Int} (hx : inR x) (hy : inR y) : Int32.ofInt x = Int32.ofInt y ↔ x = y := by
  rw [← Int32.toInt_inj, i32_toInt hx, i32_toInt hy]
theorem i32_0 : (0 : Int32) = Int32.ofInt 0 := by decide
theorem inR_0 : inR 0 := ⟨by decide, by decide⟩
end
section
/-! rows of one instruction over the judgement -/
section ZROWS
variable {l : Launch} {G : zkG} {i : zkI} {K : zkK} {cu su pc nx : Nat} {ls : List (Option zkV)} {st : List zkV} {mem : zkM}
theorem m_iconst {n : Int} (hd : (iT i).lookup pc = some (.iconst n, nx)) (hn : nx = pc + 1) (k : zkW l G i K cu su nx ls (vi n :: st) mem) : zkW l G i K cu su pc ls (st) mem := by
  intro p e s m args below meth c C H locs a hP hS hl
  subst hn
  exact lv_iconst C.1 C.2.1 (zkC_dec C hd rfl) rfl (k p e s m args below meth c C H locs a hP hS hl)
theorem m_bipush {n : Int} (hd : (iT i).lookup pc = some (.bipush n, nx)) (hn : nx = pc + 2) (hv : (Int8.ofInt n).toInt32 = Int32.ofInt n) (k : zkW l G i K cu su nx ls (vi n :: st) mem) : zkW l G i K cu su pc ls (st) mem := by
  intro p e s m args below meth c C H locs a hP hS hl
  subst hn
  exact lv_bipush C.1 C.2.1 (zkC_dec C hd rfl) hv (k p e s m args below meth c C H locs a hP hS hl)
theorem m_sipush {n : Int} (hd : (iT i).lookup pc = some (.sipush n, nx)) (hn : nx = pc + 3) (hv : (Int16.ofInt n).toInt32 = Int32.ofInt n) (k : zkW l G i K cu su nx ls (vi n :: st) mem) : zkW l G i K cu su pc ls (st) mem := by
  intro p e s m args below meth c C H locs a hP hS hl
  subst hn
  exact lv_sipush C.1 C.2.1 (zkC_dec C hd rfl) hv (k p e s m args below meth c C H locs a hP hS hl)
theorem m_lconst {n : Fin 2} {x : Int} (hd : (iT i).lookup pc = some (.lconst n, nx)) (hn : nx = pc + 1) (hv : Int64.ofNat (n : Nat) = Int64.ofInt x) (k : zkW l G i K cu su nx ls (vl x :: st) mem) : zkW l G i K cu su pc ls (st) mem := by
  intro p e s m args below meth c C H locs a hP hS hl
  subst hn
  exact lv_lconst C.1 C.2.1 (zkC_dec C hd rfl) hv (k p e s m args below meth c C H locs a hP hS hl)
theorem m_dconst0 (hd : (iT i).lookup pc = some (.dconst 0, nx)) (hn : nx = pc + 1) (k : zkW l G i K cu su nx ls (vd FP.dconst0 :: st) mem) : zkW l G i K cu su pc ls (st) mem := by
  intro p e s m args below meth c C H locs a hP hS hl
  subst hn
  exact lv_dconst0 C.1 C.2.1 (zkC_dec C hd rfl) (k p e s m args below meth c C H locs a hP hS hl)
theorem m_dconst1 (hd : (iT i).lookup pc = some (.dconst 1, nx)) (hn : nx = pc + 1) (k : zkW l G i K cu su nx ls (vd FP.dconst1 :: st) mem) : zkW l G i K cu su pc ls (st) mem := by
  intro p e s m args below meth c C H locs a hP hS hl
  subst hn
  exact lv_dconst1 C.1 C.2.1 (zkC_dec C hd rfl) (k p e s m args below meth c C H locs a hP hS hl)
theorem m_fconst0 (hd : (iT i).lookup pc = some (.fconst 0, nx)) (hn : nx = pc + 1) (k : zkW l G i K cu su nx ls (vf FP.fconst0 :: st) mem) : zkW l G i K cu su pc ls (st) mem := by
  intro p e s m args below meth c C H locs a hP hS hl
  subst hn
  exact lv_fconst0 C.1 C.2.1 (zkC_dec C hd rfl) (k p e s m args below meth c C H locs a hP hS hl)
theorem m_iload {n : Nat} {x : Int} (hd : (iT i).lookup pc = some (.iload n, nx)) (hn : nx = pc + 2) (hv : ls[n]? = some (some (vi x))) (k : zkW l G i K cu su nx ls (vi x :: st) mem) : zkW l G i K cu su pc ls (st) mem := by
  intro p e s m args below meth c C H locs a hP hS hl
  subst hn
  exact lv_iload C.1 C.2.1 (zkC_dec C hd rfl) (hl.2.2 n _ hv) (k p e s m args below meth c C H locs a hP hS hl)
theorem m_iload_n {n : Fin 4} {x : Int} (hd : (iT i).lookup pc = some (.iload_n n, nx)) (hn : nx = pc + 1) (hv : ls[(n : Nat)]? = some (some (vi x))) (k : zkW l G i K cu su nx ls (vi x :: st) mem) : zkW l G i K cu su pc ls (st) mem := by
  intro p e s m args below meth c C H locs a hP hS hl
  subst hn
  exact lv_iload_n C.1 C.2.1 (zkC_dec C hd rfl) rfl (hl.2.2 n _ hv) (k p e s m args below meth c C H locs a hP hS hl)
theorem m_aload {n : Nat} {t j : Nat} (hd : (iT i).lookup pc = some (.aload n, nx)) (hn : nx = pc + 2) (hv : ls[n]? = some (some (vr t j))) (k : zkW l G i K cu su nx ls (vr t j :: st) mem) : zkW l G i K cu su pc ls (st) mem := by
  intro p e s m args below meth c C H locs a hP hS hl
  subst hn
  exact lv_aload C.1 C.2.1 (zkC_dec C hd rfl) (hl.2.2 n _ hv) (k p e s m args below meth c C H locs a hP hS hl)
theorem m_aload_n {n : Fin 4} {t j : Nat} (hd : (iT i).lookup pc = some (.aload_n n, nx)) (hn : nx = pc + 1) (hv : ls[(n : Nat)]? = some (some (vr t j))) (k : zkW l G i K cu su nx ls (vr t j :: st) mem) : zkW l G i K cu su pc ls (st) mem := by
  intro p e s m args below meth c C H locs a hP hS hl
  subst hn
  exact lv_aload_n C.1 C.2.1 (zkC_dec C hd rfl) rfl (hl.2.2 n _ hv) (k p e s m args below meth c C H locs a hP hS hl)
theorem m_dload {n : Nat} {x : UInt64} (hd : (iT i).lookup pc = some (.dload n, nx)) (hn : nx = pc + 2) (hv : ls[n]? = some (some (vd x))) (k : zkW l G i K cu su nx ls (vd x :: st) mem) : zkW l G i K cu su pc ls (st) mem := by
  intro p e s m args below meth c C H locs a hP hS hl
  subst hn
  exact lv_dload C.1 C.2.1 (zkC_dec C hd rfl) (hl.2.2 n _ hv) (k p e s m args below meth c C H locs a hP hS hl)
theorem m_dload_n {n : Fin 4} {x : UInt64} (hd : (iT i).lookup pc = some (.dload_n n, nx)) (hn : nx = pc + 1) (hv : ls[(n : Nat)]? = some (some (vd x))) (k : zkW l G i K cu su nx ls (vd x :: st) mem) : zkW l G i K cu su pc ls (st) mem := by
  intro p e s m args below meth c C H locs a hP hS hl
  subst hn
  exact lv_dload_n C.1 C.2.1 (zkC_dec C hd rfl) rfl (hl.2.2 n _ hv) (k p e s m args below meth c C H locs a hP hS hl)
theorem m_fload {n : Nat} {x : UInt32} (hd : (iT i).lookup pc = some (.fload n, nx)) (hn : nx = pc + 2) (hv : ls[n]? = some (some (vf x))) (k : zkW l G i K cu su nx ls (vf x :: st) mem) : zkW l G i K cu su pc ls (st) mem := by
  intro p e s m args below meth c C H locs a hP hS hl
  subst hn
  exact lv_fload C.1 C.2.1 (zkC_dec C hd rfl) (hl.2.2 n _ hv) (k p e s m args below meth c C H locs a hP hS hl)
theorem m_fload_n {n : Fin 4} {x : UInt32} (hd : (iT i).lookup pc = some (.fload_n n, nx)) (hn : nx = pc + 1) (hv : ls[(n : Nat)]? = some (some (vf x))) (k : zkW l G i K cu su nx ls (vf x :: st) mem) : zkW l G i K cu su pc ls (st) mem := by
  intro p e s m args below meth c C H locs a hP hS hl
  subst hn
  exact lv_fload_n C.1 C.2.1 (zkC_dec C hd rfl) rfl (hl.2.2 n _ hv) (k p e s m args below meth c C H locs a hP hS hl)
theorem m_aload_v {n : Nat} {q : Nat} (hd : (iT i).lookup pc = some (.aload n, nx)) (hn : nx = pc + 2) (hv : ls[n]? = some (some (vv (.ref q)))) (k : zkW l G i K cu su nx ls (vv (.ref q) :: st) mem) : zkW l G i K cu su pc ls (st) mem := by
  intro p e s m args below meth c C H locs a hP hS hl
  subst hn
  exact lv_aload C.1 C.2.1 (zkC_dec C hd rfl) (hl.2.2 n _ hv) (k p e s m args below meth c C H locs a hP hS hl)
theorem m_aload_nv {n : Fin 4} {q : Nat} (hd : (iT i).lookup pc = some (.aload_n n, nx)) (hn : nx = pc + 1) (hv : ls[(n : Nat)]? = some (some (vv (.ref q)))) (k : zkW l G i K cu su nx ls (vv (.ref q) :: st) mem) : zkW l G i K cu su pc ls (st) mem := by
  intro p e s m args below meth c C H locs a hP hS hl
  subst hn
  exact lv_aload_n C.1 C.2.1 (zkC_dec C hd rfl) rfl (hl.2.2 n _ hv) (k p e s m args below meth c C H locs a hP hS hl)
/-- no long or double stands ahead of the place -/
def zkSt (ls : List (Option zkV)) (n : Nat) : Bool := match n with
  | 0 => true
  | j + 1 => match ls[j]? with
    | some (some v) => catV v == 1
    | _ => true
def zkAs (G : zkG) (ls : List (Option zkV)) : List (Nat × Value) := (List.range ls.length).filterMap (fun j => (ls[j]?.join).map (fun v => (j, tau G v)))
theorem zkAs_mem {G : zkG} {ls : List (Option zkV)} {j : Nat} {v : zkV} (h : ls[j]? = some (some v)) : (j, tau G v) ∈ zkAs G ls := by
  unfold zkAs
  refine List.mem_filterMap.mpr ⟨j, List.mem_range.mpr (List.getElem?_eq_some_iff.mp h).1, ?_⟩
  rw [h]
  rfl
theorem zkAs_has {G : zkG} {a : Array Slot} {n : Nat} {ls : List (Option zkV)} (h : zkLv G a n ls) : lv_has a n (zkAs G ls) := by
  refine ⟨h.1, h.2.1, fun q hq => ?_⟩
  obtain ⟨j, -, hj⟩ := List.mem_filterMap.mp hq
  cases hv : ls[j]? with
  | none => rw [hv] at hj; cases hj
  | some o =>
    cases o with
    | none => rw [hv] at hj; cases hj
    | some v =>
      rw [hv] at hj
      cases hj
      exact h.2.2 j v hv
theorem zkLv_st1 {G : zkG} {a a' : Array Slot} {n j : Nat} {ls : List (Option zkV)} {v : zkV} (h : zkLv G a n ls) (hj : j < n) (ho : zkSt ls j = true) (h' : lv_has a' n ((j, tau G v) :: (zkAs G ls).filter (fun q => !(q.1 == j) && !(q.1 + 1 == j && q.2.category == 2)))) : zkLv G a' n (ls.set j (some v)) := by
  refine ⟨h'.1, h'.2.1, fun x w hx => ?_⟩
  rw [List.getElem?_set] at hx
  by_cases e : j = x
  · subst e
    rw [if_pos rfl] at hx
    split at hx
    · cases hx
      exact h'.2.2 (j, tau G v) List.mem_cons_self
    · cases hx
  · rw [if_neg e] at hx
    refine h'.2.2 (x, tau G w) (List.mem_cons_of_mem _ (List.mem_filter.mpr ⟨zkAs_mem hx, ?_⟩))
    have h1 : (x == j) = false := beq_eq_false_iff_ne.mpr (fun q => e q.symm)
    simp only [h1, Bool.not_false, Bool.true_and, Bool.not_eq_true', Bool.and_eq_false_iff, catV_eq]
    by_cases e2 : x + 1 = j
    · refine Or.inr ?_
      subst e2
      unfold zkSt at ho
      simp only [hx] at ho
      rw [eq_of_beq ho]
      rfl
    · exact Or.inl (beq_eq_false_iff_ne.mpr e2)
theorem zkLv_st2 {G : zkG} {a a' : Array Slot} {n j : Nat} {ls : List (Option zkV)} {v : zkV} (h : zkLv G a n ls) (hj : j + 1 < n) (ho : zkSt ls j = true) (h' : lv_has a' n ((j, tau G v) :: (zkAs G ls).filter (fun q => !(q.1 == j) && (!(q.1 == j + 1) && !(q.1 + 1 == j && q.2.category == 2))))) : zkLv G a' n ((ls.set j (some v)).set (j + 1) none) := by
  refine ⟨h'.1, h'.2.1, fun x w hx => ?_⟩
  rw [List.getElem?_set] at hx
  by_cases e0 : j + 1 = x
  · rw [if_pos e0] at hx
    split at hx <;> cases hx
  · rw [if_neg e0, List.getElem?_set] at hx
    by_cases e : j = x
    · subst e
      rw [if_pos rfl] at hx
      split at hx
      · cases hx
        exact h'.2.2 (j, tau G v) List.mem_cons_self
      · cases hx
    · rw [if_neg e] at hx
      refine h'.2.2 (x, tau G w) (List.mem_cons_of_mem _ (List.mem_filter.mpr ⟨zkAs_mem hx, ?_⟩))
      have h1 : (x == j) = false := beq_eq_false_iff_ne.mpr (fun q => e q.symm)
      have h2 : (x == j + 1) = false := beq_eq_false_iff_ne.mpr (fun q => e0 q.symm)
      simp only [h1, h2, Bool.not_false, Bool.true_and, Bool.not_eq_true', Bool.and_eq_false_iff, catV_eq]
      by_cases e2 : x + 1 = j
      · refine Or.inr ?_
        subst e2
        unfold zkSt at ho
        simp only [hx] at ho
        rw [eq_of_beq ho]
        rfl
      · exact Or.inl (beq_eq_false_iff_ne.mpr e2)
theorem m_istore {n : Nat} {x : Int} (hd : (iT i).lookup pc = some (.istore n, nx)) (hn : nx = pc + 2) (hi : n < iL i) (ho : zkSt ls n = true) (k : zkW l G i K cu su nx (ls.set n (some (vi x))) st mem) : zkW l G i K cu su pc ls (vi x :: st) mem := by
  intro p e s m args below meth c C H locs a hP hS hl
  subst hn
  exact lv_istore C.1 C.2.1 (zkC_dec C hd rfl) (zkAs_has hl) hi rfl (fun a' h' => k p e s m args below meth c C H locs a' hP hS (zkLv_st1 hl hi ho h'))
theorem m_istore_n {n : Fin 4} {x : Int} (hd : (iT i).lookup pc = some (.istore_n n, nx)) (hn : nx = pc + 1) (hi : (n : Nat) < iL i) (ho : zkSt ls (n : Nat) = true) (k : zkW l G i K cu su nx (ls.set (n : Nat) (some (vi x))) st mem) : zkW l G i K cu su pc ls (vi x :: st) mem := by
  intro p e s m args below meth c C H locs a hP hS hl
  subst hn
  exact lv_istore_n C.1 C.2.1 (zkC_dec C hd rfl) rfl (zkAs_has hl) hi rfl (fun a' h' => k p e s m args below meth c C H locs a' hP hS (zkLv_st1 hl hi ho h'))
theorem m_astore {n : Nat} {t j : Nat} (hd : (iT i).lookup pc = some (.astore n, nx)) (hn : nx = pc + 2) (hi : n < iL i) (ho : zkSt ls n = true) (k : zkW l G i K cu su nx (ls.set n (some (vr t j))) st mem) : zkW l G i K cu su pc ls (vr t j :: st) mem := by
  intro p e s m args below meth c C H locs a hP hS hl
  subst hn
  exact lv_astore C.1 C.2.1 (zkC_dec C hd rfl) (zkAs_has hl) hi rfl (fun a' h' => k p e s m args below meth c C H locs a' hP hS (zkLv_st1 hl hi ho h'))
theorem m_astore_n {n : Fin 4} {t j : Nat} (hd : (iT i).lookup pc = some (.astore_n n, nx)) (hn : nx = pc + 1) (hi : (n : Nat) < iL i) (ho : zkSt ls (n : Nat) = true) (k : zkW l G i K cu su nx (ls.set (n : Nat) (some (vr t j))) st mem) : zkW l G i K cu su pc ls (vr t j :: st) mem := by
  intro p e s m args below meth c C H locs a hP hS hl
  subst hn
  exact lv_astore_n C.1 C.2.1 (zkC_dec C hd rfl) rfl (zkAs_has hl) hi rfl (fun a' h' => k p e s m args below meth c C H locs a' hP hS (zkLv_st1 hl hi ho h'))
theorem m_dstore {n : Nat} {x : UInt64} (hd : (iT i).lookup pc = some (.dstore n, nx)) (hn : nx = pc + 2) (hi : n + 1 < iL i) (ho : zkSt ls n = true) (k : zkW l G i K cu su nx ((ls.set n (some (vd x))).set (n + 1) none) st mem) : zkW l G i K cu su pc ls (vd x :: st) mem := by
  intro p e s m args below meth c C H locs a hP hS hl
  subst hn
  exact lv_dstore C.1 C.2.1 (zkC_dec C hd rfl) (zkAs_has hl) hi rfl (fun a' h' => k p e s m args below meth c C H locs a' hP hS (zkLv_st2 hl hi ho h'))
theorem m_dstore_n {n : Fin 4} {x : UInt64} (hd : (iT i).lookup pc = some (.dstore_n n, nx)) (hn : nx = pc + 1) (hi : (n : Nat) + 1 < iL i) (ho : zkSt ls (n : Nat) = true) (k : zkW l G i K cu su nx ((ls.set (n : Nat) (some (vd x))).set ((n : Nat) + 1) none) st mem) : zkW l G i K cu su pc ls (vd x :: st) mem := by
  intro p e s m args below meth c C H locs a hP hS hl
  subst hn
  exact lv_dstore_n C.1 C.2.1 (zkC_dec C hd rfl) rfl (zkAs_has hl) hi rfl (fun a' h' => k p e s m args below meth c C H locs a' hP hS (zkLv_st2 hl hi ho h'))
theorem m_fstore {n : Nat} {x : UInt32} (hd : (iT i).lookup pc = some (.fstore n, nx)) (hn : nx = pc + 2) (hi : n < iL i) (ho : zkSt ls n = true) (k : zkW l G i K cu su nx (ls.set n (some (vf x))) st mem) : zkW l G i K cu su pc ls (vf x :: st) mem := by
  intro p e s m args below meth c C H locs a hP hS hl
  subst hn
  exact lv_fstore C.1 C.2.1 (zkC_dec C hd rfl) (zkAs_has hl) hi rfl (fun a' h' => k p e s m args below meth c C H locs a' hP hS (zkLv_st1 hl hi ho h'))
theorem m_fstore_n {n : Fin 4} {x : UInt32} (hd : (iT i).lookup pc = some (.fstore_n n, nx)) (hn : nx = pc + 1) (hi : (n : Nat) < iL i) (ho : zkSt ls (n : Nat) = true) (k : zkW l G i K cu su nx (ls.set (n : Nat) (some (vf x))) st mem) : zkW l G i K cu su pc ls (vf x :: st) mem := by
  intro p e s m args below meth c C H locs a hP hS hl
  subst hn
  exact lv_fstore_n C.1 C.2.1 (zkC_dec C hd rfl) rfl (zkAs_has hl) hi rfl (fun a' h' => k p e s m args below meth c C H locs a' hP hS (zkLv_st1 hl hi ho h'))
theorem m_astore_v {n : Nat} {q : Nat} (hd : (iT i).lookup pc = some (.astore n, nx)) (hn : nx = pc + 2) (hi : n < iL i) (ho : zkSt ls n = true) (k : zkW l G i K cu su nx (ls.set n (some (vv (.ref q)))) st mem) : zkW l G i K cu su pc ls (vv (.ref q) :: st) mem := by
  intro p e s m args below meth c C H locs a hP hS hl
  subst hn
  exact lv_astore C.1 C.2.1 (zkC_dec C hd rfl) (zkAs_has hl) hi rfl (fun a' h' => k p e s m args below meth c C H locs a' hP hS (zkLv_st1 hl hi ho h'))
theorem m_astore_nv {n : Fin 4} {q : Nat} (hd : (iT i).lookup pc = some (.astore_n n, nx)) (hn : nx = pc + 1) (hi : (n : Nat) < iL i) (ho : zkSt ls (n : Nat) = true) (k : zkW l G i K cu su nx (ls.set (n : Nat) (some (vv (.ref q)))) st mem) : zkW l G i K cu su pc ls (vv (.ref q) :: st) mem := by
  intro p e s m args below meth c C H locs a hP hS hl
  subst hn
  exact lv_astore_n C.1 C.2.1 (zkC_dec C hd rfl) rfl (zkAs_has hl) hi rfl (fun a' h' => k p e s m args below meth c C H locs a' hP hS (zkLv_st1 hl hi ho h'))
theorem m_iinc {n : Nat} {x y : Int} (hd : (iT i).lookup pc = some (.iinc n y, nx)) (hn : nx = pc + 3) (hv : ls[n]? = some (some (vi x))) (hi : n < iL i) (ho : zkSt ls n = true) (k : zkW l G i K cu su nx (ls.set n (some (vi (x + y)))) st mem) : zkW l G i K cu su pc ls st mem := by
  intro p e s m args below meth c C H locs a hP hS hl
  subst hn
  obtain ⟨j, hj⟩ := List.getElem?_of_mem (zkAs_mem (G := G) hv)
  exact lv_iinc C.1 C.2.1 (zkC_dec C hd rfl) (zkAs_has hl) hj (Int32.ofInt_add x y).symm hi rfl (fun a' h' => k p e s m args below meth c C H locs a' hP hS (zkLv_st1 (v := vi (x + y)) hl hi ho h'))
theorem m_iadd {x y : Int} (hd : (iT i).lookup pc = some (.iadd, nx)) (hn : nx = pc + 1) (k : zkW l G i K cu su nx ls (vi (x + y) :: st) mem) : zkW l G i K cu su pc ls (vi y :: vi x :: st) mem := by
  intro p e s m args below meth c C H locs a hP hS hl
  subst hn
  have hq := k p e s m args below meth c C H locs a hP hS hl
  have e1 : tau G (vi (x + y)) = .int (Int32.ofInt x + Int32.ofInt y) := congrArg Value.int (Int32.ofInt_add x y)
  rw [List.map_cons, e1] at hq
  exact lv_iadd C.1 C.2.1 (zkC_dec C hd rfl) hq
theorem m_isub {x y : Int} (hd : (iT i).lookup pc = some (.isub, nx)) (hn : nx = pc + 1) (k : zkW l G i K cu su nx ls (vi (x - y) :: st) mem) : zkW l G i K cu su pc ls (vi y :: vi x :: st) mem := by
  intro p e s m args below meth c C H locs a hP hS hl
  subst hn
  have hq := k p e s m args below meth c C H locs a hP hS hl
  have e1 : tau G (vi (x - y)) = .int (Int32.ofInt x - Int32.ofInt y) := congrArg Value.int (Int32.ofInt_sub x y)
  rw [List.map_cons, e1] at hq
  exact lv_isub C.1 C.2.1 (zkC_dec C hd rfl) hq
theorem m_imul {x y : Int} (hd : (iT i).lookup pc = some (.imul, nx)) (hn : nx = pc + 1) (k : zkW l G i K cu su nx ls (vi (x * y) :: st) mem) : zkW l G i K cu su pc ls (vi y :: vi x :: st) mem := by
  intro p e s m args below meth c C H locs a hP hS hl
  subst hn
  have hq := k p e s m args below meth c C H locs a hP hS hl
  have e1 : tau G (vi (x * y)) = .int (Int32.ofInt x * Int32.ofInt y) := congrArg Value.int (Int32.ofInt_mul x y)
  rw [List.map_cons, e1] at hq
  exact lv_imul C.1 C.2.1 (zkC_dec C hd rfl) hq
theorem i32_div {x y : Int} (hx : inR x) (hy : inR y) (h0 : 0 ≤ x) (h1 : 0 < y) : Int32.ofInt x / Int32.ofInt y = Int32.ofInt (x / y) := by
  apply Int32.toInt_inj.mp
  have hy0 : Int32.ofInt y ≠ -1 := fun h => by
    have := congrArg Int32.toInt h
    rw [i32_toInt hy, show (-1 : Int32).toInt = -1 from by decide] at this
    omega
  rw [Int32.toInt_div_of_ne_right _ _ hy0, i32_toInt hx, i32_toInt hy, Int.tdiv_eq_ediv_of_nonneg h0, i32_toInt]
  have h2 : 0 ≤ x / y := Int.ediv_nonneg h0 (by omega)
  have h3 : x / y ≤ x := Int.ediv_le_self y h0
  unfold inR at *
  omega
theorem i32_ne0 {y : Int} (hy : inR y) (h1 : y ≠ 0) : ¬ Int32.ofInt y = 0 := fun h => by
  have := congrArg Int32.toInt h
  rw [i32_toInt hy, Int32.toInt_zero] at this
  exact h1 this
theorem m_idiv {x y : Int} (hd : (iT i).lookup pc = some (.idiv, nx)) (hn : nx = pc + 1) (hx : inR x) (hy : inR y) (h0 : 0 ≤ x) (h1 : 0 < y) (k : zkW l G i K cu su nx ls (vi (x / y) :: st) mem) : zkW l G i K cu su pc ls (vi y :: vi x :: st) mem := by
  intro p e s m args below meth c C H locs a hP hS hl
  subst hn
  have hq := k p e s m args below meth c C H locs a hP hS hl
  have e1 : tau G (vi (x / y)) = .int (Int32.ofInt x / Int32.ofInt y) := congrArg Value.int (i32_div hx hy h0 h1).symm
  rw [List.map_cons, e1] at hq
  exact lv_idiv C.1 C.2.1 (zkC_dec C hd rfl) (i32_ne0 hy (by omega)) hq
theorem m_irem {x y : Int} (hd : (iT i).lookup pc = some (.irem, nx)) (hn : nx = pc + 1) (hx : inR x) (hy : inR y) (h0 : 0 ≤ x) (h1 : 0 < y) (k : zkW l G i K cu su nx ls (vi (x % y) :: st) mem) : zkW l G i K cu su pc ls (vi y :: vi x :: st) mem := by
  intro p e s m args below meth c C H locs a hP hS hl
  subst hn
  have hq := k p e s m args below meth c C H locs a hP hS hl
  have e1 : tau G (vi (x % y)) = .int (Int32.ofInt x - Int32.ofInt x / Int32.ofInt y * Int32.ofInt y) := congrArg Value.int (by
    rw [i32_div hx hy h0 h1, ← Int32.ofInt_mul, ← Int32.ofInt_sub, Int.emod_def, Int.mul_comm])
  rw [List.map_cons, e1] at hq
  exact lv_irem C.1 C.2.1 (zkC_dec C hd rfl) (i32_ne0 hy (by omega)) hq
theorem m_i2l {x : Int} (hd : (iT i).lookup pc = some (.i2l, nx)) (hn : nx = pc + 1) (hx : inR x) (k : zkW l G i K cu su nx ls (vl x :: st) mem) : zkW l G i K cu su pc ls (vi x :: st) mem := by
  intro p e s m args below meth c C H locs a hP hS hl
  subst hn
  refine lv_i2l (v := Int64.ofInt x) C.1 C.2.1 (zkC_dec C hd rfl) ?_ (k p e s m args below meth c C H locs a hP hS hl)
  apply Int64.toInt_inj.mp
  unfold inR at hx
  rw [Int32.toInt_toInt64, i32_toInt hx, Int64.toInt_ofInt_of_le (by omega) (by omega)]
theorem m_i2d {x : Int} (hd : (iT i).lookup pc = some (.i2d, nx)) (hn : nx = pc + 1) (k : zkW l G i K cu su nx ls (vd (FP.i2d (Int32.ofInt x)) :: st) mem) : zkW l G i K cu su pc ls (vi x :: st) mem := by
  intro p e s m args below meth c C H locs a hP hS hl
  subst hn
  exact lv_i2d C.1 C.2.1 (zkC_dec C hd rfl) (k p e s m args below meth c C H locs a hP hS hl)
theorem m_i2f {x : Int} (hd : (iT i).lookup pc = some (.i2f, nx)) (hn : nx = pc + 1) (k : zkW l G i K cu su nx ls (vf (FP.i2f (Int32.ofInt x)) :: st) mem) : zkW l G i K cu su pc ls (vi x :: st) mem := by
  intro p e s m args below meth c C H locs a hP hS hl
  subst hn
  exact lv_i2f C.1 C.2.1 (zkC_dec C hd rfl) (k p e s m args below meth c C H locs a hP hS hl)
theorem m_dadd {x y : UInt64} (hd : (iT i).lookup pc = some (.dadd, nx)) (hn : nx = pc + 1) (hx : vf_n64 (FP.dadd x y)) (k : zkW l G i K cu su nx ls (vd (FP.dadd x y) :: st) mem) : zkW l G i K cu su pc ls (vd y :: vd x :: st) mem := by
  intro p e s m args below meth c C H locs a hP hS hl
  subst hn
  exact lv_dadd C.1 C.2.1 (zkC_dec C hd rfl) hx (k p e s m args below meth c C H locs a hP hS hl)
theorem m_dmul {x y : UInt64} (hd : (iT i).lookup pc = some (.dmul, nx)) (hn : nx = pc + 1) (hx : vf_n64 (FP.dmul x y)) (k : zkW l G i K cu su nx ls (vd (FP.dmul x y) :: st) mem) : zkW l G i K cu su pc ls (vd y :: vd x :: st) mem := by
  intro p e s m args below meth c C H locs a hP hS hl
  subst hn
  exact lv_dmul C.1 C.2.1 (zkC_dec C hd rfl) hx (k p e s m args below meth c C H locs a hP hS hl)
theorem m_ddiv {x y : UInt64} (hd : (iT i).lookup pc = some (.ddiv, nx)) (hn : nx = pc + 1) (hx : vf_n64 (FP.ddiv x y)) (k : zkW l G i K cu su nx ls (vd (FP.ddiv x y) :: st) mem) : zkW l G i K cu su pc ls (vd y :: vd x :: st) mem := by
  intro p e s m args below meth c C H locs a hP hS hl
  subst hn
  exact lv_ddiv C.1 C.2.1 (zkC_dec C hd rfl) hx (k p e s m args below meth c C H locs a hP hS hl)
theorem m_fdiv {x y : UInt32} (hd : (iT i).lookup pc = some (.fdiv, nx)) (hn : nx = pc + 1) (hx : vf_n32 (FP.fdiv x y)) (k : zkW l G i K cu su nx ls (vf (FP.fdiv x y) :: st) mem) : zkW l G i K cu su pc ls (vf y :: vf x :: st) mem := by
  intro p e s m args below meth c C H locs a hP hS hl
  subst hn
  exact lv_fdiv C.1 C.2.1 (zkC_dec C hd rfl) hx (k p e s m args below meth c C H locs a hP hS hl)
theorem m_f2d {x : UInt32} (hd : (iT i).lookup pc = some (.f2d, nx)) (hn : nx = pc + 1) (hx : vf_n64 (FP.f2d x)) (k : zkW l G i K cu su nx ls (vd (FP.f2d x) :: st) mem) : zkW l G i K cu su pc ls (vf x :: st) mem := by
  intro p e s m args below meth c C H locs a hP hS hl
  subst hn
  exact lv_f2d C.1 C.2.1 (zkC_dec C hd rfl) hx (k p e s m args below meth c C H locs a hP hS hl)
theorem m_dup {v : zkV} (hd : (iT i).lookup pc = some (.dup, nx)) (hn : nx = pc + 1) (hc : catV v = 1) (k : zkW l G i K cu su nx ls (v :: v :: st) mem) : zkW l G i K cu su pc ls (v :: st) mem := by
  intro p e s m args below meth c C H locs a hP hS hl
  subst hn
  exact lv_dup C.1 C.2.1 (zkC_dec C hd rfl) ((catV_eq G v).trans hc) (k p e s m args below meth c C H locs a hP hS hl)
theorem m_dup2 {v w : zkV} (hd : (iT i).lookup pc = some (.dup2, nx)) (hn : nx = pc + 1) (hc : catV v = 1) (hc2 : catV w = 1) (k : zkW l G i K cu su nx ls (v :: w :: v :: w :: st) mem) : zkW l G i K cu su pc ls (v :: w :: st) mem := by
  intro p e s m args below meth c C H locs a hP hS hl
  subst hn
  exact lv_dup2_11 C.1 C.2.1 (zkC_dec C hd rfl) ((catV_eq G v).trans hc) ((catV_eq G w).trans hc2) (k p e s m args below meth c C H locs a hP hS hl)
theorem m_pop {v : zkV} (hd : (iT i).lookup pc = some (.pop, nx)) (hn : nx = pc + 1) (hc : catV v = 1) (k : zkW l G i K cu su nx ls (st) mem) : zkW l G i K cu su pc ls (v :: st) mem := by
  intro p e s m args below meth c C H locs a hP hS hl
  subst hn
  exact lv_pop C.1 C.2.1 (zkC_dec C hd rfl) ((catV_eq G v).trans hc) (k p e s m args below meth c C H locs a hP hS hl)
theorem m_goto {off : Int} {tgt : Nat} (hd : (iT i).lookup pc = some (.goto off, nx)) (hn : nx = pc + 3) (ht : (pc : Int) + off = (tgt : Int)) (k : zkW l G i K cu su tgt ls st mem) : zkW l G i K cu su pc ls st mem := by
  intro p e s m args below meth c C H locs a hP hS hl
  subst hn
  exact lv_goto C.1 C.2.1 (zkC_dec C hd rfl) ht (k p e s m args below meth c C H locs a hP hS hl)
theorem m_icmp_ne {x y : Int} {off : Int} {tgt : Nat} (hd : (iT i).lookup pc = some (.if_icmp .ne off, nx)) (hn : nx = pc + 3) (ht : (pc : Int) + off = (tgt : Int)) (hx : inR x) (hy : inR y) (kt : x ≠ y → zkW l G i K cu su tgt ls st mem) (kf : x = y → zkW l G i K cu su nx ls st mem) : zkW l G i K cu su pc ls (vi y :: vi x :: st) mem := by
  intro p e s m args below meth c C H locs a hP hS hl
  subst hn
  exact lv_icmp_ne C.1 C.2.1 (zkC_dec C hd rfl) ht (fun h => kt (fun q => h (by rw [q])) p e s m args below meth c C H locs a hP hS hl) (fun h => kf ((i32_eq hx hy).mp h) p e s m args below meth c C H locs a hP hS hl)
theorem m_if_ne {x : Int} {off : Int} {tgt : Nat} (hd : (iT i).lookup pc = some (.ifCond .ne off, nx)) (hn : nx = pc + 3) (ht : (pc : Int) + off = (tgt : Int)) (hx : inR x) (kt : x ≠ 0 → zkW l G i K cu su tgt ls st mem) (kf : x = 0 → zkW l G i K cu su nx ls st mem) : zkW l G i K cu su pc ls (vi x :: st) mem := by
  intro p e s m args below meth c C H locs a hP hS hl
  subst hn
  exact lv_if_ne C.1 C.2.1 (zkC_dec C hd rfl) ht (fun h => kt (fun q => h (by rw [q, i32_0])) p e s m args below meth c C H locs a hP hS hl) (fun h => kf ((i32_eq hx inR_0).mp (by rw [← i32_0]; exact h)) p e s m args below meth c C H locs a hP hS hl)
theorem m_icmp_lt {x y : Int} {off : Int} {tgt : Nat} (hd : (iT i).lookup pc = some (.if_icmp .lt off, nx)) (hn : nx = pc + 3) (ht : (pc : Int) + off = (tgt : Int)) (hx : inR x) (hy : inR y) (kt : x < y → zkW l G i K cu su tgt ls st mem) (kf : ¬ (x < y) → zkW l G i K cu su nx ls st mem) : zkW l G i K cu su pc ls (vi y :: vi x :: st) mem := by
  intro p e s m args below meth c C H locs a hP hS hl
  subst hn
  exact lv_icmp_lt C.1 C.2.1 (zkC_dec C hd rfl) ht (fun h => kt (by first | exact (i32_lt hx hy).mp h | exact (fun q => h (by rw [q]))) p e s m args below meth c C H locs a hP hS hl) (fun h => kf (fun q => h (by first | exact (i32_lt hx hy).mpr q | exact (fun z => q ((i32_eq hx hy).mp z)))) p e s m args below meth c C H locs a hP hS hl)
theorem m_if_lt {x : Int} {off : Int} {tgt : Nat} (hd : (iT i).lookup pc = some (.ifCond .lt off, nx)) (hn : nx = pc + 3) (ht : (pc : Int) + off = (tgt : Int)) (hx : inR x) (kt : x < 0 → zkW l G i K cu su tgt ls st mem) (kf : ¬ (x < 0) → zkW l G i K cu su nx ls st mem) : zkW l G i K cu su pc ls (vi x :: st) mem := by
  intro p e s m args below meth c C H locs a hP hS hl
  subst hn
  exact lv_if_lt C.1 C.2.1 (zkC_dec C hd rfl) ht (fun h => kt (by rw [i32_0] at h; first | exact (i32_lt hx inR_0).mp h | exact (fun q => h (by rw [q]))) p e s m args below meth c C H locs a hP hS hl) (fun h => kf (fun q => h (by rw [i32_0]; first | exact (i32_lt hx inR_0).mpr q | exact (fun z => q ((i32_eq hx inR_0).mp z)))) p e s m args below meth c C H locs a hP hS hl)
theorem m_icmp_le {x y : Int} {off : Int} {tgt : Nat} (hd : (iT i).lookup pc = some (.if_icmp .le off, nx)) (hn : nx = pc + 3) (ht : (pc : Int) + off = (tgt : Int)) (hx : inR x) (hy : inR y) (kt : x ≤ y → zkW l G i K cu su tgt ls st mem) (kf : ¬ (x ≤ y) → zkW l G i K cu su nx ls st mem) : zkW l G i K cu su pc ls (vi y :: vi x :: st) mem := by
  intro p e s m args below meth c C H locs a hP hS hl
  subst hn
  exact lv_icmp_le C.1 C.2.1 (zkC_dec C hd rfl) ht (fun h => kt (by first | exact (i32_le hx hy).mp h | exact (fun q => h (by rw [q]))) p e s m args below meth c C H locs a hP hS hl) (fun h => kf (fun q => h (by first | exact (i32_le hx hy).mpr q | exact (fun z => q ((i32_eq hx hy).mp z)))) p e s m args below meth c C H locs a hP hS hl)
theorem m_if_le {x : Int} {off : Int} {tgt : Nat} (hd : (iT i).lookup pc = some (.ifCond .le off, nx)) (hn : nx = pc + 3) (ht : (pc : Int) + off = (tgt : Int)) (hx : inR x) (kt : x ≤ 0 → zkW l G i K cu su tgt ls st mem) (kf : ¬ (x ≤ 0) → zkW l G i K cu su nx ls st mem) : zkW l G i K cu su pc ls (vi x :: st) mem := by
  intro p e s m args below meth c C H locs a hP hS hl
  subst hn
  exact lv_if_le C.1 C.2.1 (zkC_dec C hd rfl) ht (fun h => kt (by rw [i32_0] at h; first | exact (i32_le hx inR_0).mp h | exact (fun q => h (by rw [q]))) p e s m args below meth c C H locs a hP hS hl) (fun h => kf (fun q => h (by rw [i32_0]; first | exact (i32_le hx inR_0).mpr q | exact (fun z => q ((i32_eq hx inR_0).mp z)))) p e s m args below meth c C H locs a hP hS hl)
theorem m_icmp_gt {x y : Int} {off : Int} {tgt : Nat} (hd : (iT i).lookup pc = some (.if_icmp .gt off, nx)) (hn : nx = pc + 3) (ht : (pc : Int) + off = (tgt : Int)) (hx : inR x) (hy : inR y) (kt : y < x → zkW l G i K cu su tgt ls st mem) (kf : ¬ (y < x) → zkW l G i K cu su nx ls st mem) : zkW l G i K cu su pc ls (vi y :: vi x :: st) mem := by
  intro p e s m args below meth c C H locs a hP hS hl
  subst hn
  exact lv_icmp_gt C.1 C.2.1 (zkC_dec C hd rfl) ht (fun h => kt (by first | exact (i32_lt hy hx).mp h | exact (fun q => h (by rw [q]))) p e s m args below meth c C H locs a hP hS hl) (fun h => kf (fun q => h (by first | exact (i32_lt hy hx).mpr q | exact (fun z => q ((i32_eq hx hy).mp z)))) p e s m args below meth c C H locs a hP hS hl)
theorem m_if_gt {x : Int} {off : Int} {tgt : Nat} (hd : (iT i).lookup pc = some (.ifCond .gt off, nx)) (hn : nx = pc + 3) (ht : (pc : Int) + off = (tgt : Int)) (hx : inR x) (kt : 0 < x → zkW l G i K cu su tgt ls st mem) (kf : ¬ (0 < x) → zkW l G i K cu su nx ls st mem) : zkW l G i K cu su pc ls (vi x :: st) mem := by
  intro p e s m args below meth c C H locs a hP hS hl
  subst hn
  exact lv_if_gt C.1 C.2.1 (zkC_dec C hd rfl) ht (fun h => kt (by rw [i32_0] at h; first | exact (i32_lt inR_0 hx).mp h | exact (fun q => h (by rw [q]))) p e s m args below meth c C H locs a hP hS hl) (fun h => kf (fun q => h (by rw [i32_0]; first | exact (i32_lt inR_0 hx).mpr q | exact (fun z => q ((i32_eq hx inR_0).mp z)))) p e s m args below meth c C H locs a hP hS hl)
theorem m_icmp_ge {x y : Int} {off : Int} {tgt : Nat} (hd : (iT i).lookup pc = some (.if_icmp .ge off, nx)) (hn : nx = pc + 3) (ht : (pc : Int) + off = (tgt : Int)) (hx : inR x) (hy : inR y) (kt : y ≤ x → zkW l G i K cu su tgt ls st mem) (kf : ¬ (y ≤ x) → zkW l G i K cu su nx ls st mem) : zkW l G i K cu su pc ls (vi y :: vi x :: st) mem := by
  intro p e s m args below meth c C H locs a hP hS hl
  subst hn
  exact lv_icmp_ge C.1 C.2.1 (zkC_dec C hd rfl) ht (fun h => kt (by first | exact (i32_le hy hx).mp h | exact (fun q => h (by rw [q]))) p e s m args below meth c C H locs a hP hS hl) (fun h => kf (fun q => h (by first | exact (i32_le hy hx).mpr q | exact (fun z => q ((i32_eq hx hy).mp z)))) p e s m args below meth c C H locs a hP hS hl)
theorem m_if_ge {x : Int} {off : Int} {tgt : Nat} (hd : (iT i).lookup pc = some (.ifCond .ge off, nx)) (hn : nx = pc + 3) (ht : (pc : Int) + off = (tgt : Int)) (hx : inR x) (kt : 0 ≤ x → zkW l G i K cu su tgt ls st mem) (kf : ¬ (0 ≤ x) → zkW l G i K cu su nx ls st mem) : zkW l G i K cu su pc ls (vi x :: st) mem := by
  intro p e s m args below meth c C H locs a hP hS hl
  subst hn
  exact lv_if_ge C.1 C.2.1 (zkC_dec C hd rfl) ht (fun h => kt (by rw [i32_0] at h; first | exact (i32_le inR_0 hx).mp h | exact (fun q => h (by rw [q]))) p e s m args below meth c C H locs a hP hS hl) (fun h => kf (fun q => h (by rw [i32_0]; first | exact (i32_le inR_0 hx).mpr q | exact (fun z => q ((i32_eq hx inR_0).mp z)))) p e s m args below meth c C H locs a hP hS hl)
theorem m_icmp_eq {x y : Int} {off : Int} {tgt : Nat} (hd : (iT i).lookup pc = some (.if_icmp .eq off, nx)) (hn : nx = pc + 3) (ht : (pc : Int) + off = (tgt : Int)) (hx : inR x) (hy : inR y) (kt : x = y → zkW l G i K cu su tgt ls st mem) (kf : ¬ (x = y) → zkW l G i K cu su nx ls st mem) : zkW l G i K cu su pc ls (vi y :: vi x :: st) mem := by
  intro p e s m args below meth c C H locs a hP hS hl
  subst hn
  exact lv_icmp_eq C.1 C.2.1 (zkC_dec C hd rfl) ht (fun h => kt (by first | exact (i32_eq hx hy).mp h | exact (fun q => h (by rw [q]))) p e s m args below meth c C H locs a hP hS hl) (fun h => kf (fun q => h (by first | exact (i32_eq hx hy).mpr q | exact (fun z => q ((i32_eq hx hy).mp z)))) p e s m args below meth c C H locs a hP hS hl)
theorem m_if_eq {x : Int} {off : Int} {tgt : Nat} (hd : (iT i).lookup pc = some (.ifCond .eq off, nx)) (hn : nx = pc + 3) (ht : (pc : Int) + off = (tgt : Int)) (hx : inR x) (kt : x = 0 → zkW l G i K cu su tgt ls st mem) (kf : ¬ (x = 0) → zkW l G i K cu su nx ls st mem) : zkW l G i K cu su pc ls (vi x :: st) mem := by
  intro p e s m args below meth c C H locs a hP hS hl
  subst hn
  exact lv_if_eq C.1 C.2.1 (zkC_dec C hd rfl) ht (fun h => kt (by rw [i32_0] at h; first | exact (i32_eq hx inR_0).mp h | exact (fun q => h (by rw [q]))) p e s m args below meth c C H locs a hP hS hl) (fun h => kf (fun q => h (by rw [i32_0]; first | exact (i32_eq hx inR_0).mpr q | exact (fun z => q ((i32_eq hx inR_0).mp z)))) p e s m args below meth c C H locs a hP hS hl)
/-- a truth value on the stack -/
def b2i (b : Bool) : Int := if b then 1 else 0
theorem inR_b (b : Bool) : inR (b2i b) := by cases b <;> exact ⟨by decide, by decide⟩
theorem m_if_eq_b {b : Bool} {off : Int} {tgt : Nat} (hd : (iT i).lookup pc = some (.ifCond .eq off, nx)) (hn : nx = pc + 3) (ht : (pc : Int) + off = (tgt : Int)) (kt : b = false → zkW l G i K cu su tgt ls st mem) (kf : b = true → zkW l G i K cu su nx ls st mem) : zkW l G i K cu su pc ls (vi (b2i b) :: st) mem :=
  m_if_eq hd hn ht (inR_b b) (fun h => kt (by cases b with | false => rfl | true => exact absurd h (by decide))) (fun h => kf (by cases b with | true => rfl | false => exact absurd rfl h))
theorem m_if_ne_b {b : Bool} {off : Int} {tgt : Nat} (hd : (iT i).lookup pc = some (.ifCond .ne off, nx)) (hn : nx = pc + 3) (ht : (pc : Int) + off = (tgt : Int)) (kt : b = true → zkW l G i K cu su tgt ls st mem) (kf : b = false → zkW l G i K cu su nx ls st mem) : zkW l G i K cu su pc ls (vi (b2i b) :: st) mem :=
  m_if_ne hd hn ht (inR_b b) (fun h => kt (by cases b with | true => rfl | false => exact absurd rfl h)) (fun h => kf (by cases b with | false => rfl | true => exact absurd h (by decide)))
theorem m_swIn {x dflt lo hi off : Int} {offs : Array Int} {tgt len : Nat} (hd : (iT i).lookup pc = some (.tableswitch dflt lo hi offs, nx)) (hn : nx = pc + len) (hx : inR x) (h1 : lo ≤ x) (h2 : x ≤ hi) (ho : offs[(x - lo).toNat]? = some off) (ht : (pc : Int) + off = (tgt : Int)) (k : zkW l G i K cu su tgt ls st mem) : zkW l G i K cu su pc ls (vi x :: st) mem := by
  intro p e s m args below meth c C H locs a hP hS hl
  subst hn
  exact lv_tableIn C.1 C.2.1 (zkC_dec C hd rfl) (by rw [i32_toInt hx]; omega) (by rw [i32_toInt hx]; omega) (by rw [i32_toInt hx]; exact ho) ht (k p e s m args below meth c C H locs a hP hS hl)
theorem m_swOut {x dflt lo hi : Int} {offs : Array Int} {tgt len : Nat} (hd : (iT i).lookup pc = some (.tableswitch dflt lo hi offs, nx)) (hn : nx = pc + len) (hx : inR x) (h : x < lo ∨ hi < x) (ht : (pc : Int) + dflt = (tgt : Int)) (k : zkW l G i K cu su tgt ls st mem) : zkW l G i K cu su pc ls (vi x :: st) mem := by
  intro p e s m args below meth c C H locs a hP hS hl
  subst hn
  exact lv_tableOut C.1 C.2.1 (zkC_dec C hd rfl) (by rw [i32_toInt hx]; exact h) ht (k p e s m args below meth c C H locs a hP hS hl)
end ZROWS
end
section
/-! fields and arrays -/
/-- the links of fields: 1000 * own + index, the tag, the field, the word's place, whether by nest -/
def zkFT : List (Nat × Nat × Nat × Nat × Bool) := [(4009, 4, 0, 156, false), (4015, 4, 1, 157, false), (4041, 4, 2, 158, false), (4018, 4, 3, 159, false), (51, 4, 3, 160, true), (8079, 4, 3, 161, true), (6281, 4, 3, 162, true), (4022, 4, 4, 163, false), (8083, 4, 4, 164, true), (148, 4, 4, 165, true), (4026, 4, 5, 166, false), (8073, 4, 5, 167, true), (4029, 4, 6, 168, false), (8078, 4, 6, 169, true), (4035, 4, 7, 170, false), (6207, 4, 7, 171, true), (4038, 4, 8, 172, false), (4044, 4, 9, 173, false), (4047, 4, 10, 174, false), (3009, 3, 0, 205, false), (3015, 3, 1, 206, false), (3018, 3, 2, 207, false), (3021, 3, 3, 208, false), (6226, 3, 3, 209, true), (3024, 3, 4, 210, false), (6219, 3, 4, 211, true), (1009, 1, 0, 234, false), (1015, 1, 1, 235, false), (1019, 1, 2, 236, false), (5009, 5, 0, 244, false), (8039, 5, 0, 245, true), (5015, 5, 1, 246, false), (8046, 5, 1, 247, true), (5021, 5, 2, 248, false), (149, 5, 2, 249, true), (6169, 5, 2, 250, true), (5025, 5, 3, 251, false), (168, 5, 3, 252, true), (6192, 5, 3, 253, true), (5028, 5, 4, 254, false), (8019, 5, 4, 255, true), (79, 5, 4, 256, true), (5032, 5, 5, 257, false), (8059, 5, 5, 258, true), (5035, 5, 6, 259, false), (8094, 5, 6, 260, true), (5038, 5, 7, 261, false), (5041, 5, 8, 262, false), (8036, 5, 8, 263, true), (85, 5, 8, 264, true), (6272, 5, 8, 265, true), (5044, 5, 9, 266, false), (8053, 5, 9, 267, true), (5053, 5, 10, 268, false), (5056, 5, 11, 269, false), (5060, 5, 12, 270, false), (5063, 5, 13, 271, false), (5066, 5, 14, 272, false), (6200, 5, 14, 273, true), (11, 0, 0, 305, false), (8015, 0, 0, 306, true), (6268, 0, 0, 307, true), (20, 0, 1, 308, false), (8069, 0, 1, 309, true), (6277, 0, 1, 310, true), (27, 0, 2, 311, false), (6215, 0, 2, 312, true), (31, 0, 3, 313, false), (8043, 0, 3, 314, true), (6112, 0, 3, 315, true), (35, 0, 4, 316, false), (6166, 0, 4, 317, true), (39, 0, 5, 318, false), (8009, 0, 5, 319, true), (6098, 0, 5, 320, true), (58, 0, 6, 321, false), (61, 0, 7, 322, false), (6150, 0, 7, 323, true), (2009, 2, 0, 347, false), (2015, 2, 1, 348, false), (2019, 2, 2, 349, false), (2027, 2, 3, 350, false), (2034, 2, 4, 351, false), (6083, 2, 4, 352, true), (6010, 6, 0, 365, false), (6016, 6, 1, 366, false), (6022, 6, 2, 367, false), (6240, 6, 3, 368, false), (6026, 6, 4, 369, false), (7066, 7, 0, 1192, false), (7101, 7, 1, 1193, false), (7072, 7, 2, 1194, false), (7007, 7, 3, 1195, false), (7013, 7, 4, 1196, false), (7016, 7, 5, 1197, false), (7069, 7, 6, 1198, false), (7086, 7, 7, 1199, false), (7128, 7, 8, 1200, false), (7104, 7, 9, 1201, false), (7019, 7, 10, 1202, false), (7083, 7, 11, 1203, false), (7022, 7, 12, 1204, false), (7025, 7, 13, 1205, false), (7028, 7, 14, 1206, false), (7031, 7, 15, 1207, false), (7034, 7, 16, 1208, false), (7037, 7, 17, 1209, false), (7040, 7, 18, 1210, false), (7089, 7, 19, 1211, false), (7092, 7, 20, 1212, false), (7183, 7, 21, 1213, false), (7095, 7, 22, 1214, false), (7043, 7, 23, 1215, false), (7046, 7, 24, 1216, false), (7049, 7, 25, 1217, false), (7098, 7, 26, 1218, false), (7052, 7, 27, 1219, false), (7218, 7, 28, 1220, false), (7224, 7, 29, 1221, false), (7221, 7, 30, 1222, false), (7227, 7, 31, 1223, false), (7056, 7, 32, 1224, false), (7060, 7, 33, 1225, false), (7290, 7, 34, 1226, false), (7063, 7, 35, 1227, false), (7280, 7, 36, 1228, false), (7276, 7, 37, 1229, false)]
def zkFw (q : Nat × Nat × Nat × Nat × Bool) : Cond := if q.2.2.2.2 then .fieldLinkNest (zkR (q.1 / 1000)) (q.1 % 1000) (zkR q.2.1) (zkT q.2.1 q.2.2.1).2.1 (zkT q.2.1 q.2.2.1).2.2.1 RX7 else .fieldLink (zkR (q.1 / 1000)) (q.1 % 1000) (zkR q.2.1) (zkT q.2.1 q.2.2.1).2.1 (zkT q.2.1 q.2.2.1).2.2.1
theorem zkFT_ok : zkFT.all (fun q => decide (q.2.2.1 < nfl q.2.1) && decide ((zkT q.2.1 q.2.2.1).1 = zkR q.2.1) && decide (lw_tbl[q.2.2.2.1]? = some (zkFw q)) && (if q.2.2.2.2 then zkNest (zkFw q) else goodWord (zkFw q))) = true := by decide +kernel
def zkLy : List (List Nat) := [[324, 326, 328, 330, 332, 334, 336, 338], [237, 239, 241], [353, 355, 357, 359, 361], [212, 214, 216, 218, 220], [175, 177, 179, 181, 183, 185, 187, 189, 191, 193, 195], [274, 276, 278, 280, 282, 284, 286, 288, 290, 292, 294, 296, 298, 300, 302], [370, 372, 374, 376, 378], [1230, 1232, 1234, 1236, 1238, 1240, 1242, 1244, 1246, 1248, 1250, 1252, 1254, 1256, 1258, 1260, 1262, 1264, 1266, 1268, 1270, 1272, 1274, 1276, 1278, 1280, 1282, 1284, 1286, 1288, 1290, 1292, 1294, 1296, 1298, 1300, 1302, 1304]]
theorem zkLy_ok : (List.range 8).all (fun t => (List.range (nfl t)).all (fun k => decide (lw_tbl[(zkLy.getD t []).getD k 0]? = some (u_lay (zkR t) (zkT t) k)) && goodWord (u_lay (zkR t) (zkT t) k))) = true := by decide +kernel
theorem zkLays {t : Nat} (h : t < 8) : ∀ w ∈ u_ws (zkR t) (zkT t) (nfl t), w ∈ zkGw := by
  intro w hw
  obtain ⟨k, hk, rfl⟩ := List.mem_map.mp hw
  have h1 := List.all_eq_true.mp zkLy_ok t (List.mem_range.mpr h)
  have h2 := List.all_eq_true.mp h1 k hk
  simp only [Bool.and_eq_true, decide_eq_true_eq] at h2
  exact zkGw_in _ h2.1 h2.2
def zkFl (o idx : Nat) : Option (Nat × Nat) := (zkFT.lookup (1000 * o + idx)).map (fun q => (q.1, q.2.1))
theorem zkFl_spec {o idx t k : Nat} (hi : idx < 1000) (h : zkFl o idx = some (t, k)) : k < nfl t ∧ (zkT t k).1 = zkR t ∧ (Cond.fieldLink (zkR o) idx (zkR t) (zkT t k).2.1 (zkT t k).2.2.1 ∈ zkGw ∨ Cond.fieldLinkNest (zkR o) idx (zkR t) (zkT t k).2.1 (zkT t k).2.2.1 RX7 ∈ zkNw) := by
  unfold zkFl at h
  obtain ⟨q, hq, he⟩ := Option.map_eq_some_iff.mp h
  obtain ⟨t', k', pl, b⟩ := q
  cases he
  have h1 := List.all_eq_true.mp zkFT_ok _ (zk_lk hq)
  simp only [Bool.and_eq_true, decide_eq_true_eq] at h1
  obtain ⟨⟨⟨a1, a2⟩, a3⟩, a4⟩ := h1
  refine ⟨a1, a2, ?_⟩
  have e1 : (1000 * o + idx) / 1000 = o := by omega
  have e2 : (1000 * o + idx) % 1000 = idx := by omega
  cases b with
  | true =>
    right
    simp only [zkFw, e1, e2, if_true] at a3 a4
    exact zkNw_in _ a3 a4
  | false =>
    left
    simp only [zkFw, e1, e2, Bool.false_eq_true, if_false] at a3 a4
    exact zkGw_in _ a3 a4
theorem zkE_obj {G : zkG} {m : zkM} {t j : Nat} (h : t < 8) : zkE G m (t, j) = Sum.inr (t, (List.range (nfl t)).map (fun k => zkF G m t j k)) := by
  unfold zkE
  rw [if_pos h]
theorem zk_rset {α : Type} {n k : Nat} {f g : Nat → α} (h : ∀ j, j ≠ k → g j = f j) : ((List.range n).map f).set k (g k) = (List.range n).map g := by
  apply List.ext_getElem?
  intro j
  rw [List.getElem?_set]
  by_cases e : k = j
  · subst e
    rw [if_pos rfl]
    split
    · next h1 =>
      rw [List.length_map, List.length_range] at h1
      rw [List.getElem?_map, List.getElem?_range h1]
      rfl
    · next h1 =>
      rw [List.length_map, List.length_range] at h1
      rw [List.getElem?_eq_none]
      rw [List.length_map, List.length_range]; omega
  · rw [if_neg e, List.getElem?_map, List.getElem?_map]
    by_cases h1 : j < n
    · rw [List.getElem?_range h1]
      exact congrArg some (h j (fun q => e q.symm)).symm
    · rw [List.getElem?_eq_none (by rw [List.length_range]; omega)]
      rfl
theorem zkE_mset {G : zkG} {m : zkM} {t j k : Nat} {x : Int} (h : t < 8) (hr : rfo t j k = none) : zkE G (mset m t j k x) (t, j) = Sum.inr (t, ((List.range (nfl t)).map (fun k => zkF G m t j k)).set k (.int (Int32.ofInt x))) := by
  rw [zkE_obj h]
  have e1 : zkF G (mset m t j k x) t j k = .int (Int32.ofInt x) := by
    unfold zkF
    rw [hr]
    simp only [mset_s]
  rw [← e1, zk_rset (g := fun k' => zkF G (mset m t j k x) t j k')]
  intro j' hj
  unfold zkF
  cases rfo t j j' with
  | some q => rfl
  | none => simp [mset, hj]
theorem zk_same {s : State} {a b c : String} (h : a = b) : ∀ x, s.fieldFound? a c b = some x → s.fieldFound? a c b = some x := fun _ q => q
section ZMEM
variable {l : Launch} {G : zkG} {i : zkI} {K : zkK} {cu su pc nx : Nat} {ls : List (Option zkV)} {st : List zkV} {mem : zkM}
theorem m_gv {t j k idx : Nat} (hd : (iT i).lookup pc = some (.getfield idx, nx)) (hn : nx = pc + 3) (hi : idx < 1000) (hf : zkFl (iO i) idx = some (t, k)) (hj : j < cnt t) {v : zkV} (hv : zkF G mem t j k = tau G v) (kk : zkW l G i K cu su nx ls (v :: st) mem) : zkW l G i K cu su pc ls (vr t j :: st) mem := by
  intro p e s m args below meth c C H locs a hP hS hl
  subst hn
  have hq := kk p e s m args below meth c C H locs a hP hS hl
  obtain ⟨h1, h2, h3⟩ := zkFl_spec hi hf
  have ht := nfl_pos h1
  obtain ⟨q0, -, he⟩ := wl_at G mem hj
  rw [zkE_obj ht] at he
  have hfs : ((List.range (nfl t)).map (fun k => zkF G mem t j k))[k]? = some (tau G v) := by
    rw [List.getElem?_map, List.getElem?_range h1, ← hv]
    rfl
  have hsame : ∀ x, s.fieldFound? (zkT t k).1 (zkT t k).2.1 (zkT t k).2.2.1 = some x → s.fieldFound? (zkR t) (zkT t k).2.1 (zkT t k).2.2.1 = some x := fun x hx => by rw [← h2]; exact hx
  obtain ⟨hx, hb, hr, hml, hown, hts, hF, -⟩ := id C
  obtain ⟨-, hN, hK, -⟩ := hF
  rcases h3 with h3 | h3
  · exact va_get hx hb hts (zkLays ht) hown hK hP q0 he (zkCl_at ht) k h1 (hts _ h3) hsame hfs (zkC_dec C hd rfl) hq
  · exact va_getN hx hb hts (zkLays ht) hown hK hP q0 he (zkCl_at ht) k h1 (va_Nw.use rfl (hN _ h3)) hsame hfs (zkC_dec C hd rfl) hq
theorem m_gi {t j k idx : Nat} (hd : (iT i).lookup pc = some (.getfield idx, nx)) (hn : nx = pc + 3) (hi : idx < 1000) (hf : zkFl (iO i) idx = some (t, k)) (hr : rfo t j k = none) (hj : j < cnt t) (kk : zkW l G i K cu su nx ls (vi (mem t j k) :: st) mem) : zkW l G i K cu su pc ls (vr t j :: st) mem :=
  m_gv hd hn hi hf hj (by unfold zkF; rw [hr]; rfl) kk
theorem m_gr {t j k idx t2 j2 : Nat} (hd : (iT i).lookup pc = some (.getfield idx, nx)) (hn : nx = pc + 3) (hi : idx < 1000) (hf : zkFl (iO i) idx = some (t, k)) (hr : rfo t j k = some (t2, j2)) (hj : j < cnt t) (kk : zkW l G i K cu su nx ls (vr t2 j2 :: st) mem) : zkW l G i K cu su pc ls (vr t j :: st) mem :=
  m_gv hd hn hi hf hj (by unfold zkF; rw [hr]; rfl) kk
theorem m_pv {t j k idx : Nat} {x : Int} (hd : (iT i).lookup pc = some (.putfield idx, nx)) (hn : nx = pc + 3) (hi : idx < 1000) (hf : zkFl (iO i) idx = some (t, k)) (hr : rfo t j k = none) (hfin : (zkT t k).2.2.2 = false) (hj : j < cnt t) (hna : narrow (zkty t k) (.int (Int32.ofInt x)) = .int (Int32.ofInt x)) (hfi : fits (zkty t k) (.int (Int32.ofInt x)) = true) (kk : zkW l G i K cu su nx ls st (mset mem t j k x)) : zkW l G i K cu su pc ls (vi x :: vr t j :: st) mem := by
  intro p e s m args below meth c C H locs a hP hS hl
  subst hn
  obtain ⟨h1, h2, h3⟩ := zkFl_spec hi hf
  have ht := nfl_pos h1
  obtain ⟨q0, hq0, he⟩ := wl_at G mem hj
  rw [zkE_obj ht] at he
  have hsame : ∀ x, s.fieldFound? (zkT t k).1 (zkT t k).2.1 (zkT t k).2.2.1 = some x → s.fieldFound? (zkR t) (zkT t k).2.1 (zkT t k).2.2.1 = some x := fun x hx => by rw [← h2]; exact hx
  obtain ⟨hx, hb, -, hml, hown, hts, hF, -⟩ := id C
  obtain ⟨hJ, hN, hK, -⟩ := hF
  have hset : (wl G mem).set q0 (ga G (t, j), Sum.inr (t, ((List.range (nfl t)).map (fun k => zkF G mem t j k)).set k (.int (Int32.ofInt x)))) = wl G (mset mem t j k x) := by
    rw [← zkE_mset ht hr]
    exact wl_set hq0 (fun u hu hne => zkE_off (fun k' => mset_off hne k'))
  have hlen : k < ((List.range (nfl t)).map (fun k => zkF G mem t j k)).length := by rw [List.length_map, List.length_range]; exact h1
  rcases h3 with h3 | h3
  · exact va_put hx hb hts (zkLays ht) (zkty t) (zkTy_ok ht) (zkNm ht) hown hK hP (wl_D hJ mem _) hS q0 he (zkCl_at ht) k h1 (hts _ h3) hsame hfin (zkTy_ok ht k h1) hna hfi hlen (zkC_dec C hd rfl) (fun H1 locs1 hP1 _ hS1 => kk p e s m args below meth c C H1 locs1 a (hset ▸ hP1) hS1 hl)
  · exact va_putN hx hb hts (zkLays ht) (zkty t) (zkTy_ok ht) (zkNm ht) hown hK hP (wl_D hJ mem _) hS q0 he (zkCl_at ht) k h1 (va_Nw.use rfl (hN _ h3)) hsame hfin (zkTy_ok ht k h1) hna hfi hlen (zkC_dec C hd rfl) (fun H1 locs1 hP1 _ hS1 => kk p e s m args below meth c C H1 locs1 a (hset ▸ hP1) hS1 hl)
theorem m_pi {t j k idx : Nat} {x : Int} (hd : (iT i).lookup pc = some (.putfield idx, nx)) (hn : nx = pc + 3) (hi : idx < 1000) (hf : zkFl (iO i) idx = some (t, k)) (hr : rfo t j k = none) (hfin : (zkT t k).2.2.2 = false) (hty : zkty t k = .int) (hj : j < cnt t) (kk : zkW l G i K cu su nx ls st (mset mem t j k x)) : zkW l G i K cu su pc ls (vi x :: vr t j :: st) mem :=
  m_pv hd hn hi hf hr hfin hj (by rw [hty]; rfl) (by rw [hty]; rfl) kk
theorem zk_nb (b : Bool) : narrow .boolean (.int (Int32.ofInt (b2i b))) = .int (Int32.ofInt (b2i b)) ∧ fits .boolean (.int (Int32.ofInt (b2i b))) = true := by
  cases b <;> exact ⟨by decide +kernel, by decide +kernel⟩
theorem m_pz {t j k idx : Nat} {b : Bool} (hd : (iT i).lookup pc = some (.putfield idx, nx)) (hn : nx = pc + 3) (hi : idx < 1000) (hf : zkFl (iO i) idx = some (t, k)) (hr : rfo t j k = none) (hfin : (zkT t k).2.2.2 = false) (hty : zkty t k = .boolean) (hj : j < cnt t) (kk : zkW l G i K cu su nx ls st (mset mem t j k (b2i b))) : zkW l G i K cu su pc ls (vi (b2i b) :: vr t j :: st) mem :=
  m_pv hd hn hi hf hr hfin hj (by rw [hty]; exact (zk_nb b).1) (by rw [hty]; exact (zk_nb b).2) kk
/-! arrays -/
theorem zk_in {x : Int} {n : Nat} (h0 : 0 ≤ x) (h1 : x < n) (hn : n < 2147483648) : vp_in (Int32.ofInt x) n := by
  have hx : inR x := ⟨by omega, by omega⟩
  rw [vp_in_iff, i32_toInt hx]
  exact ⟨h0, h1⟩
theorem zk_cl {x : Int} (h0 : 0 ≤ x) (h1 : x < 2147483648) : (Int32.ofInt x).toNatClampNeg = x.toNat := by
  have hx : inR x := ⟨by omega, h1⟩
  show (Int32.ofInt x).toInt.toNat = x.toNat
  rw [i32_toInt hx]
theorem aln_lt (t : Nat) : aln t < 2147483648 := by
  unfold aln
  split <;> omega
theorem zkE_ari {G : zkG} {m : zkM} {t j : Nat} (h : 8 ≤ t) (hk : akd t = 0 ∨ akd t = 1) : zkE G m (t, j) = Sum.inl (gA G (akd t), (aln t, Sum.inl (fun x => Int32.ofInt (m t j x)))) := by
  unfold zkE
  rw [if_neg (by show ¬ t < 8; omega)]
  rcases hk with hk | hk <;> simp only [hk]
theorem zkTy_at (G : zkG) {k : Nat} (h : k < 5) : (zkTy G)[k]? = some (gA G k, [FieldType.int, .char, .object "CeilingWorkbench$Task", .long, .double].getD k .int) := by
  rcases (show k = 0 ∨ k = 1 ∨ k = 2 ∨ k = 3 ∨ k = 4 by omega) with rfl | rfl | rfl | rfl | rfl <;> rfl
theorem zk_upd {m : zkM} {t j k : Nat} {x : Int} : upd (fun y => Int32.ofInt (m t j y)) k (Int32.ofInt x) = fun y => Int32.ofInt (mset m t j k x t j y) := by
  funext y
  unfold upd mset
  by_cases e : y = k
  · simp [e]
  · simp [e]
theorem zk_seti {G : zkG} {m : zkM} {q0 t j k : Nat} {x : Int} (h : 8 ≤ t) (hk : akd t = 0 ∨ akd t = 1) (hq : zkL[q0]? = some (t, j)) : (wl G m).set q0 (ga G (t, j), Sum.inl (gA G (akd t), (aln t, Sum.inl (upd (fun y => Int32.ofInt (m t j y)) k (Int32.ofInt x))))) = wl G (mset m t j k x) := by
  rw [zk_upd, ← zkE_ari (G := G) (m := mset m t j k x) h hk]
  exact wl_set hq (fun u hu hne => zkE_off (fun k' => mset_off hne k'))
theorem m_iald {t j : Nat} {x : Int} (hd : (iT i).lookup pc = some (.iaload, nx)) (hn : nx = pc + 1) (h8 : 8 ≤ t) (hk : akd t = 0) (hj : j < cnt t) (h0 : 0 ≤ x) (h1 : x < aln t) (kk : zkW l G i K cu su nx ls (vi (mem t j x.toNat) :: st) mem) : zkW l G i K cu su pc ls (vi x :: vr t j :: st) mem := by
  intro p e s m args below meth c C H locs a hP hS hl
  subst hn
  have hq := kk p e s m args below meth c C H locs a hP hS hl
  obtain ⟨q0, hq0, he⟩ := wl_at G mem hj
  rw [zkE_ari h8 (Or.inl hk), hk] at he
  have hl2 := aln_lt t
  refine va_iald C.1 C.2.1 C.2.2.2.2.2.2.1.2.2.1 hP q0 0 he rfl (zk_in h0 h1 hl2) (zkC_dec C hd rfl) ?_
  rw [zk_cl h0 (by omega)]
  exact hq
theorem m_cald {t j : Nat} {x : Int} (hd : (iT i).lookup pc = some (.caload, nx)) (hn : nx = pc + 1) (h8 : 8 ≤ t) (hk : akd t = 1) (hj : j < cnt t) (h0 : 0 ≤ x) (h1 : x < aln t) (kk : zkW l G i K cu su nx ls (vi (mem t j x.toNat) :: st) mem) : zkW l G i K cu su pc ls (vi x :: vr t j :: st) mem := by
  intro p e s m args below meth c C H locs a hP hS hl
  subst hn
  have hq := kk p e s m args below meth c C H locs a hP hS hl
  obtain ⟨q0, hq0, he⟩ := wl_at G mem hj
  rw [zkE_ari h8 (Or.inr hk), hk] at he
  have hl2 := aln_lt t
  refine va_cald C.1 C.2.1 C.2.2.2.2.2.2.1.2.2.1 hP q0 1 he rfl (zk_in h0 h1 hl2) (zkC_dec C hd rfl) ?_
  rw [zk_cl h0 (by omega)]
  exact hq
theorem m_iast {t j : Nat} {x y : Int} (hd : (iT i).lookup pc = some (.iastore, nx)) (hn : nx = pc + 1) (h8 : 8 ≤ t) (hk : akd t = 0) (hj : j < cnt t) (h0 : 0 ≤ x) (h1 : x < aln t) (kk : zkW l G i K cu su nx ls st (mset mem t j x.toNat y)) : zkW l G i K cu su pc ls (vi y :: vi x :: vr t j :: st) mem := by
  intro p e s m args below meth c C H locs a hP hS hl
  subst hn
  obtain ⟨q0, hq0, he⟩ := wl_at G mem hj
  rw [zkE_ari h8 (Or.inl hk), hk] at he
  have hl2 := aln_lt t
  refine va_iast C.1 C.2.1 C.2.2.2.2.2.2.1.2.2.1 hP (wl_D C.2.2.2.2.2.2.1.1 mem _) hS q0 0 he rfl (zk_in h0 h1 hl2) (zkC_dec C hd rfl) (fun H1 locs1 hP1 _ hS1 => kk p e s m args below meth c C H1 locs1 a ?_ hS1 hl)
  rw [zk_cl h0 (by omega)] at hP1
  have e1 := zk_seti (G := G) (m := mem) (k := x.toNat) (x := y) h8 (Or.inl hk) hq0
  rw [hk] at e1
  exact e1 ▸ hP1
theorem m_cast {t j : Nat} {x y : Int} (hd : (iT i).lookup pc = some (.castore, nx)) (hn : nx = pc + 1) (h8 : 8 ≤ t) (hk : akd t = 1) (hj : j < cnt t) (h0 : 0 ≤ x) (h1 : x < aln t) (hy0 : 0 ≤ y) (hy1 : y < 65536) (kk : zkW l G i K cu su nx ls st (mset mem t j x.toNat y)) : zkW l G i K cu su pc ls (vi y :: vi x :: vr t j :: st) mem := by
  intro p e s m args below meth c C H locs a hP hS hl
  subst hn
  obtain ⟨q0, hq0, he⟩ := wl_at G mem hj
  rw [zkE_ari h8 (Or.inr hk), hk] at he
  have hl2 := aln_lt t
  refine va_cast C.1 C.2.1 C.2.2.2.2.2.2.1.2.2.1 hP (wl_D C.2.2.2.2.2.2.1.1 mem _) hS q0 1 he rfl (zk_in h0 h1 hl2) (zkC_dec C hd rfl) (fun H1 locs1 hP1 _ hS1 => kk p e s m args below meth c C H1 locs1 a ?_ hS1 hl)
  have e2 : vp_nar .char (Int32.ofInt y) = Int32.ofInt y := by
    obtain ⟨n, rfl⟩ : ∃ n : Nat, y = n := ⟨y.toNat, by omega⟩
    have h3 := (pk_charN (q := n) (by omega)).1
    unfold vp_nar
    rw [show Int32.ofInt (n : Int) = nI n from rfl, h3]
  rw [zk_cl h0 (by omega), e2] at hP1
  have e1 := zk_seti (G := G) (m := mem) (k := x.toNat) (x := y) h8 (Or.inr hk) hq0
  rw [hk] at e1
  exact e1 ▸ hP1
theorem m_aald {j : Nat} {x : Int} (hd : (iT i).lookup pc = some (.aaload, nx)) (hn : nx = pc + 1) (hj : j < 2) (h0 : 0 ≤ x) (h1 : x < 5) (kk : zkW l G i K cu su nx ls (vr 5 (5 * j + x.toNat) :: st) mem) : zkW l G i K cu su pc ls (vi x :: vr 10 j :: st) mem := by
  intro p e s m args below meth c C H locs a hP hS hl
  subst hn
  have hq := kk p e s m args below meth c C H locs a hP hS hl
  obtain ⟨q0, hq0, he⟩ := wl_at G mem (t := 10) hj
  refine va_aldq C.1 C.2.1 C.2.2.2.2.2.2.1.2.2.1 hP q0 2 he rfl (zk_in h0 h1 (aln_lt 10)) (zkC_dec C hd rfl) ?_
  rw [zk_cl h0 (by omega)]
  exact hq
theorem m_alen {t j : Nat} (hd : (iT i).lookup pc = some (.arraylength, nx)) (hn : nx = pc + 1) (h8 : 8 ≤ t) (hk : akd t = 0 ∨ akd t = 1) (hj : j < cnt t) (kk : zkW l G i K cu su nx ls (vi (aln t) :: st) mem) : zkW l G i K cu su pc ls (vr t j :: st) mem := by
  intro p e s m args below meth c C H locs a hP hS hl
  subst hn
  have hq := kk p e s m args below meth c C H locs a hP hS hl
  obtain ⟨q0, hq0, he⟩ := wl_at G mem hj
  rw [zkE_ari h8 hk] at he
  rcases hk with hk | hk
  · rw [hk] at he
    exact va_alen C.1 C.2.1 C.2.2.2.2.2.2.1.2.2.1 hP q0 0 he (ty := .int) rfl rfl (zkC_dec C hd rfl) hq
  · rw [hk] at he
    exact va_alen C.1 C.2.1 C.2.2.2.2.2.2.1.2.2.1 hP q0 1 he (ty := .char) rfl rfl (zkC_dec C hd rfl) hq
theorem m_lald (hd : (iT i).lookup pc = some (.laload, nx)) (hn : nx = pc + 1) (kk : zkW l G i K cu su nx ls (vl (mem 50 0 0) :: st) mem) : zkW l G i K cu su pc ls (vi 0 :: vr 50 0 :: st) mem := by
  intro p e s m args below meth c C H locs a hP hS hl
  subst hn
  have hq := kk p e s m args below meth c C H locs a hP hS hl
  obtain ⟨q0, hq0, he⟩ := wl_at G mem (t := 50) (i := 0) (by decide)
  refine va_lald C.1 C.2.1 C.2.2.2.2.2.2.1.2.2.1 hP q0 3 he rfl (zk_in (x := 0) (by decide) (by decide) (by decide)) (zkC_dec C hd rfl) ?_
  rw [zk_cl (by decide) (by decide)]
  exact hq
theorem m_dald (hd : (iT i).lookup pc = some (.daload, nx)) (hn : nx = pc + 1) (kk : zkW l G i K cu su nx ls (vd (UInt64.ofNat (mem 51 0 0).toNat) :: st) mem) : zkW l G i K cu su pc ls (vi 0 :: vr 51 0 :: st) mem := by
  intro p e s m args below meth c C H locs a hP hS hl
  subst hn
  have hq := kk p e s m args below meth c C H locs a hP hS hl
  obtain ⟨q0, hq0, he⟩ := wl_at G mem (t := 51) (i := 0) (by decide)
  refine va_dald C.1 C.2.1 C.2.2.2.2.2.2.1.2.2.1 hP q0 4 he rfl (zk_in (x := 0) (by decide) (by decide) (by decide)) (zkC_dec C hd rfl) ?_
  rw [zk_cl (by decide) (by decide)]
  exact hq
theorem m_last {y : Int} (hd : (iT i).lookup pc = some (.lastore, nx)) (hn : nx = pc + 1) (kk : zkW l G i K cu su nx ls st (mset mem 50 0 0 y)) : zkW l G i K cu su pc ls (vl y :: vi 0 :: vr 50 0 :: st) mem := by
  intro p e s m args below meth c C H locs a hP hS hl
  subst hn
  obtain ⟨q0, hq0, he⟩ := wl_at G mem (t := 50) (i := 0) (by decide)
  refine va_last C.1 C.2.1 C.2.2.2.2.2.2.1.2.2.1 hP (wl_D C.2.2.2.2.2.2.1.1 mem _) hS q0 3 he rfl (zk_in (x := 0) (by decide) (by decide) (by decide)) (zkC_dec C hd rfl) (fun H1 locs1 hP1 _ hS1 => kk p e s m args below meth c C H1 locs1 a ?_ hS1 hl)
  rw [zk_cl (by decide) (by decide)] at hP1
  have e0 : vp_updL (fun x => Int64.ofInt (mem 50 0 x)) 0 (Int64.ofInt y) = fun x => Int64.ofInt (mset mem 50 0 0 y 50 0 x) := by
    funext z
    unfold vp_updL mset
    by_cases e : z = 0 <;> simp [e]
  have e1 : (wl G mem).set q0 (ga G (50, 0), Sum.inl (gA G 3, (1, Sum.inr (Sum.inl (vp_updL (fun x => Int64.ofInt (mem 50 0 x)) 0 (Int64.ofInt y)))))) = wl G (mset mem 50 0 0 y) := by
    rw [e0]
    exact wl_set (m' := mset mem 50 0 0 y) hq0 (fun u hu hne => zkE_off (fun k' => mset_off hne k'))
  exact e1 ▸ hP1
theorem m_dast {y : UInt64} (hd : (iT i).lookup pc = some (.dastore, nx)) (hn : nx = pc + 1) (kk : zkW l G i K cu su nx ls st (mset mem 51 0 0 (y.toNat : Int))) : zkW l G i K cu su pc ls (vd y :: vi 0 :: vr 51 0 :: st) mem := by
  intro p e s m args below meth c C H locs a hP hS hl
  subst hn
  obtain ⟨q0, hq0, he⟩ := wl_at G mem (t := 51) (i := 0) (by decide)
  refine va_dast C.1 C.2.1 C.2.2.2.2.2.2.1.2.2.1 hP (wl_D C.2.2.2.2.2.2.1.1 mem _) hS q0 4 he rfl (zk_in (x := 0) (by decide) (by decide) (by decide)) (zkC_dec C hd rfl) (fun H1 locs1 hP1 _ hS1 => kk p e s m args below meth c C H1 locs1 a ?_ hS1 hl)
  rw [zk_cl (by decide) (by decide)] at hP1
  have e0 : vf_upd (fun x => UInt64.ofNat (mem 51 0 x).toNat) 0 y = fun x => UInt64.ofNat (mset mem 51 0 0 (y.toNat : Int) 51 0 x).toNat := by
    funext z
    unfold vf_upd mset
    by_cases e : z = 0 <;> simp [e]
  have e1 : (wl G mem).set q0 (ga G (51, 0), Sum.inl (gA G 4, (1, Sum.inr (Sum.inr (Sum.inr (Sum.inl (vf_upd (fun x => UInt64.ofNat (mem 51 0 x).toNat) 0 y))))))) = wl G (mset mem 51 0 0 (y.toNat : Int)) := by
    rw [e0]
    exact wl_set (m' := mset mem 51 0 0 (y.toNat : Int)) hq0 (fun u hu hne => zkE_off (fun k' => mset_off hne k'))
  exact e1 ▸ hP1
end ZMEM
end
section
/-! ends, contracts, calls, throws -/
def zkRm (d mc ms : Nat) : Room := { frames := d, cells := mc, slots := ms, locals := 40 * d + 100 }
/-- how a method ends: a value or none, or an exception's class -/
abbrev zkO : Type := Option zkV ⊕ String
def zkQc (G : zkG) (Q : zkO → zkM → Prop) : Array Value → State → Outcome → State → Prop := fun _ st o t => ∃ (v : Option zkV) (m' : zkM), o = .returned (v.map (tau G)) ∧ Q (Sum.inl v) m' ∧ va_P (gD G) zkCl (wl G m') t.heap ∧ va_F (zkA G st.heap.size) st t
def zkXc (G : zkG) (Q : zkO → zkM → Prop) : String → State → State → Prop := fun E st t => ∃ m' : zkM, Q (Sum.inr E) m' ∧ va_P (gD G) zkCl (wl G m') t.heap ∧ va_F (zkA G st.heap.size) st t
def zkKm (G : zkG) (d mc ms : Nat) (Q : zkO → zkM → Prop) : zkK := (zkRm d mc ms, fun below args s => vx_MQ below (zkQc G Q) (zkXc G Q) args s mc ms (zkA G s.heap.size), fun _ _ => True)
def zkPc (G : zkG) (as : List zkV) (mem : zkM) (sz : Nat) : Array Value → State → Prop := fun a U => a = (as.map (tau G)).toArray ∧ U.heap.size = sz ∧ zkSF G U sz ∧ va_P (gD G) zkCl (wl G mem) U.heap
/-- the word of a method's code -/
def zkHd (i : zkI) : Cond := match iH i with
  | [] => .code (iY i) (iC i) (iL i) (iR i)
  | hh => .codeWith (iY i) (iC i) (iL i) (iR i) hh
/-- a contract -/
def zkCt (l : Launch) (G : zkG) (i : zkI) (d mc ms : Nat) (as : List zkV) (mem : zkM) (Q : zkO → zkM → Prop) : Prop :=
  ∀ sz : Nat, vx_Met l (iY i) (zkHd i :: zkGw) (zkRm d mc ms) (zkPc G as mem sz) (zkQc G Q) (zkXc G Q) mc ms (zkA G sz)
def zkR1 (v : zkV) (f : zkM) : zkO → zkM → Prop := fun o m => o = Sum.inl (some v) ∧ m = f
def zkR0 (f : zkM) : zkO → zkM → Prop := fun o m => o = Sum.inl none ∧ m = f
/-- what is known of the start goes along -/
theorem zkSF_go {G : zkG} {s U : State} {sz : Nat} (hW : s.WarmedH U.vm) (h : zkSF G s sz) (hk : ∀ q : Nat, q < s.heap.size → ¬ zkA G sz q → U.heap[q]? = s.heap[q]?) {sz' : Nat} (hs : sz ≤ sz') : zkSF G U sz' := by
  obtain ⟨h1, h2, h3, h4, h5, h6, h7, h8, h9, h10, h11⟩ := h
  have hA : ∀ q, zkA G sz' q → zkA G sz q := zkA_mono hs
  refine ⟨h1, fun w hw => ?_, va_K.moved hW.alike h3, ((vx_Zq.moved hW.alike h4).kept hk).narrow hA, ((vx_Zq.moved hW.alike h5).kept hk).narrow hA, fun q hq => ?_, fun q hq => vk_R.warm hW (h7 q hq), ((vk_S.moved hW.alike h8).kept hk).narrow hA, ((va_Z.moved hW.alike h9).kept hk).narrow hA, fun a ha b hb hab => va_Nc.moved hW.alike (h10 a ha b hb hab), zkCs_go hW.alike h11⟩
  · have hn := (List.mem_filter.mp hw).2
    have hz := h2 w hw
    cases w <;> first
      | exact va_Nw.warmF hW hz
      | exact va_Nw.warmM hW hz
      | exact va_Nw.warmD hW hz
      | exact absurd hn (by simp [zkNest])
  · obtain ⟨sa, hsa⟩ := h6 q hq
    exact ⟨sa, vk_R.warm hW hsa⟩
theorem zkPc_blind (G : zkG) (as : List zkV) (mem : zkM) (sz : Nat) : FrameBlind (zkPc G as mem sz) := by
  intro a U g mk h
  obtain ⟨h1, h2, h3, h4⟩ := h
  exact ⟨h1, h2, zkSF_go (s := U) (U := U.calling g mk a) (State.WarmedH.refl U) h3 (fun q _ _ => rfl) (Nat.le_refl _), h4⟩
theorem zk_args {vs : List Value} (hc : ∀ v ∈ vs, v.category = 1) : ∀ (n k : Nat) (v : Value), vs[k]? = some v → (n + k, v) ∈ lv_args n vs := by
  induction vs with
  | nil => intro n k v h; simp at h
  | cons w vs ih =>
    intro n k v h
    have hw := hc w List.mem_cons_self
    unfold lv_args
    rw [if_neg (by omega)]
    cases k with
    | zero =>
      rw [List.getElem?_cons_zero] at h
      cases h
      exact List.mem_cons_self
    | succ k =>
      rw [List.getElem?_cons_succ] at h
      refine List.mem_cons_of_mem _ ?_
      have := ih (fun v hv => hc v (List.mem_cons_of_mem _ hv)) (n + 1) k v h
      rw [show n + (k + 1) = n + 1 + k by omega]
      exact this
theorem zk_sl {vs : List Value} (hc : ∀ v ∈ vs, v.category = 1) : (lg_sl vs).length = vs.length := by
  induction vs with
  | nil => rfl
  | cons w vs ih =>
    have hw := hc w List.mem_cons_self
    unfold lg_sl at *
    rw [List.flatMap_cons, List.length_append, if_neg (by omega), ih (fun v hv => hc v (List.mem_cons_of_mem _ hv))]
    simp
    omega
theorem zk_entry {G : zkG} {as : List zkV} {n : Nat} (hc : ∀ v ∈ as, catV v = 1) (hn : as.length ≤ n) : zkLv G ((lg_sl (as.map (tau G)) ++ List.replicate (n - (lg_sl (as.map (tau G))).length) Slot.unset).toArray) n (as.map some ++ List.replicate (n - as.length) none) := by
  have hc' : ∀ v ∈ as.map (tau G), v.category = 1 := by
    intro v hv
    obtain ⟨w, hw, rfl⟩ := List.mem_map.mp hv
    rw [catV_eq]
    exact hc w hw
  have h := lv_entry (as.map (tau G)) (n := n) (by rw [zk_sl hc', List.length_map]; exact hn)
  refine ⟨h.1, h.2.1, fun k v hv => ?_⟩
  by_cases hk : k < as.length
  · rw [List.getElem?_append_left (by rw [List.length_map]; exact hk), List.getElem?_map] at hv
    cases hq : as[k]? with
    | none => rw [hq] at hv; cases hv
    | some w =>
      rw [hq] at hv
      cases hv
      have h3 := zk_args hc' 0 k (tau G v) (by rw [List.getElem?_map, hq]; rfl)
      rw [Nat.zero_add] at h3
      exact h.2.2 _ h3
  · rw [List.getElem?_append_right (by rw [List.length_map]; omega)] at hv
    rw [List.getElem?_replicate] at hv
    split at hv <;> cases hv
/-- a contract out of the walk of its body -/
theorem zkCt_of {l : Launch} {G : zkG} {i : zkI} {d mc ms : Nat} {as : List zkV} {mem : zkM} {Q : zkO → zkM → Prop} (hl : l.stackTraces = false) (hO : zkOk i) (hy : plainName (iY i).cls = true) (hw : (iY i).cls = zkR (iO i)) (hH : iH i = []) (hc : ∀ v ∈ as, catV v = 1) (hn : as.length ≤ iL i)
    (body : zkW l G i (zkKm G d mc ms Q) 0 0 0 (as.map some ++ List.replicate (iL i - as.length) none) [] mem) : zkCt l G i d mc ms as mem Q := by
  intro sz
  have hhd : zkHd i = .code (iY i) (iC i) (iL i) (iR i) := by unfold zkHd; rw [hH]
  rw [hhd]
  refine vx_ofW (cc := iC i) (maxL := iL i) (ret := iR i) hy rfl ?_
  intro p e s m args below meth c s₁ B hml hex hv
  obtain ⟨rfl, rfl, hF, hP⟩ := hv
  have hts := atoms_spec (ws := Cond.code (iY i) (iC i) (iL i) (iR i) :: zkGw) B.pre
  rw [lg_entry_eq]
  refine body p e s m _ below meth c ⟨B.exec, B.bytes, B.returns, hml, ?_, fun w h => hts w (List.mem_cons_of_mem _ h), hF, B.notSynchronized, ?_, hl, hO, trivial⟩ s.heap [] _ hP va_S.rf (zk_entry hc hn)
  · rw [← hw]; exact findClass_of_methodNamed B.named
  · rw [hH]
    cases ht : c.exceptionTable.toList with
    | nil => rfl
    | cons x xs => exact absurd (hex x (by rw [ht]; exact List.mem_cons_self)) id
/-- of a method with handlers -/
theorem zkCt_ofH {l : Launch} {G : zkG} {i : zkI} {d mc ms : Nat} {as : List zkV} {mem : zkM} {Q : zkO → zkM → Prop} (hl : l.stackTraces = false) (hO : zkOk i) (hy : plainName (iY i).cls = true) (hw : (iY i).cls = zkR (iO i)) (hH : iH i ≠ []) (hc : ∀ v ∈ as, catV v = 1) (hn : as.length ≤ iL i)
    (body : zkW l G i (zkKm G d mc ms Q) 0 0 0 (as.map some ++ List.replicate (iL i - as.length) none) [] mem) : zkCt l G i d mc ms as mem Q := by
  intro sz
  have hhd : zkHd i = .codeWith (iY i) (iC i) (iL i) (iR i) (iH i) := by
    unfold zkHd
    split
    · next h => exact absurd h hH
    · rfl
  rw [hhd]
  refine vx_ofWH (cc := iC i) (maxL := iL i) (ret := iR i) (hh := iH i) hy rfl ?_
  intro p e s m args below meth c s₁ B hml hv
  obtain ⟨rfl, rfl, hF, hP⟩ := hv
  have hts := atoms_spec (ws := Cond.codeWith (iY i) (iC i) (iL i) (iR i) (iH i) :: zkGw) B.pre
  rw [lg_entry_eq]
  refine body p e s m _ below meth c ⟨B.exec, B.bytes, B.returns, hml, ?_, fun w h => hts w (List.mem_cons_of_mem _ h), hF, B.notSynchronized, ?_, hl, hO, trivial⟩ s.heap [] _ hP va_S.rf (zk_entry hc hn)
  · rw [← hw]; exact findClass_of_methodNamed B.named
  · exact vx_table (x := iY i) B (hts _ List.mem_cons_self)
section ZENDS
variable {l : Launch} {G : zkG} {i : zkI} {d mc ms cu su pc nx : Nat} {ls : List (Option zkV)} {mem : zkM} {Q : zkO → zkM → Prop}
theorem zk_qc {s t : State} {H : Heap} {locs : List Loc} {v : Option zkV} {a : Array Value} (hq : Q (Sum.inl v) mem) (hP : va_P (gD G) zkCl (wl G mem) H) (hS : va_S (zkA G s.heap.size) s.heap H locs) (ht : t.heap = H) : zkQc G Q a s (.returned (v.map (tau G))) t :=
  ⟨v, mem, rfl, hq, by rw [ht]; exact hP, hS.F ht⟩
theorem m_iret {x : Int} (hd : (iT i).lookup pc = some (.ireturn, nx)) (hn : nx = pc + 1) (hr : iR i = some .int) (hc : cu ≤ mc) (hs : su ≤ ms) (hq : Q (Sum.inl (some (vi x))) mem) : zkW l G i (zkKm G d mc ms Q) cu su pc ls [vi x] mem := by
  intro p e s m args below meth c C H locs a hP hS hl
  subst hn
  refine W.widen (k := mc) (n := ms) hc hs ?_
  exact vx_ret (W.iret (v := Int32.ofInt x) C.1 C.2.1 (C.2.2.1.trans hr) (fun t ht _ => zk_qc hq hP hS ht) hS.2.2 (zkC_dec C hd rfl) C.2.2.2.2.2.2.2.1)
theorem m_zret {b : Bool} (hd : (iT i).lookup pc = some (.ireturn, nx)) (hn : nx = pc + 1) (hr : iR i = some .boolean) (hc : cu ≤ mc) (hs : su ≤ ms) (hq : Q (Sum.inl (some (vi (b2i b)))) mem) : zkW l G i (zkKm G d mc ms Q) cu su pc ls [vi (b2i b)] mem := by
  intro p e s m args below meth c C H locs a hP hS hl
  subst hn
  refine W.widen (k := mc) (n := ms) hc hs ?_
  exact vx_ret (W.zret (v := Int32.ofInt (b2i b)) C.1 C.2.1 (C.2.2.1.trans hr) (zk_nb b).1 (fun t ht _ => zk_qc hq hP hS ht) hS.2.2 (zkC_dec C hd rfl) C.2.2.2.2.2.2.2.1)
theorem m_z1 (hd : (iT i).lookup pc = some (.ireturn, nx)) (hn : nx = pc + 1) (hr : iR i = some .boolean) (hc : cu ≤ mc) (hs : su ≤ ms) (hq : Q (Sum.inl (some (vi (b2i true)))) mem) : zkW l G i (zkKm G d mc ms Q) cu su pc ls [vi 1] mem := m_zret (b := true) hd hn hr hc hs hq
theorem m_z0 (hd : (iT i).lookup pc = some (.ireturn, nx)) (hn : nx = pc + 1) (hr : iR i = some .boolean) (hc : cu ≤ mc) (hs : su ≤ ms) (hq : Q (Sum.inl (some (vi (b2i false)))) mem) : zkW l G i (zkKm G d mc ms Q) cu su pc ls [vi 0] mem := m_zret (b := false) hd hn hr hc hs hq
theorem m_dret {x : UInt64} (hd : (iT i).lookup pc = some (.dreturn, nx)) (hn : nx = pc + 1) (hr : iR i = some .double) (hc : cu ≤ mc) (hs : su ≤ ms) (hq : Q (Sum.inl (some (vd x))) mem) : zkW l G i (zkKm G d mc ms Q) cu su pc ls [vd x] mem := by
  intro p e s m args below meth c C H locs a hP hS hl
  subst hn
  refine W.widen (k := mc) (n := ms) hc hs ?_
  exact vx_ret (W.dret (v := x) C.1 C.2.1 (C.2.2.1.trans hr) (fun t ht _ => zk_qc hq hP hS ht) hS.2.2 (zkC_dec C hd rfl) C.2.2.2.2.2.2.2.1)
theorem m_fret {x : UInt32} (hd : (iT i).lookup pc = some (.freturn, nx)) (hn : nx = pc + 1) (hr : iR i = some .float) (hc : cu ≤ mc) (hs : su ≤ ms) (hq : Q (Sum.inl (some (vf x))) mem) : zkW l G i (zkKm G d mc ms Q) cu su pc ls [vf x] mem := by
  intro p e s m args below meth c C H locs a hP hS hl
  subst hn
  refine W.widen (k := mc) (n := ms) hc hs ?_
  exact vx_ret (W.fret (v := x) C.1 C.2.1 (C.2.2.1.trans hr) (fun t ht _ => zk_qc hq hP hS ht) hS.2.2 (zkC_dec C hd rfl) C.2.2.2.2.2.2.2.1)
theorem m_aret {t j : Nat} {R0 : String} (hd : (iT i).lookup pc = some (.areturn, nx)) (hn : nx = pc + 1) (hr : iR i = some (.object R0)) (hc : cu ≤ mc) (hs : su ≤ ms) (hq : Q (Sum.inl (some (vr t j))) mem) : zkW l G i (zkKm G d mc ms Q) cu su pc ls [vr t j] mem := by
  intro p e s m args below meth c C H locs a hP hS hl
  subst hn
  refine W.widen (k := mc) (n := ms) hc hs ?_
  exact vx_ret (W.aret (v := .ref (ga G (t, j))) C.1 C.2.1 (C.2.2.1.trans hr) (Or.inl ⟨_, rfl⟩) (Or.inr ⟨_, rfl⟩) (fun t ht _ => zk_qc (v := some (vr _ _)) hq hP hS ht) hS.2.2 (zkC_dec C hd rfl) C.2.2.2.2.2.2.2.1)
theorem m_vret (hd : (iT i).lookup pc = some (.return_, nx)) (hn : nx = pc + 1) (hr : iR i = none) (hc : cu ≤ mc) (hs : su ≤ ms) (hq : Q (Sum.inl none) mem) : zkW l G i (zkKm G d mc ms Q) cu su pc ls [] mem := by
  intro p e s m args below meth c C H locs a hP hS hl
  subst hn
  refine W.widen (k := mc) (n := ms) hc hs ?_
  exact vx_ret (W.vret C.1 C.2.1 (C.2.2.1.trans hr) (fun t ht _ => zk_qc (v := none) hq hP hS ht) hS.2.2 (zkC_dec C hd rfl) C.2.2.2.2.2.2.2.1)
end ZENDS
end
section
/-! calls -/
/-- an exception stands over the method -/
def zkX (l : Launch) (G : zkG) (i : zkI) (K : zkK) (cu su pc : Nat) (ls : List (Option zkV)) (E : String) (mem : zkM) : Prop :=
  ∀ (p : Program) (e : Env) (s : State) (m : MethodId) (args : Array Value) (below : List Frame) (meth : Method) (c : Code), zkC l G i K p s m args meth c → ∀ (H : Heap) (locs : List Loc) (a : Array Slot) (q : Addr) (ce : Cell) (rest : List Value), va_P (gD G) zkCl (wl G mem) H → va_S (zkA G s.heap.size) s.heap H locs → zkLv G a (iL i) ls → H[q]? = some ce → ce.vm = .none → s.vm.findClass E = some ce.cls →
    vx_W p l e K.1 s m args below meth c H locs cu su (K.2.1 below args s) (F0 m pc a rest) q
/-- how a call is linked -/
def zkLk (o idx : Nat) (ci : zkI) (st ne : Bool) (n : Nat) : Prop :=
  (if ne then Cond.methodLinkNest (zkR o) idx (iY ci) RX7 ∈ zkNw else Cond.methodLink (zkR o) idx (iY ci) ∈ zkGw) ∧ zkHd ci ∈ zkGw ∧ Cond.initialized (iY ci).cls ∈ zkGw ∧
  (if st then Cond.static (iY ci) ∈ zkGw else Cond.instanceMethod (iY ci) ∈ zkGw ∧ Cond.selects (iY ci).cls (iY ci) (iY ci) ∈ zkGw) ∧
  ((iY ci).cls ≠ "java/lang/invoke/MethodHandle" ∧ (iY ci).cls ≠ "java/lang/invoke/VarHandle") ∧ (parseMethodDescriptor (iY ci).desc).map (fun d => d.parameters.length) = some n ∧ (iY ci).cls = zkR (iO ci)
section ZCALL
variable {l : Launch} {G : zkG} {i ci : zkI} {K : zkK} {cu su pc nx : Nat} {ls : List (Option zkV)} {st : List zkV} {mem : zkM}
theorem zk_named {args : Array Value} {s : State} (h : (zkHd ci).before args s = true) : ∃ (mk : MethodId) (methM : Method), s.methodNamed? (iY ci) = some mk ∧ s.vm.method? mk = some methM ∧ parseMethodDescriptor (iY ci).desc = some methM.sig := by
  unfold zkHd at h
  split at h
  · obtain ⟨mk, hnamed⟩ := Cond.code_named h
    obtain ⟨methM, cM, hmethM, -, -, -, -, -, -, hsigM⟩ := Cond.code_spec hnamed h
    exact ⟨mk, methM, hnamed, hmethM, hsigM⟩
  · obtain ⟨mk, methM, cM, hnamed, hmethM, -, -, -, -, -, -, hsigM⟩ := Cond.codeWith_spec h
    exact ⟨mk, methM, hnamed, hmethM, hsigM⟩
theorem zk_back {R : Room} {p : Program} {e : Env} {below : List Frame} {s : State} {args : Array Value} {d mc ms sz : Nat} {as : List zkV} {Q : zkO → zkM → Prop} (hM : vx_Met l (iY ci) (zkHd ci :: zkGw) (zkRm d mc ms) (zkPc G as mem sz) (zkQc G Q) (zkXc G Q) mc ms (zkA G sz)) (hf : d + 1 ≤ R.frames) (hlo : 40 * d + 119 + iL ci ≤ R.locals) (hts : ∀ w ∈ zkGw, w.before args s = true) (hh : zkHd ci ∈ zkGw) (hini : Cond.initialized (iY ci).cls ∈ zkGw) :
    vx_Back l R p e below s args (iY ci) 3 8 (PreOf R mc ms (zkPc G as mem sz)) (PostOf (zkQc G Q) mc ms (zkA G sz)) (vx_Post (zkXc G Q) mc ms (zkA G sz)) := by
  have hws : ∀ w ∈ zkHd ci :: zkGw, ∀ (a' : Array Value) (U : State), s.WarmedH U.vm → w.before a' U = true := fun w hw => pay_in hts zkGw_good w (by rcases List.mem_cons.mp hw with rfl | h; exact hh; exact h)
  have hin2 : ∀ (a' : Array Value) (U : State), s.WarmedH U.vm → (Cond.initialized (iY ci).cls).before a' U = true := fun a' U hW => pay_in hts zkGw_good _ hini a' U hW
  have hloc : 8 + (iL ci + 11) + (zkRm d mc ms).locals ≤ R.locals := by show 8 + (iL ci + 11) + (40 * d + 100) ≤ R.locals; omega
  by_cases h : iH ci = []
  · have hhd : zkHd ci = .code (iY ci) (iC ci) (iL ci) (iR ci) := by unfold zkHd; rw [h]
    exact vx_back (bytes := iC ci) (maxL := iL ci) (ret := iR ci) hM (zkPc_blind G as mem sz) rfl rfl hf hloc hws (by rw [hhd]; exact List.mem_cons_self) hin2
  · have hhd : zkHd ci = .codeWith (iY ci) (iC ci) (iL ci) (iR ci) (iH ci) := by
      unfold zkHd
      split
      · next h2 => exact absurd h2 h
      · rfl
    exact vx_backW (bytes := iC ci) (maxL := iL ci) (ret := iR ci) (hh := iH ci) hM (zkPc_blind G as mem sz) rfl rfl hf hloc hws (by rw [hhd]; exact List.mem_cons_self) hin2
theorem zk_tau_rev (as : List zkV) (st : List zkV) : (as.reverse ++ st).map (tau G) = (as.map (tau G)).reverse ++ st.map (tau G) := by rw [List.map_append, List.map_reverse]
/-- behind a call: the rest of the walk -/
theorem zk_behind {p : Program} {e : Env} {s : State} {m : MethodId} {args : Array Value} {below : List Frame} {meth : Method} {c : Code} {H : Heap} {locs : List Loc} {a : Array Slot} {mc ms : Nat} {as : List zkV} {Q : zkO → zkM → Prop} {T : State} {vs : Array Value} {g : JFrame} {vm₁ : Vm}
    (C : zkC l G i K p s m args meth c) (hS : va_S (zkA G s.heap.size) s.heap H locs) (hl : zkLv G a (iL i) ls) (hT : T.heap = H) (hg : g = F0 m pc a ((as.reverse ++ st).map (tau G)))
    (kr : ∀ (v : Option zkV) (m' : zkM), Q (Sum.inl v) m' → zkW l G i K (cu + mc) (su + ms) (pc + 3) ls (v.toList ++ st) m')
    (kx : ∀ (E : String) (m' : zkM), Q (Sum.inr E) m' → zkX l G i K (cu + mc) (su + ms) pc ls E m')
    (hr : (∃ (v : Option Value) (B : Pt), Stand p l e K.1 s m args below meth c B.U B.locs B.cells B.slots ∧ PostOf (zkQc G Q) mc ms (zkA G H.size) ⟨T.setVm vm₁, locs, cu, su⟩ vs v B ∧ ∀ target, Steps p.tables e below (B.U.setTop { g with pc := g.pc + 3, stack := v.toList ++ st.map (tau G) }) target → Steps p.tables e below (T.setTop g) target) ∨
      (∃ (q : Addr) (B : Pt), s.WarmedH vm₁ ∧ Stand p l e K.1 s m args below meth c B.U B.locs B.cells B.slots ∧ vx_Post (zkXc G Q) mc ms (zkA G H.size) ⟨T.setVm vm₁, locs, cu, su⟩ vs q B ∧ Steps p.tables e below (T.setTop g) ((B.U.setTop { g with stack := st.map (tau G) }).pushFrame (.throwing q)))) :
    ∃ t, Steps p.tables e below (T.setTop g) t ∧ K.2.1 below args s t := by
  subst hg
  rcases hr with ⟨v, ⟨U', l2, c2, s2⟩, X', ⟨g', mk, t, L, e1, e2, ⟨v', m', hv, hq, hP', hF⟩, h1, hL, h2, h3⟩, st1⟩ | ⟨q, ⟨U', l2, c2, s2⟩, hW1, X', ⟨g', mk, t, L, E, ce, e1, e2, ⟨m', hq, hP', hF⟩, hce, hcv, hcl, h1, hL, h2, h3⟩, st1⟩
  · dsimp only [Pt.U, Pt.locs, Pt.cells, Pt.slots] at X' e1 e2 h1 h2 h3 st1
    subst h1; subst h2; subst h3
    cases hv
    obtain ⟨k1, k2, k3⟩ := vx_keep (A0 := zkA G s.heap.size) (A1 := zkA G H.size) (free := zkA G H.size) (st₀ := (T.setVm vm₁).calling g' mk vs) (t := t) (T' := U') hT e1 hS (fun q _ h => zkA_mono hS.1 q h) (fun q h => zkA_mono hS.1 q h) hL (by
      have h9 : ((T.setVm vm₁).calling g' mk vs).heap.size = H.size := by rw [← hT]; rfl
      rw [h9] at hF
      exact hF)
    obtain ⟨t2, a1, b1⟩ := kr v' m' hq p e s m args below meth c C U'.heap (locs ++ L) a (by rw [e1]; exact hP') k3 hl U' rfl X'
    refine ⟨t2, st1 t2 ?_, b1⟩
    have e9 : (v'.map (tau G)).toList ++ st.map (tau G) = (v'.toList ++ st).map (tau G) := by cases v' <;> rfl
    rw [e9]
    exact a1
  · dsimp only [Pt.U, Pt.locs, Pt.cells, Pt.slots] at X' e1 e2 h1 h2 h3 st1 hcl
    subst h1; subst h2; subst h3
    obtain ⟨k1, k2, k3⟩ := vx_keep (A0 := zkA G s.heap.size) (A1 := zkA G H.size) (free := zkA G H.size) (st₀ := (T.setVm vm₁).calling g' mk vs) (t := t) (T' := U') hT e1 hS (fun q _ h => zkA_mono hS.1 q h) (fun q h => zkA_mono hS.1 q h) hL (by
      have h9 : ((T.setVm vm₁).calling g' mk vs).heap.size = H.size := by rw [← hT]; rfl
      rw [h9] at hF
      exact hF)
    obtain ⟨t2, a1, b1⟩ := kx E m' hq p e s m args below meth c C U'.heap (locs ++ L) a q ce (st.map (tau G)) (by rw [e1]; exact hP') k3 hl (by rw [e1]; exact hce) hcv (vx_cls hW1 hcl) U' rfl X'
    exact ⟨t2, st1.trans a1, b1⟩
theorem zk_wsum (st : List zkV) : ((st.map (tau G)).map fun v => v.category).sum = (st.map catV).sum := by
  rw [List.map_map]
  congr 1
  exact List.map_congr_left (fun v _ => catV_eq G v)
theorem zk_pre {s U : State} {H : Heap} {locs : List Loc} {as : List zkV} (hF : zkSF G s s.heap.size) (hP : va_P (gD G) zkCl (wl G mem) H) (hS : va_S (zkA G s.heap.size) s.heap H locs) (hU : U.heap = H) (hW : s.WarmedH U.vm) : zkPc G as mem H.size (as.map (tau G)).toArray U := by
  refine ⟨rfl, by rw [hU], zkSF_go hW hF (fun q h1 h2 => by rw [hU]; exact hS.2.1 q h1 h2) hS.1, by rw [hU]; exact hP⟩
/-- a static call -/
theorem m_callS {idx d mc ms n : Nat} {ne : Bool} {as stk : List zkV} {Q : zkO → zkM → Prop} (hd : (iT i).lookup pc = some (.invokestatic idx, nx)) (hn : nx = pc + 3) (hk : zkLk (iO i) idx ci true ne n) (hc : zkCt l G ci d mc ms as mem Q) (hst : stk = as.reverse ++ st) (ha : as.length = n) (hw : (st.map catV).sum ≤ 8) (hf : d + 1 ≤ K.1.frames) (hlo : 40 * d + 119 + iL ci ≤ K.1.locals) (h1 : cu + mc ≤ K.1.cells) (h2 : su + ms ≤ K.1.slots)
    (kr : ∀ (v : Option zkV) (m' : zkM), Q (Sum.inl v) m' → zkW l G i K (cu + mc) (su + ms) nx ls (v.toList ++ st) m') (kx : ∀ (E : String) (m' : zkM), Q (Sum.inr E) m' → zkX l G i K (cu + mc) (su + ms) pc ls E m') : zkW l G i K cu su pc ls stk mem := by
  intro p e s m args below meth c C H locs a hP hS hl T hT X
  subst hn
  subst hst
  obtain ⟨k1, k2, k3, k4, k5, k6, k7⟩ := hk
  rw [if_pos rfl] at k4
  obtain ⟨hx, hb, hr0, hml, hown, hts, hF, -⟩ := id C
  obtain ⟨mk, methM, hnamed, hmethM, hsigM⟩ := zk_named (hts _ k2)
  have hstatic : methM.isStatic = true := Cond.static_spec hnamed hmethM (hts _ k4)
  obtain ⟨kP, hkP, -⟩ := className_of_methodNamed hnamed
  have hinitP : kP.init = .initialized := Cond.initialized_spec (findClass_of_methodNamed hnamed) hkP (hts _ k3)
  have hlen : (as.map (tau G)).length = methM.sig.parameters.length := by
    rw [hsigM] at k6
    rw [List.length_map, ha]
    exact (Option.some.inj k6).symm
  have hdec : decode c.code pc = .ok (.invokestatic idx, 3) := by rw [hb]; exact zkC_dec C hd rfl
  have hstep : ∃ vm₁, Stand p l e K.1 s m args below meth c (T.setVm vm₁) locs cu su ∧ ∀ target, (∀ acts, Steps p.tables e below (doInvoke e ((T.setVm vm₁).setTop { (F0 m pc a ((as.reverse ++ st).map (tau G))) with stack := st.map (tau G) }) acts mk (as.map (tau G)).toArray).1 target) → Steps p.tables e below (T.setTop (F0 m pc a ((as.reverse ++ st).map (tau G)))) target := by
    cases ne with
    | true => exact X.invokestaticNest hx hown (va_Nw.use rfl (hF.2.1 _ k1)) hnamed hmethM hstatic hkP hinitP k5 (g := F0 m pc a ((as.reverse ++ st).map (tau G))) rfl hlen (zk_tau_rev as st) hdec
    | false => exact X.invokestatic hx hown (hts _ k1) hnamed hmethM hstatic hkP hinitP k5 (g := F0 m pc a ((as.reverse ++ st).map (tau G))) rfl hlen (zk_tau_rev as st) hdec
  obtain ⟨vm₁, X₁, hstep₁⟩ := hstep
  have hK := zk_back (p := p) (e := e) (below := below) (hc H.size) hf hlo hts k2 k3
  have hwt : 2 * (F0 m pc a (st.map (tau G))).monitorRoom + ((st.map (tau G)).map fun v => v.category).sum ≤ 8 := lv_room (by rw [zk_wsum]; exact hw)
  have hB := hK m meth c ⟨T.setVm vm₁, locs, cu, su⟩ (F0 m pc a (st.map (tau G))) (.invokestatic idx) mk (as.map (tau G)).toArray X₁ rfl (hl.1.trans hml.symm) hdec hwt (X₁.named hnamed) ⟨h1, h2, zk_pre hF hP hS hT X₁.warmed⟩
  refine zk_behind C hS hl hT rfl kr kx (vm₁ := vm₁) (vs := (as.map (tau G)).toArray) ?_
  rcases hB with ⟨v, B, X', hpost, hsteps⟩ | ⟨q, B, X', hpost, hsteps⟩
  · exact Or.inl ⟨v, B, X', hpost, fun target h => hstep₁ _ fun acts => by rw [doInvoke_state]; exact hsteps.trans h⟩
  · exact Or.inr ⟨q, B, X₁.warmed, X', hpost, hstep₁ _ fun acts => by rw [doInvoke_state]; exact hsteps⟩
/-- a call of an object's method -/
theorem m_callV {idx d mc ms n t j : Nat} {ne : Bool} {as stk : List zkV} {Q : zkO → zkM → Prop} (hd : (iT i).lookup pc = some (.invokevirtual idx, nx)) (hn : nx = pc + 3) (hk : zkLk (iO i) idx ci false ne n) (hc : zkCt l G ci d mc ms (vr t j :: as) mem Q) (hst : stk = as.reverse ++ vr t j :: st) (hj : j < cnt t) (ht : t < 8) (ho : iO ci = t) (ha : as.length = n) (hw : (st.map catV).sum ≤ 8) (hf : d + 1 ≤ K.1.frames) (hlo : 40 * d + 119 + iL ci ≤ K.1.locals) (h1 : cu + mc ≤ K.1.cells) (h2 : su + ms ≤ K.1.slots)
    (kr : ∀ (v : Option zkV) (m' : zkM), Q (Sum.inl v) m' → zkW l G i K (cu + mc) (su + ms) nx ls (v.toList ++ st) m') (kx : ∀ (E : String) (m' : zkM), Q (Sum.inr E) m' → zkX l G i K (cu + mc) (su + ms) pc ls E m') : zkW l G i K cu su pc ls stk mem := by
  intro p e s m args below meth c C H locs a hP hS hl T hT X
  subst hn
  have hst2 : stk = (vr t j :: as).reverse ++ st := by rw [hst, List.reverse_cons, List.append_assoc]; rfl
  clear hst
  subst hst2
  obtain ⟨k1, k2, k3, k4, k5, k6, k7⟩ := hk
  rw [if_neg (by decide)] at k4
  obtain ⟨hx, hb, hr0, hml, hown, hts, hF, -⟩ := id C
  obtain ⟨mk, methM, hnamed, hmethM, hsigM⟩ := zk_named (hts _ k2)
  obtain ⟨mk', methM', hnamed', hmethM', hstM, habM⟩ := Cond.instanceMethod_spec (hts _ k4.1)
  cases hnamed.symm.trans hnamed'
  cases hmethM.symm.trans hmethM'
  -- the receiver
  obtain ⟨q0, -, he⟩ := wl_at G mem hj
  rw [zkE_obj ht] at he
  obtain ⟨r9, hr1, cell, q1, q2, q3, -⟩ := hP q0 _ he
  have hr9 : r9 = (zkR t, zkT t, nfl t) := Option.some.inj (hr1.symm.trans (zkCl_at ht))
  subst hr9
  have hclsB : s.vm.findClass (iY ci).cls = some cell.cls := by
    rw [k7, ho, q2]
    exact (hF.2.2.1.1 t _ (zkCl_at ht)).2.1
  obtain ⟨c2, r2, m2, p1, p2, p3, p4, kP, hkP, hkPi⟩ := Cond.selects_spec (hts _ k4.2)
  cases hclsB.symm.trans p1
  cases (State.methodFound?_of_named hnamed k5).symm.trans p2
  cases hnamed.symm.trans p3
  have hselP : selectMethod e.platform s.vm cell.cls mk = .method mk := by rw [Launch.admits_selectMethod X.admits]; exact p4
  have hlen : (as.map (tau G)).length = methM.sig.parameters.length := by
    rw [hsigM] at k6
    rw [List.length_map, ha]
    exact (Option.some.inj k6).symm
  have hdec : decode c.code pc = .ok (.invokevirtual idx, 3) := by rw [hb]; exact zkC_dec C hd rfl
  have hstk : ((vr t j :: as).reverse ++ st).map (tau G) = (as.map (tau G)).reverse ++ .ref (ga G (t, j)) :: st.map (tau G) := by
    rw [List.reverse_cons, List.append_assoc, zk_tau_rev]
    rfl
  have hobj : ∀ z, cell.vm ≠ .statics z := fun z h => by rw [q3] at h; cases h
  have hstep : ∃ vm₁, Stand p l e K.1 s m args below meth c (T.setVm vm₁) locs cu su ∧ ∀ target, (∀ acts, Steps p.tables e below (doInvoke e ((T.setVm vm₁).setTop { (F0 m pc a (((vr t j :: as).reverse ++ st).map (tau G))) with stack := st.map (tau G) }) acts mk ((vr t j :: as).map (tau G)).toArray).1 target) → Steps p.tables e below (T.setTop (F0 m pc a (((vr t j :: as).reverse ++ st).map (tau G)))) target := by
    cases ne with
    | true => exact X.invokevirtualNest hx hown (va_Nw.use rfl (hF.2.1 _ k1)) hnamed hmethM hstM hkP hkPi k5 (a := ga G (t, j)) (cell := cell) (by rw [hT]; exact q1) hobj hselP hmethM habM hkP hkPi (g := F0 m pc a (((vr t j :: as).reverse ++ st).map (tau G))) rfl hlen hstk hdec
    | false => exact X.invokevirtual hx hown (hts _ k1) hnamed hmethM hstM hkP hkPi k5 (a := ga G (t, j)) (cell := cell) (by rw [hT]; exact q1) hobj hselP hmethM habM hkP hkPi (g := F0 m pc a (((vr t j :: as).reverse ++ st).map (tau G))) rfl hlen hstk hdec
  obtain ⟨vm₁, X₁, hstep₁⟩ := hstep
  have hK := zk_back (p := p) (e := e) (below := below) (hc H.size) hf hlo hts k2 k3
  have hwt : 2 * (F0 m pc a (st.map (tau G))).monitorRoom + ((st.map (tau G)).map fun v => v.category).sum ≤ 8 := lv_room (by rw [zk_wsum]; exact hw)
  have hB := hK m meth c ⟨T.setVm vm₁, locs, cu, su⟩ (F0 m pc a (st.map (tau G))) (.invokevirtual idx) mk ((vr t j :: as).map (tau G)).toArray X₁ rfl (hl.1.trans hml.symm) hdec hwt (X₁.named hnamed) ⟨h1, h2, zk_pre hF hP hS hT X₁.warmed⟩
  refine zk_behind C hS hl hT rfl kr kx (vm₁ := vm₁) (vs := ((vr t j :: as).map (tau G)).toArray) ?_
  rcases hB with ⟨v, B, X', hpost, hsteps⟩ | ⟨q, B, X', hpost, hsteps⟩
  · exact Or.inl ⟨v, B, X', hpost, fun target h => hstep₁ _ fun acts => by rw [doInvoke_state]; exact hsteps.trans h⟩
  · exact Or.inr ⟨q, B, X₁.warmed, X', hpost, hstep₁ _ fun acts => by rw [doInvoke_state]; exact hsteps⟩
end ZCALL
end
section
/-! throws and catches; Math.max, Math.min; System.arraycopy -/
/-- the exceptions that the class throws: name, the link of the class, the link of its constructor -/
def zkEt : List (String × Nat × Nat) := [("java/lang/IndexOutOfBoundsException", 161, 165), ("java/lang/IllegalArgumentException", 60, 64), ("java/lang/IllegalStateException", 71, 75), ("java/lang/UnsupportedOperationException", 255, 259), ("java/lang/ArithmeticException", 195, 199)]
abbrev zkSup : List String := ["java/lang/RuntimeException", "java/lang/Exception"]
def zkIn (w : Cond) : Bool := decide (w ∈ lw_tbl) && goodWord w
theorem zkIn_use {w : Cond} (h : zkIn w = true) : w ∈ zkGw := by
  simp only [zkIn, Bool.and_eq_true, decide_eq_true_eq] at h
  exact List.mem_filter.mpr h
def zkDc : List Cond := [.declares ⟨"java/lang/RuntimeException", "<init>", "(Ljava/lang/String;)V"⟩, .declares ⟨"java/lang/Exception", "<init>", "(Ljava/lang/String;)V"⟩, .declares ⟨"java/lang/Throwable", "<init>", "(Ljava/lang/String;)V"⟩]
theorem zkDc_in : ∀ w ∈ zkDc, w ∈ lw_tbl := by decide +kernel
theorem zkDc_nw {w : Cond} (h : w ∈ zkDc) : w ∈ zkNw := List.mem_filter.mpr ⟨zkDc_in w h, by rcases List.mem_cons.mp h with rfl | h; rfl; rcases List.mem_cons.mp h with rfl | h; rfl; rcases List.mem_cons.mp h with rfl | h; rfl; cases h⟩
def zkEq (E : String) (ik ic : Nat) : Prop := zkIn (.classLink RX7 ik E) = true ∧ zkIn (.initialized E) = true ∧ Bundle.fit E = true ∧ E ∈ zkEx ∧ vx_ot (.classLink RX7 ik E) = true ∧ vx_ot (.initialized E) = true ∧ (vx_atS RX7 ic E zkSup).all vx_ot = true ∧ (∀ w ∈ (vx_atS RX7 ic E zkSup).filter goodWord, w ∈ lw_tbl) ∧ (∀ w ∈ (vx_atS RX7 ic E zkSup).filter (fun w => !goodWord w), w ∈ Cond.castable E E :: zkDc)
theorem zkEq_0 : zkEq "java/lang/IndexOutOfBoundsException" 161 165 := ⟨by decide +kernel, by decide +kernel, by decide +kernel, by decide +kernel, by decide +kernel, by decide +kernel, by decide +kernel, by decide +kernel, by decide +kernel⟩
theorem zkEq_1 : zkEq "java/lang/IllegalArgumentException" 60 64 := ⟨by decide +kernel, by decide +kernel, by decide +kernel, by decide +kernel, by decide +kernel, by decide +kernel, by decide +kernel, by decide +kernel, by decide +kernel⟩
theorem zkEq_2 : zkEq "java/lang/IllegalStateException" 71 75 := ⟨by decide +kernel, by decide +kernel, by decide +kernel, by decide +kernel, by decide +kernel, by decide +kernel, by decide +kernel, by decide +kernel, by decide +kernel⟩
theorem zkEq_3 : zkEq "java/lang/UnsupportedOperationException" 255 259 := ⟨by decide +kernel, by decide +kernel, by decide +kernel, by decide +kernel, by decide +kernel, by decide +kernel, by decide +kernel, by decide +kernel, by decide +kernel⟩
theorem zkEq_5 : zkEq "java/lang/ArithmeticException" 195 199 := ⟨by decide +kernel, by decide +kernel, by decide +kernel, by decide +kernel, by decide +kernel, by decide +kernel, by decide +kernel, by decide +kernel, by decide +kernel⟩
theorem zkEt_ok : ∀ q ∈ zkEt, zkEq q.1 q.2.1 q.2.2 := List.forall_mem_cons.mpr ⟨zkEq_0, List.forall_mem_cons.mpr ⟨zkEq_1, List.forall_mem_cons.mpr ⟨zkEq_2, List.forall_mem_cons.mpr ⟨zkEq_3, List.forall_mem_cons.mpr ⟨zkEq_5, fun _ h => nomatch h⟩⟩⟩⟩⟩
theorem zkSup_ok : ∀ n ∈ zkSup, Bundle.fit n = true := by decide +kernel
section ZTHROW
variable {l : Launch} {G : zkG} {i : zkI} {d mc ms cu su pc : Nat} {ls : List (Option zkV)} {st : List zkV} {mem : zkM} {Q : zkO → zkM → Prop}
theorem zk_xc {s t : State} {H : Heap} {locs : List Loc} {E : String} (hq : Q (Sum.inr E) mem) (hP : va_P (gD G) zkCl (wl G mem) H) (hS : va_S (zkA G s.heap.size) s.heap H locs) (h1 : H.size ≤ t.heap.size) (h2 : ∀ q : Nat, q < H.size → t.heap[q]? = H[q]?) : zkXc G Q E s t := by
  refine ⟨mem, hq, hP.kept (fun k q hk => h2 q.1 (hP k q hk).lt), Nat.le_trans hS.1 h1, fun q hq1 hq2 => ?_⟩
  rw [h2 q (Nat.lt_of_lt_of_le hq1 hS.1)]
  exact hS.2.1 q hq1 hq2
theorem zk_thr {E : String} {ik ic : Nat} (hE : (E, ik, ic) ∈ zkEt) {args : Array Value} {s : State} (hts : ∀ w ∈ zkGw, w.before args s = true) (hN : ∀ w ∈ zkNw, va_Nw w s) (hc : zkCs s) : Bundle.fit E = true ∧ (Cond.classLink RX7 ik E).before args s = true ∧ (Cond.initialized E).before args s = true ∧ (∀ w ∈ vx_atS RX7 ic E zkSup, w.before args s = true) ∧ ∀ w ∈ Cond.classLink RX7 ik E :: Cond.initialized E :: vx_atS RX7 ic E zkSup, vx_ot w = true := by
  obtain ⟨a1, a2, a3, a4, a5, a6, a7, a8, a9⟩ := zkEt_ok _ hE
  refine ⟨a3, hts _ (zkIn_use a1), hts _ (zkIn_use a2), fun w hw => ?_, fun w hw => ?_⟩
  · by_cases hg : goodWord w = true
    · exact hts _ (List.mem_filter.mpr ⟨a8 w (List.mem_filter.mpr ⟨hw, hg⟩), hg⟩)
    · have h9 := a9 w (List.mem_filter.mpr ⟨hw, by simp only [hg, Bool.not_eq_true', Bool.not_false]⟩)
      rcases List.mem_cons.mp h9 with rfl | h9
      · exact zkCs_use hc a4 args
      · have h10 := zkDc_nw h9
        have h11 := hN w h10
        rcases List.mem_cons.mp h9 with rfl | h9
        · exact va_Nw.use rfl h11
        · rcases List.mem_cons.mp h9 with rfl | h9
          · exact va_Nw.use rfl h11
          · rcases List.mem_cons.mp h9 with rfl | h9
            · exact va_Nw.use rfl h11
            · cases h9
  · rcases List.mem_cons.mp hw with rfl | hw
    · exact a5
    · rcases List.mem_cons.mp hw with rfl | hw
      · exact a6
      · exact List.all_eq_true.mp a7 w hw
theorem m_throw {E text : String} {ik is ic n0 n3 n4 n6 n9 : Nat} (h0 : (iT i).lookup pc = some (.new ik, n0)) (e0 : n0 = pc + 3) (h3 : (iT i).lookup n0 = some (.dup, n3)) (e3 : n3 = n0 + 1) (h4 : (iT i).lookup n3 = some (.ldc is, n4)) (e4 : n4 = n3 + 2) (h6 : (iT i).lookup n4 = some (.invokespecial ic, n6)) (e6 : n6 = n4 + 3) (h9 : (iT i).lookup n6 = some (.athrow, n9)) (e9 : n9 = n6 + 1)
    (hO : iO i = 6) (hH : iH i = []) (hE : (E, ik, ic) ∈ zkEt) (hs : (RX7, is, text) ∈ zkSc) (hd : 6 ≤ d) (hw : (st.map catV).sum ≤ 8) (hc1 : cu + 1 ≤ mc) (hs1 : su + 6 ≤ ms) (hq : Q (Sum.inr E) mem) : zkW l G i (zkKm G d mc ms Q) cu su pc ls st mem := by
  intro p e s m args below meth c C H locs a hP hS hl
  subst e0 e3 e4 e6 e9
  obtain ⟨hx, hb, hr, hml, hown, hts, hF, hlk, htab, hlt, hok, -⟩ := id C
  obtain ⟨-, hNw, -, hU, hN, hS1, -, -, -, -, hCs⟩ := hF
  obtain ⟨sa, hsa⟩ := hS1 _ hs
  obtain ⟨b1, b2, b3, b4, b5⟩ := zk_thr hE hts hNw hCs
  rw [hO] at hown
  have hout : ∀ x ∈ c.exceptionTable.toList, covers x (pc + 9) = false := by rw [htab, hH]; intro x h; cases h
  refine vx_throwS hx hb hlt hown b1 zkSup_ok b2 b3 hsa b4 b5 hU hN hS (hl.1.trans hml.symm) (zk_dec hok h0 rfl) (zk_dec hok h3 rfl) (zk_dec hok h4 rfl) (zk_dec hok h6 rfl) (zk_dec hok h9 rfl) hout ?_ ?_ ?_ ?_ hlk (fun t _ h1 h2 => zk_xc hq hP hS h1 h2) hS.2.2 hc1 hs1
  · show 2 + 3 < d
    omega
  · rw [zk_wsum]
    show (st.map catV).sum + 82 ≤ 40 * d + 100
    omega
  · exact hc1
  · exact hs1
theorem m_throwW {E text : String} {ik is ic n0 n3 n4 n6 n9 : Nat} (h0 : (iT i).lookup pc = some (.new ik, n0)) (e0 : n0 = pc + 3) (h3 : (iT i).lookup n0 = some (.dup, n3)) (e3 : n3 = n0 + 1) (h4 : (iT i).lookup n3 = some (.ldc_w is, n4)) (e4 : n4 = n3 + 3) (h6 : (iT i).lookup n4 = some (.invokespecial ic, n6)) (e6 : n6 = n4 + 3) (h9 : (iT i).lookup n6 = some (.athrow, n9)) (e9 : n9 = n6 + 1)
    (hO : iO i = 6) (hH : iH i = []) (hE : (E, ik, ic) ∈ zkEt) (hs : (RX7, is, text) ∈ zkSc) (hd : 6 ≤ d) (hw : (st.map catV).sum ≤ 8) (hc1 : cu + 1 ≤ mc) (hs1 : su + 6 ≤ ms) (hq : Q (Sum.inr E) mem) : zkW l G i (zkKm G d mc ms Q) cu su pc ls st mem := by
  intro p e s m args below meth c C H locs a hP hS hl
  subst e0 e3 e4 e6 e9
  obtain ⟨hx, hb, hr, hml, hown, hts, hF, hlk, htab, hlt, hok, -⟩ := id C
  obtain ⟨-, hNw, -, hU, hN, hS1, -, -, -, -, hCs⟩ := hF
  obtain ⟨sa, hsa⟩ := hS1 _ hs
  obtain ⟨b1, b2, b3, b4, b5⟩ := zk_thr hE hts hNw hCs
  rw [hO] at hown
  have hout : ∀ x ∈ c.exceptionTable.toList, covers x (pc + 10) = false := by rw [htab, hH]; intro x h; cases h
  refine vx_throwSW hx hb hlt hown b1 zkSup_ok b2 b3 hsa b4 b5 hU hN hS (hl.1.trans hml.symm) (zk_dec hok h0 rfl) (zk_dec hok h3 rfl) (zk_dec hok h4 rfl) (zk_dec hok h6 rfl) (zk_dec hok h9 rfl) hout ?_ ?_ ?_ ?_ hlk (fun t _ h1 h2 => zk_xc hq hP hS h1 h2) hS.2.2 hc1 hs1
  · show 2 + 3 < d
    omega
  · rw [zk_wsum]
    show (st.map catV).sum + 82 ≤ 40 * d + 100
    omega
  · exact hc1
  · exact hs1
/-- an exception of a callee goes on to the caller -/
theorem x_out {E : String} (hH : iH i = []) (hc1 : cu ≤ mc) (hs1 : su ≤ ms) (hq : Q (Sum.inr E) mem) : zkX l G i (zkKm G d mc ms Q) cu su pc ls E mem := by
  intro p e s m args below meth c C H locs a q ce rest hP hS hl hce hcv hcl
  obtain ⟨hx, hb, hr, hml, hown, hts, hF, hlk, htab, hlt, hok, -⟩ := id C
  refine vx_out (by rw [htab, hH]; intro x h; cases h) hlk hce hcv hcl (fun t ht _ => zk_xc hq hP hS (by rw [ht]; exact Nat.le_refl _) (fun q _ => by rw [ht])) hS.2.2 hc1 hs1
end ZTHROW
/-- it is caught by a row of the method's own table -/
theorem x_catch {l : Launch} {G : zkG} {i : zkI} {K : zkK} {cu su pc : Nat} {ls : List (Option zkV)} {mem : zkM} {E : String} {A B : List (Nat × Nat × Nat × Nat)} {s0 e0 hp ct : Nat} (hsp : iH i = A ++ (s0, e0, hp, ct) :: B) (hcv : covers ⟨s0, e0, hp, ct⟩ pc = true) (h0 : ct ≠ 0) (hE : E ∈ zkEx) (hl0 : Cond.classLink (zkR (iO i)) ct E ∈ zkGw)
    (hA : ∀ z ∈ A, z.2.2.2 ≠ 0 ∧ ∃ nm ∈ zkEx, E ≠ nm ∧ Cond.classLink (zkR (iO i)) z.2.2.2 nm ∈ zkGw) (k : ∀ q : Nat, zkW l G i K cu su hp ls [vv (.ref q)] mem) : zkX l G i K cu su pc ls E mem := by
  intro p e s m args below meth c C H locs a q ce rest hP hS hl hce hcv2 hcl
  obtain ⟨hx, hb, hr, hml, hown, hts, hF, hlk, htab, hlt, hok, -⟩ := id C
  obtain ⟨-, -, -, -, -, -, -, -, -, hNc, hCs⟩ := hF
  refine vx_catch (name := E) hown (tableOf A) ⟨s0, e0, hp, ct⟩ (tableOf B) ?_ ?_ hcv h0 (hts _ hl0) (zkCs_use hCs hE args) hce hcv2 hcl (k q p e s m args below meth c C H locs a hP hS hl)
  · rw [htab, hsp]
    unfold tableOf
    rw [List.map_append, List.map_cons]
  · intro z hz
    obtain ⟨y, hy, rfl⟩ := List.mem_map.mp hz
    obtain ⟨h1, nm, h2, h3, h4⟩ := hA y hy
    exact Or.inr ⟨h1, nm, hts _ h4, hNc E hE nm h2 h3⟩
/-! Math, arraycopy -/
theorem zkMath : zkIn (.static Lib.Math.max.name) && zkIn (.initialized "java/lang/Math") && zkIn (.code Lib.Math.max.name Lib.Math.max.code 2 (some .int)) && zkIn (.static Lib.Math.min.name) && zkIn (.code Lib.Math.min.name Lib.Math.min.code 2 (some .int)) && zkIn (.native arraycopyName) && zkIn (.static arraycopyName) && zkIn (.initialized "java/lang/System") = true := by decide +kernel
section ZJDK
variable {l : Launch} {G : zkG} {i : zkI} {K : zkK} {cu su pc nx : Nat} {ls : List (Option zkV)} {st : List zkV} {mem : zkM}
theorem m_max {idx : Nat} {x y : Int} (hd : (iT i).lookup pc = some (.invokestatic idx, nx)) (hn : nx = pc + 3) (hk : zkIn (.methodLink (zkR (iO i)) idx Lib.Math.max.name) = true) (hx0 : inR x) (hy0 : inR y) (hf : 1 ≤ K.1.frames) (hw : (st.map catV).sum + 13 ≤ K.1.locals) (h1 : cu ≤ K.1.cells) (h2 : su ≤ K.1.slots) (k : zkW l G i K cu su nx ls (vi (max x y) :: st) mem) : zkW l G i K cu su pc ls (vi y :: vi x :: st) mem := by
  intro p e s m args below meth c C H locs a hP hS hl
  subst hn
  obtain ⟨hx, hb, hr, hml, hown, hts, -⟩ := id C
  have hm := zkMath
  simp only [Bool.and_eq_true] at hm
  obtain ⟨⟨⟨⟨⟨⟨⟨m1, m2⟩, m3⟩, m4⟩, m5⟩, m6⟩, m7⟩, m8⟩ := hm
  have hq := k p e s m args below meth c C H locs a hP hS hl
  have e1 : tau G (vi (max x y)) = .int (if Int32.ofInt x < Int32.ofInt y then Int32.ofInt y else Int32.ofInt x) := by
    show Value.int (Int32.ofInt (max x y)) = _
    by_cases h : x < y
    · rw [if_pos ((i32_lt hx0 hy0).mpr h), Int.max_eq_right (Int.le_of_lt h)]
    · rw [if_neg (fun q => h ((i32_lt hx0 hy0).mp q)), Int.max_eq_left (by omega)]
  rw [List.map_cons, e1] at hq
  exact va_mmax hx hb (hml.trans hl.1.symm) hown (hts _ (zkIn_use hk)) (hts _ (zkIn_use m1)) (hts _ (zkIn_use m2)) (hts _ (zkIn_use m3)) hf (by rw [zk_wsum]; exact hw) h1 h2 (zkC_dec C hd rfl) hq
theorem m_min {idx : Nat} {x y : Int} (hd : (iT i).lookup pc = some (.invokestatic idx, nx)) (hn : nx = pc + 3) (hk : zkIn (.methodLink (zkR (iO i)) idx Lib.Math.min.name) = true) (hx0 : inR x) (hy0 : inR y) (hf : 1 ≤ K.1.frames) (hw : (st.map catV).sum + 13 ≤ K.1.locals) (h1 : cu ≤ K.1.cells) (h2 : su ≤ K.1.slots) (k : zkW l G i K cu su nx ls (vi (min x y) :: st) mem) : zkW l G i K cu su pc ls (vi y :: vi x :: st) mem := by
  intro p e s m args below meth c C H locs a hP hS hl
  subst hn
  obtain ⟨hx, hb, hr, hml, hown, hts, -⟩ := id C
  have hm := zkMath
  simp only [Bool.and_eq_true] at hm
  obtain ⟨⟨⟨⟨⟨⟨⟨m1, m2⟩, m3⟩, m4⟩, m5⟩, m6⟩, m7⟩, m8⟩ := hm
  have hq := k p e s m args below meth c C H locs a hP hS hl
  have e1 : tau G (vi (min x y)) = .int (if Int32.ofInt y < Int32.ofInt x then Int32.ofInt y else Int32.ofInt x) := by
    show Value.int (Int32.ofInt (min x y)) = _
    by_cases h : y < x
    · rw [if_pos ((i32_lt hy0 hx0).mpr h), Int.min_eq_right (Int.le_of_lt h)]
    · rw [if_neg (fun q => h ((i32_lt hy0 hx0).mp q)), Int.min_eq_left (by omega)]
  rw [List.map_cons, e1] at hq
  exact va_mmin hx hb (hml.trans hl.1.symm) hown (hts _ (zkIn_use hk)) (hts _ (zkIn_use m4)) (hts _ (zkIn_use m2)) (hts _ (zkIn_use m5)) hf (by rw [zk_wsum]; exact hw) h1 h2 (zkC_dec C hd rfl) hq
/-- a whole row is copied onto another of its kind -/
theorem m_acopy {idx t j j2 : Nat} (hd : (iT i).lookup pc = some (.invokestatic idx, nx)) (hn : nx = pc + 3) (hk : zkIn (.methodLink (zkR (iO i)) idx arraycopyName) = true) (h8 : 8 ≤ t) (hka : akd t = 0) (hj : j < cnt t) (hj2 : j2 < cnt t) (hf : 1 ≤ K.1.frames) (hw : (st.map catV).sum + (nativeFrameWords "java/lang/System" "arraycopy" 5 + 11) ≤ K.1.locals)
    (k : zkW l G i K cu su nx ls st (mrow mem t j2 (fun x => if x < aln t then mem t j x else mem t j2 x))) : zkW l G i K cu su pc ls (vi (aln t) :: vi 0 :: vr t j2 :: vi 0 :: vr t j :: st) mem := by
  intro p e s m args below meth c C H locs a hP hS hl
  subst hn
  obtain ⟨hx, hb, hr, hml, hown, hts, hF, -⟩ := id C
  have hm := zkMath
  simp only [Bool.and_eq_true] at hm
  obtain ⟨⟨⟨⟨⟨⟨⟨m1, m2⟩, m3⟩, m4⟩, m5⟩, m6⟩, m7⟩, m8⟩ := hm
  obtain ⟨q0, hq0, he0⟩ := wl_at G mem hj
  obtain ⟨q1, hq1, he1⟩ := wl_at G mem hj2
  rw [zkE_ari h8 (Or.inl hka), hka] at he0 he1
  have hl2 := aln_lt t
  have c0 : (Int32.ofInt 0).toNatClampNeg = 0 := zk_cl (by decide) (by decide)
  have cn : (Int32.ofInt (aln t : Int)).toNatClampNeg = aln t := by rw [zk_cl (by omega) (by omega)]; omega
  have n0 : ¬ Int32.ofInt 0 < 0 := by decide
  have nn : ¬ Int32.ofInt (aln t : Int) < 0 := by
    rw [i32_0, i32_lt ⟨by omega, by omega⟩ inR_0]
    omega
  refine va_copyi hx hb (hml.trans hl.1.symm) hown (hts _ (zkIn_use hk)) (hts _ (zkIn_use m6)) (hts _ (zkIn_use m7)) (hts _ (zkIn_use m8)) hF.2.2.1 hP (wl_D hF.1 mem _) hS q0 q1 0 0 he0 he1 rfl rfl rfl n0 n0 nn (by rw [c0, cn]; omega) (by rw [c0, cn]; omega) (fun _ _ => rfl) hf (by rw [zk_wsum]; exact hw) (zkC_dec C hd rfl) (fun H1 locs1 hP1 _ hS1 => k p e s m args below meth c C H1 locs1 a ?_ hS1 hl)
  rw [c0, cn] at hP1
  have e0 : va_cpy (fun y => Int32.ofInt (mem t j y)) (fun y => Int32.ofInt (mem t j2 y)) 0 0 (aln t) = fun y => Int32.ofInt (mrow mem t j2 (fun x => if x < aln t then mem t j x else mem t j2 x) t j2 y) := by
    funext y
    unfold va_cpy mrow
    by_cases e : y < aln t <;> simp [e]
  rw [e0] at hP1
  have e1 := wl_set (G := G) (m := mem) (m' := mrow mem t j2 (fun x => if x < aln t then mem t j x else mem t j2 x)) hq1 (fun u hu hne => zkE_off (fun k' => mrow_off hne k'))
  rw [zkE_ari h8 (Or.inl hka), hka] at e1
  exact e1 ▸ hP1
end ZJDK
end
section
/-! throw new E("..") whose constructor links its superclass's by another index (turned from the kit's rows of EXCEPTIONS.to-paste) -/
def zkAtX (own : String) (ic : Nat) (X Y : String) (ix : Nat) (bx : ByteArray) (names : List String) : List Cond :=
  Bundle.throwableAtoms ++ Bundle.throwableSAtoms ++ (Bundle.passSAtoms X Y ix bx ++ Bundle.chainSAtoms Y names) ++
  [.methodLink own ic (Bundle.initS X), .instantiable X 6, .castable X X, .selects X Bundle.tFill0 Bundle.tFill0, .selects X Bundle.tFill Bundle.tFill,
   .lays X Bundle.tN "cause" "Ljava/lang/Throwable;", .lays X Bundle.tN "stackTrace" Bundle.steD, .lays X Bundle.tN "suppressedExceptions" Bundle.listD, .lays X Bundle.tN "detailMessage" "Ljava/lang/String;",
   .isRef (.static Bundle.tN "UNASSIGNED_STACK" Bundle.steD), .isRef (.static Bundle.tN "SUPPRESSED_SENTINEL" Bundle.listD),
   .fieldLink Bundle.tN 198 Bundle.tN "backtrace" "Ljava/lang/Object;", .lays Bundle.tN Bundle.tN "backtrace" "Ljava/lang/Object;", .lays X Bundle.tN "backtrace" "Ljava/lang/Object;"]
def zkAtF (own : String) (ic : Nat) (X Y : String) (ix : Nat) (bx : ByteArray) (names : List String) : List Cond := (zkAtX own ic X Y ix bx names).filter vx_no
theorem zk_chain {args : Array Value} {s : State} {pl : Platform} (hpl : pl.magicAccessors = ({} : Platform).magicAccessors) {top : MethodId} (htop : s.methodNamed? (Bundle.initS Bundle.tN) = some top) {ix : Nat} {bx : ByteArray} (b0 : decode bx 0 = .ok (.aload_n 0, 1)) (b1 : decode bx 1 = .ok (.aload_n 1, 1)) (b2 : decode bx 2 = .ok (.invokespecial ix, 3)) (b5 : decode bx 5 = .ok (.return_, 1))
    (names : List String) (X Y : String) (hX : Bundle.fit X = true) (hY : Bundle.fit Y = true) (hn : ∀ n ∈ names, Bundle.fit n = true) (h : ∀ c ∈ Bundle.passSAtoms X Y ix bx ++ Bundle.chainSAtoms Y names, c.before args s = true) :
      ∃ (P1 : PassC) (Ps : List PassC), Ps.length = names.length + 1 ∧ P1.LinksS pl s ∧ (∀ P, P ∈ Ps → P.LinksS pl s) ∧ s.methodNamed? (Bundle.initS X) = some P1.m ∧
        P1.sup = firstOf top (Ps.map (·.toPassT)) ∧ PassesOn top (Ps.map (·.toPassT)) := by
  obtain ⟨P, L, hm, hs⟩ := PassC.ofS_atoms (args := args) (s := s) hpl (X := X) (Y := Y) (Bundle.fit_spec hX).1 (Bundle.fit_spec hY).2 b0 b1 b2 b5 (fun c hc => h c (List.mem_append_left _ hc))
  obtain ⟨P', Ps, hlen, L', hL, hm', hsup, hpass⟩ := Bundle.chainS (args := args) hpl htop names Y hY hn (fun c hc => h c (List.mem_append_right _ hc))
  refine ⟨P, P' :: Ps, by simp [hlen], L, ?_, hm, Option.some.inj (hs.symm.trans hm'), hsup, hpass⟩
  intro Q hQ
  rcases List.mem_cons.mp hQ with rfl | hQ
  · exact L'
  · exact hL Q hQ
section ZCT
variable {p : Program} {l : Launch} {e : Env} {R : Room} {s : State} {m₀ : MethodId} {args : Array Value} {below : List Frame} {meth : Method} {c : Code} {W : State} {locs : List Loc} {cells slots : Nat}
set_option maxHeartbeats 4000000 in
theorem zk_ctorMade (X : Stand p l e R s m₀ args below meth c W locs cells slots) (hexec : p.tables.exec = Jvm.exec) (htr : e.platform.stackTraces = false) {own cls sup : String} {names : List String} {ic ix : Nat} {bx : ByteArray} (b0 : decode bx 0 = .ok (.aload_n 0, 1)) (b1 : decode bx 1 = .ok (.aload_n 1, 1)) (b2 : decode bx 2 = .ok (.invokespecial ix, 3)) (b5 : decode bx 5 = .ok (.return_, 1)) (hsup : Bundle.fit sup = true)
    (hown : s.vm.findClass own = some m₀.cls) (hcls : Bundle.fit cls = true) (hnames : ∀ n ∈ names, Bundle.fit n = true)
    (h : ∀ a ∈ zkAtX own ic cls sup ix bx names, a.before args s = true)
    (hlocs : ∀ x ∈ locs, ∀ cell, s.heap[x.base]? = some cell → cell.vm.isStatics = false)
    {a : Addr} {cX : ClassId} {kX : Class} (hfoundX : s.vm.findClass cls = some cX) (hkX : s.vm.classes[cX]? = some kX) (hcell : W.heap[a]? = some (freshCell cX kX)) (hnew : s.heap.size ≤ a)
    {msg : Value} (hmsg : msg.isRef = true)
    {g : JFrame} (hg : g.method = m₀) (hsize : g.locals.size = c.maxLocals) {rest : List Value} (hstack : g.stack = msg :: .ref a :: .ref a :: rest)
    (hd6 : decode c.code g.pc = .ok (.invokespecial ic, 3))
    (hRframes : names.length + 4 < R.frames) (hRlocals : 2 * g.monitorRoom + ((Value.ref a :: rest).map fun v => v.category).sum + (13 * (names.length + 2) + 42) ≤ R.locals) :
    ∃ (V : State) (ce : Cell) (L : List Loc), Stand p l e R s m₀ args below meth c (V.setCell a ce) (locs ++ L) cells slots ∧ (∀ y ∈ L, y.base = a) ∧ a < V.heap.size ∧ ce.cls = cX ∧ ce.vm = .none ∧
      ∀ target, Steps p.tables e below ((V.setCell a ce).setTop { g with stack := .ref a :: rest, pc := g.pc + 3 }) target → Steps p.tables e below (W.setTop g) target := by
  have howns : e.platform.frameOwnsMonitors = true := by rw [X.admits.platform]
  have hfin : e.platform.finalization = false := by rw [X.admits.platform]
  have hpl : e.platform.magicAccessors = ({} : Platform).magicAccessors := by rw [X.admits.platform]
  have a' : ∀ x, x ∈ zkAtX own ic cls sup ix bx names → x.holds args s none s [] = true := fun x hx => h x hx
  obtain ⟨T, Z0, L, -, Y⟩ := ThrowableC.of_atoms (args := args) howns hfin hpl (fun x hx => h x (by simp [zkAtX, hx]))
  obtain ⟨Z, M, LZ, LM, hnZ⟩ := Init0T.ofS_atoms (args := args) hpl L Y (fun x hx => h x (by simp [zkAtX, hx]))
  obtain ⟨P1, Ps, hlen, L1, hL, hP1m, hlink1, hlink⟩ := zk_chain (args := args) hpl hnZ b0 b1 b2 b5 names cls sup hcls hsup hnames (fun x hx => h x (List.mem_append_left _ (List.mem_append_right _ hx)))
  have hfound : s.vm.findClass cls = some P1.m.cls := findClass_of_methodNamed hP1m
  cases Option.some.inj (hfoundX.symm.trans hfound)
  obtain ⟨c1, kX', hc1, hk, hord, -, -, hn6⟩ := Cond.instantiable_spec (a' (.instantiable cls 6) (by simp [zkAtX]))
  cases Option.some.inj (hc1.symm.trans hfound)
  cases Option.some.inj (hkX.symm.trans hk)
  have hsel0 : selectMethod e.platform s.vm P1.m.cls T.fill0 = .method T.fill0 := by
    obtain ⟨c2, r2, m2, q1, q2, q3, q4, -⟩ := Cond.selects_spec (a' (.selects cls Bundle.tFill0 Bundle.tFill0) (by simp [zkAtX]))
    cases Option.some.inj (q1.symm.trans hfound)
    cases Option.some.inj (q2.symm.trans (State.methodFound?_of_named Y.fill0 (by decide)))
    cases Option.some.inj (q3.symm.trans Y.fill0)
    rw [Launch.admits_selectMethod X.admits]; exact q4
  have hselF : selectMethod e.platform s.vm P1.m.cls T.fill = .method T.fill := by
    obtain ⟨c2, r2, m2, q1, q2, q3, q4, -⟩ := Cond.selects_spec (a' (.selects cls Bundle.tFill Bundle.tFill) (by simp [zkAtX]))
    cases Option.some.inj (q1.symm.trans hfound)
    cases Option.some.inj (q2.symm.trans (State.methodFound?_of_named Y.fill (by decide)))
    cases Option.some.inj (q3.symm.trans Y.fill)
    rw [Launch.admits_selectMethod X.admits]; exact q4
  obtain ⟨cellS0, hcS0, hiss⟩ := Y.statics
  obtain ⟨u0, hu0⟩ := Cond.staticRefV Y.unassigned L.unassignedStatic L.statics hcS0 hiss (a' (.isRef (.static Bundle.tN "UNASSIGNED_STACK" Bundle.steD)) (by simp [zkAtX]))
  obtain ⟨sen, hsen⟩ := Cond.staticRefV Y.sentinel L.sentinelStatic L.statics hcS0 hiss (a' (.isRef (.static Bundle.tN "SUPPRESSED_SENTINEL" Bundle.listD)) (by simp [zkAtX]))
  obtain ⟨ci198, i198, fB, hk198, hg198, ha198, hsB, -, hnB, htB, hffB⟩ := Cond.ownField (t := .object "java/lang/Object") Y.found L.cls (by decide +kernel) (a' (.fieldLink Bundle.tN 198 Bundle.tN "backtrace" "Ljava/lang/Object;") (by simp [zkAtX])) (a' (.lays Bundle.tN Bundle.tN "backtrace" "Ljava/lang/Object;") (by simp [zkAtX])) e.platform hpl
  obtain ⟨cellS, hcS', heS, -, hkeep⟩ := X.same.2.2.2.2.2 T.aS cellS0 hcS0
  have hcellS : W.heap[T.aS]? = some cellS := hcS'
  have hout' : ∀ i, (⟨T.aS, i⟩ : Loc) ∉ locs := fun i hmem => by
    have := hlocs _ hmem cellS0 hcS0
    rw [hiss] at this; cases this
  have hknownS : cellS.vm ≠ .unknown := by
    rw [heS]; intro hu
    rw [show cellS0.vm = .unknown from hu] at hiss
    cases hiss
  have hneS : T.aS ≠ a := Nat.ne_of_lt (Nat.lt_of_lt_of_le (Array.getElem?_eq_some_iff.mp hcS0).1 hnew)
  obtain ⟨iM, hffM⟩ := Y.msg
  obtain ⟨tyC, dC, hdC, hdnC⟩ := Cond.laysAt hfound hk Y.cause (a' (.lays cls Bundle.tN "cause" "Ljava/lang/Throwable;") (by simp [zkAtX]))
  obtain ⟨tyS, dS, hdS, hdnS⟩ := Cond.laysAt hfound hk Y.stack (a' (.lays cls Bundle.tN "stackTrace" Bundle.steD) (by simp [zkAtX]))
  obtain ⟨tyP, dP, hdP, hdnP⟩ := Cond.laysAt hfound hk Y.supp (a' (.lays cls Bundle.tN "suppressedExceptions" Bundle.listD) (by simp [zkAtX]))
  obtain ⟨tyM, dM, hdM, hdnM⟩ := Cond.laysAt hfound hk hffM (a' (.lays cls Bundle.tN "detailMessage" "Ljava/lang/String;") (by simp [zkAtX]))
  obtain ⟨tyB, dB, hdB, hdnB⟩ := Cond.laysAt hfound hk hffB (a' (.lays cls Bundle.tN "backtrace" "Ljava/lang/Object;") (by simp [zkAtX]))
  have bC := Cond.laysApart hdB hdC hdnB hdnC (by rw [hnB, Y.causeName]; decide)
  have bS := Cond.laysApart hdB hdS hdnB hdnS (by rw [hnB, Y.stackName]; decide)
  have bP := Cond.laysApart hdB hdP hdnB hdnP (by rw [hnB, Y.suppName]; decide)
  have hskip : SkipFacts T e.platform s (fun u => u) u0 ((preparedCellV T.toThrowableT (freshCell P1.m.cls kX) a u0 sen).withEntry W.cur) :=
    ⟨{ ci198 := ci198, i198 := i198, fBack := fB }, ⟨hk198, hg198, ha198, hsB⟩, by
      have := fresh_default (c := P1.m.cls) tyB
      rw [htB] at this
      simpa [preparedCellV, Cell.setSlot, Cell.withEntry, Array.getElem?_setIfInBounds, bC, bS, bP, bC.symm, bS.symm, bP.symm, defaultValue] using this, fun _ _ => rfl⟩
  obtain ⟨tm, methC, cdC, kC, vm₁, hnC, -, -, -, -, -, -, -, hW₁, st1⟩ := Steps.initColdS (tb := p.tables) (e := e) (below := below) (s := s) (U := W) X.here hexec X.warmed hpl hown (t := Bundle.initS cls) rfl rfl (Bundle.fit_spec hcls).2
    (a' (.methodLink own ic (Bundle.initS cls)) (by simp [zkAtX])) (h (.instanceMethod (Bundle.initS cls)) (by simp [zkAtX, Bundle.passSAtoms])) (bytes := bx) (maxL := 2) (h (.code (Bundle.initS cls) bx 2 none) (by simp [zkAtX, Bundle.passSAtoms]))
    (f := g) hg (a := a) (msg := msg) (rest := .ref a :: rest) hstack hd6
  cases Option.some.inj (hnC.symm.trans hP1m)
  have X₁ := X.noted hW₁
  obtain ⟨vm₂, X₂, st2⟩ := X₁.ctorMessageOffV hexec (g := { g with stack := .ref a :: rest }) hg hsize T L Z LZ M LM (P1 :: Ps)
    (fun P hP => by rcases List.mem_cons.mp hP with rfl | hP; exact L1; exact hL P hP) ⟨hlink1, hlink⟩ (u0 := u0) (sen := sen) (self := a) hmsg (cell := freshCell P1.m.cls kX) (cellS := cellS)
    hcell (fun _ => by simp) (by simp) rfl rfl hsel0 hselF hcellS hneS hknownS (by rw [hkeep _ (hout' _)]; exact hu0) (by rw [hkeep _ (hout' _)]; exact hsen)
    (Takes.of_laid hk hord tyC (by rw [Y.causeType]; rfl)) (Takes.of_laid hk hord tyS (by rw [Y.stackType]; exact fits_refV_array _ u0)) (Takes.of_laid hk hord tyP (by rw [Y.suppType]; exact fits_refV_object _ sen))
    (Takes.of_laid hk hord tyM (by rw [Y.msgType]; exact fits_refV_object _ ⟨msg, hmsg⟩)) Y.objLocals hskip htr [] hd6
    (by simp only [List.length_cons, hlen]; omega) (by simp only [List.length_cons, hlen]; exact hRlocals)
  have hlt : a < ((W.setVm vm₁).setVm vm₂).heap.size := (Array.getElem?_eq_some_iff.mp hcell).1
  refine ⟨(W.setVm vm₁).setVm vm₂, _, _, X₂, fun y hy => ?_, hlt, rfl, rfl, fun target hwalk => st1 _ (fun acts => ?_)⟩
  · simp only [List.mem_cons, List.not_mem_nil, or_false] at hy
    rcases hy with rfl | rfl | rfl | rfl | rfl <;> rfl
  · rw [doInvoke_state]
    exact st2 _ hwalk
end ZCT
section ZMK
variable {p : Program} {l : Launch} {e : Env} {R : Room} {s : State} {m : MethodId} {args : Array Value} {below : List Frame} {meth : Method} {c : Code} {H : Heap} {locs : List Loc} {cells slots : Nat} {Q : State → Prop} {ls : Array Slot} {rest : List Value}
theorem zk_back9 {T S : State} {R' : Room} {k n : Nat} (X : Stand p l e R s m args below meth c T locs cells slots) (Y : Stand p l e R' ((T.setVm s.vm).setFrames (.invoking m args :: below)) m args below meth c T [] 0 0) (Z : Stand p l e R' ((T.setVm s.vm).setFrames (.invoking m args :: below)) m args below meth c S [] k n) :
    Stand p l e R s m args below meth c S locs (cells + k) (slots + n) := by
  have hW0 : s.WarmedH ((T.setVm s.vm).setFrames (.invoking m args :: below)).vm := State.WarmedH.refl s
  refine { admits := X.admits, cas := X.cas, clock := X.clock, frames := X.frames, room := X.room, hears := X.hears, method := X.method, code := X.code, here := Z.here, tail := Z.tail, warmed := State.WarmedH.trans hW0 Z.warmed, limits := Z.limits.trans (Y.limits.symm.trans X.limits), bytes := Z.bytes.trans (Y.bytes.symm.trans X.bytes), same := ?_ }
  obtain ⟨e1, e2⟩ := Z.same
  rw [State.setFrames_setFrames] at e1
  have h2 : (T.setVm s.vm).sameButNew (S.setVm s.vm) [] k n := ⟨e1, e2⟩
  have h3 := X.same.trans h2
  rw [List.append_nil] at h3
  exact h3
set_option maxHeartbeats 4000000 in
theorem zk_make {cc : ByteArray} {pc : Nat} (hexec : p.tables.exec = Jvm.exec) (hb : c.code = cc) (hl : l.stackTraces = false) {own cls sup text : String} {names : List String} {ik is ic sa ix : Nat} {bx : ByteArray} {A : Nat → Prop} (b0 : decode bx 0 = .ok (.aload_n 0, 1)) (b1 : decode bx 1 = .ok (.aload_n 1, 1)) (b2 : decode bx 2 = .ok (.invokespecial ix, 3)) (b5 : decode bx 5 = .ok (.return_, 1)) (hsup : Bundle.fit sup = true)
    (hown : s.vm.findClass own = some m.cls) (hcls : Bundle.fit cls = true) (hnames : ∀ n ∈ names, Bundle.fit n = true)
    (hk : (Cond.classLink own ik cls).before args s = true) (hini : (Cond.initialized cls).before args s = true) (hstr : vk_R own is text sa s) (hat : ∀ w ∈ zkAtF own ic cls sup ix bx names, w.before args s = true)
    (hgood : ∀ w ∈ Cond.classLink own ik cls :: Cond.initialized cls :: zkAtF own ic cls sup ix bx names, vx_ot w = true)
    (hU : vx_Zq Bundle.tN "UNASSIGNED_STACK" Bundle.steD A s s.heap) (hN : vx_Zq Bundle.tN "SUPPRESSED_SENTINEL" Bundle.listD A s s.heap) (hS : va_S A s.heap H locs) (hsize : ls.size = c.maxLocals)
    (d0 : decode cc pc = .ok (.new ik, 3)) (d3 : decode cc (pc + 3) = .ok (.dup, 1)) (d4 : decode cc (pc + 4) = .ok (.ldc is, 2)) (d6 : decode cc (pc + 6) = .ok (.invokespecial ic, 3))
    (hRframes : names.length + 4 < R.frames) (hRlocals : (rest.map fun v => v.category).sum + (13 * (names.length + 2) + 43) ≤ R.locals) (hRcells : cells + 1 ≤ R.cells) (hRslots : slots + 6 ≤ R.slots)
    (kk : ∀ (q : Nat) (ce : Cell) (H1 : Heap), H.size ≤ H1.size → (∀ j : Nat, j < H.size → H1[j]? = H[j]?) → H1[q]? = some ce → ce.vm = .none → s.vm.findClass cls = some ce.cls → va_S A s.heap H1 locs → W p l e R s m args below meth c H1 locs (cells + 1) (slots + 6) Q (F0 m (pc + 9) ls (.ref q :: rest))) :
    W p l e R s m args below meth c H locs cells slots Q (F0 m pc ls rest) := by
  intro T hT X
  subst hT
  have htr : e.platform.stackTraces = false := (show e.platform.stackTraces = l.stackTraces by rw [X.admits.platform]).trans hl
  have Y := vx_rebase X (R' := { frames := R.frames, locals := R.locals, cells := 1, slots := 6 }) (Nat.le_refl _) (Nat.le_refl _) hRcells hRslots
  obtain ⟨s', hA'⟩ : ∃ z, z = (T.setVm s.vm).setFrames (.invoking m args :: below) := ⟨_, rfl⟩
  rw [← hA'] at Y
  have hvm : s'.vm = s.vm := by rw [hA']; rfl
  have hhp : s'.heap = T.heap := by rw [hA']; rfl
  have hW0 : s.WarmedH s'.vm := by rw [hvm]; exact State.WarmedH.refl s
  have hat' : ∀ w ∈ zkAtF own ic cls sup ix bx names, w.before args s' = true := fun w hw => vx_ot_at hW0 hvm.symm (hgood w (List.mem_cons_of_mem _ (List.mem_cons_of_mem _ hw))) (hat w hw)
  have hk' : (Cond.classLink own ik cls).before args s' = true := vx_ot_at hW0 hvm.symm (hgood _ List.mem_cons_self) hk
  have hini' : (Cond.initialized cls).before args s' = true := vx_ot_at hW0 hvm.symm (hgood _ (List.mem_cons_of_mem _ List.mem_cons_self)) hini
  have hU' : vx_Zq Bundle.tN "UNASSIGNED_STACK" Bundle.steD A s' s'.heap := by rw [hhp]; exact vx_Zq.moved hW0.alike (hU.kept hS.2.1)
  have hN' : vx_Zq Bundle.tN "SUPPRESSED_SENTINEL" Bundle.listD A s' s'.heap := by rw [hhp]; exact vx_Zq.moved hW0.alike (hN.kept hS.2.1)
  have h : ∀ w ∈ zkAtX own ic cls sup ix bx names, w.before args s' = true := vx_own hat' (vx_isRefq hU'.1) (vx_isRefq hN'.1) hU'.2.word hN'.2.word
  have hown' : s'.vm.findClass own = some m.cls := by rw [hvm]; exact hown
  have hins : (Cond.instantiable cls 6).before args s' = true := h _ (by simp [zkAtX])
  obtain ⟨vm₁, cX, kX, hfX, hkX, -, -, X₁, st1⟩ := Y.newCold hexec (own := own) (C := cls) (index := ik) (n := 6) hown' hk' hins hini'
    (g := F0 m pc ls rest) rfl (by rw [hb]; exact d0) (Nat.le_refl _) (Nat.le_refl _)
  generalize hT1 : (T.setVm vm₁).pushCell { cls := cX, slots := kX.instanceTypes.map defaultValue, vm := .none } = T1 at X₁ st1
  have hcat : (Value.ref T.heap.size).category = 1 := rfl
  have hcellA : T1.heap[T.heap.size]? = some (freshCell cX kX) := by rw [← hT1]; exact State.heap_pushCell_size _ _
  have d3' : decode c.code (pc + 3) = .ok (.dup, 1) := by rw [hb]; exact d3
  have d4' : decode c.code (pc + 4) = .ok (.ldc is, 2) := by rw [hb]; exact d4
  have hstr' : vk_R own is text sa s' := vk_R.warm hW0 hstr
  obtain ⟨V, ce, L, Z, hL, hlt, hcl9, hvm9, st⟩ := zk_ctorMade X₁ hexec htr (own := own) (cls := cls) (sup := sup) (names := names) (ic := ic) b0 b1 b2 b5 hsup hown' hcls hnames h (fun x hx => nomatch hx) hfX hkX hcellA (by rw [hhp]; exact Nat.le_refl _) (msg := .ref sa) rfl
    (g := { method := m, pc := pc + 6, locals := ls, stack := .ref sa :: .ref T.heap.size :: .ref T.heap.size :: rest, locked := none }) rfl hsize (rest := rest) rfl
    (by rw [hb]; exact d6) hRframes (by simp only [List.map_cons, List.sum_cons, hcat]; omega)
  have Z0 := Stand.forget (locs := []) Z (fun y hy => by rw [hL y hy, hhp]; exact Nat.le_refl _)
  obtain ⟨f1, f2⟩ := vx_frame Z0.same
  rw [hhp] at f1 f2
  have hcid : s.vm.findClass cls = some ce.cls := by
    rw [hcl9]
    rw [hvm] at hfX
    exact hfX
  have hh : (V.setCell T.heap.size ce).heap[T.heap.size]? = some ce := heapAt_setCell_self (s := V) ce hlt
  subst hA'
  have X5 := zk_back9 X Y Z0
  have X6 : Stand p l e R s m args below meth c (V.setCell T.heap.size ce) locs (cells + 1) (slots + 6) := { X5 with same := X5.same.mono (by omega) (by omega) }
  obtain ⟨t, a1, b1⟩ := kk T.heap.size ce (V.setCell T.heap.size ce).heap f1 (fun q hq => f2 q hq (fun z hz => nomatch hz)) hh hvm9 hcid ⟨Nat.le_trans hS.1 f1, fun q h1 h2 => (f2 q (Nat.lt_of_lt_of_le h1 hS.1) (fun z hz => nomatch hz)).trans (hS.2.1 q h1 h2), hS.2.2⟩ _ rfl X6
  refine ⟨t, st1 _ ?_, b1⟩
  show Steps p.tables e below (T1.setTop { method := m, pc := pc + 3, locals := ls, stack := .ref T.heap.size :: rest, locked := none }) _
  jvm_step X₁.here [X₁.here.top, hexec, d3', Value.category]
  exact X₁.ldcString hexec (own := own) (text := text) (index := is) (a := sa) hown' hstr'.1 hstr'.2
    (g := { method := m, pc := pc + 4, locals := ls, stack := .ref T.heap.size :: .ref T.heap.size :: rest, locked := none }) rfl d4' _ (st _ a1)
theorem zk_athrow {cc : ByteArray} {pc : Nat} (hexec : p.tables.exec = Jvm.exec) (hb : c.code = cc) {q : Addr} (hdg : decode cc pc = .ok (.athrow, 1)) (k : vx_W p l e R s m args below meth c H locs cells slots Q (F0 m pc ls rest) q) : W p l e R s m args below meth c H locs cells slots Q (F0 m pc ls (.ref q :: rest)) := by
  intro T hT X
  obtain ⟨t, st, hq⟩ := k T hT X
  refine ⟨t, ?_, hq⟩
  have hdg' : decode c.code pc = .ok (.athrow, 1) := by rw [hb]; exact hdg
  jvm_step X.here [X.here.top, hexec, hdg', athrow.wp_sem]
  exact st
end ZMK
/-- NoSuchElementException: its constructor's bytes, and the words of its throw -/
def zkNb : ByteArray := ⟨#[0x2a, 0x2b, 0xb7, 0x00, 0x0d, 0xb1]⟩
abbrev zkNE : String := "java/util/NoSuchElementException"
abbrev zkNL : List Cond := zkAtF RX7 97 zkNE "java/lang/RuntimeException" 13 zkNb ["java/lang/Exception"]
theorem zkN_1 : zkIn (.classLink RX7 93 zkNE) = true ∧ zkIn (.initialized zkNE) = true ∧ Bundle.fit zkNE = true ∧ Bundle.fit "java/lang/RuntimeException" = true ∧ (∀ n ∈ ["java/lang/Exception"], Bundle.fit n = true) ∧ zkNE ∈ zkEx ∧ vx_ot (.classLink RX7 93 zkNE) = true ∧ vx_ot (.initialized zkNE) = true := ⟨by decide +kernel, by decide +kernel, by decide +kernel, by decide +kernel, by decide +kernel, by decide +kernel, by decide +kernel, by decide +kernel⟩
theorem zkN_2 : zkNL.all vx_ot = true := by decide +kernel
theorem zkN_3 : ∀ w ∈ zkNL.filter goodWord, w ∈ lw_tbl := by decide +kernel
theorem zkN_4 : ∀ w ∈ zkNL.filter (fun w => !goodWord w), w ∈ Cond.castable zkNE zkNE :: zkDc := by decide +kernel
section ZNSE
variable {l : Launch} {G : zkG} {i : zkI} {d mc ms cu su pc : Nat} {ls : List (Option zkV)} {st : List zkV} {mem : zkM} {Q : zkO → zkM → Prop}
theorem zk_thrN {args : Array Value} {s : State} (hts : ∀ w ∈ zkGw, w.before args s = true) (hN : ∀ w ∈ zkNw, va_Nw w s) (hc : zkCs s) : (∀ w ∈ zkNL, w.before args s = true) ∧ ∀ w ∈ Cond.classLink RX7 93 zkNE :: Cond.initialized zkNE :: zkNL, vx_ot w = true := by
  refine ⟨fun w hw => ?_, fun w hw => ?_⟩
  · by_cases hg : goodWord w = true
    · exact hts _ (List.mem_filter.mpr ⟨zkN_3 w (List.mem_filter.mpr ⟨hw, hg⟩), hg⟩)
    · have h9 := zkN_4 w (List.mem_filter.mpr ⟨hw, by simp only [hg, Bool.not_eq_true', Bool.not_false]⟩)
      rcases List.mem_cons.mp h9 with rfl | h9
      · exact zkCs_use hc zkN_1.2.2.2.2.2.1 args
      · have h10 := zkDc_nw h9
        have h11 := hN w h10
        rcases List.mem_cons.mp h9 with rfl | h9
        · exact va_Nw.use rfl h11
        · rcases List.mem_cons.mp h9 with rfl | h9
          · exact va_Nw.use rfl h11
          · rcases List.mem_cons.mp h9 with rfl | h9
            · exact va_Nw.use rfl h11
            · cases h9
  · rcases List.mem_cons.mp hw with rfl | hw
    · exact zkN_1.2.2.2.2.2.2.1
    · rcases List.mem_cons.mp hw with rfl | hw
      · exact zkN_1.2.2.2.2.2.2.2
      · exact List.all_eq_true.mp zkN_2 w hw
theorem m_throwN {text : String} {is n0 n3 n4 n6 n9 : Nat} (h0 : (iT i).lookup pc = some (.new 93, n0)) (e0 : n0 = pc + 3) (h3 : (iT i).lookup n0 = some (.dup, n3)) (e3 : n3 = n0 + 1) (h4 : (iT i).lookup n3 = some (.ldc is, n4)) (e4 : n4 = n3 + 2) (h6 : (iT i).lookup n4 = some (.invokespecial 97, n6)) (e6 : n6 = n4 + 3) (h9 : (iT i).lookup n6 = some (.athrow, n9)) (e9 : n9 = n6 + 1)
    (hO : iO i = 6) (hH : iH i = []) (hs : (RX7, is, text) ∈ zkSc) (hd : 6 ≤ d) (hw : (st.map catV).sum ≤ 8) (hc1 : cu + 1 ≤ mc) (hs1 : su + 6 ≤ ms) (hq : Q (Sum.inr zkNE) mem) : zkW l G i (zkKm G d mc ms Q) cu su pc ls st mem := by
  intro p e s m args below meth c C H locs a hP hS hl
  subst e0 e3 e4 e6 e9
  obtain ⟨hx, hb, hr, hml, hown, hts, hF, hlk, htab, hlt, hok, -⟩ := id C
  obtain ⟨-, hNw, -, hU, hN, hS1, -, -, -, -, hCs⟩ := hF
  obtain ⟨sa, hsa⟩ := hS1 _ hs
  obtain ⟨b4, b5⟩ := zk_thrN hts hNw hCs
  rw [hO] at hown
  refine zk_make (ix := 13) (bx := zkNb) hx hb hlt (by decide +kernel) (by decide +kernel) (by decide +kernel) (by decide +kernel) zkN_1.2.2.2.1 hown zkN_1.2.2.1 zkN_1.2.2.2.2.1 (hts _ (zkIn_use zkN_1.1)) (hts _ (zkIn_use zkN_1.2.1)) hsa b4 b5 hU hN hS (hl.1.trans hml.symm) (zk_dec hok h0 rfl) (zk_dec hok h3 rfl) (zk_dec hok h4 rfl) (zk_dec hok h6 rfl) ?_ ?_ hc1 hs1 (fun q ce H1 g1 g2 g3 g4 g5 g6 => ?_)
  · show 1 + 4 < d
    omega
  · rw [zk_wsum]
    show (st.map catV).sum + 82 ≤ 40 * d + 100
    omega
  · refine zk_athrow hx hb (zk_dec hok h9 rfl) ?_
    refine vx_out (by rw [htab, hH]; intro x h; cases h) hlk g3 g4 g5 (fun t ht _ => zk_xc hq hP hS (by rw [ht]; exact g1) (fun q hq => by rw [ht]; exact g2 q hq)) g6.2.2 hc1 hs1
end ZNSE
end
