section
-- ===== PART A: goes FIRST, ahead of the names: the tables' words, and 'selects' of the private methods out of them =====
/-- a private method of a class that the tables say can be made, by its rows of tables_1 -/
def lw_okq (q : MethodName × Nat) : Prop := (q.1.cls ≠ "java/lang/invoke/MethodHandle" ∧ q.1.cls ≠ "java/lang/invoke/VarHandle") ∧ Cond.instantiable q.1.cls q.2 ∈ tables_1 ∧ Cond.privateMethod q.1 ∈ tables_1 ∧ Cond.instanceMethod q.1 ∈ tables_1
theorem lw_p0 : lw_okq (⟨"CeilingWorkbench$Bench", "removeAll", "()I"⟩, 8) := ⟨⟨by decide +kernel, by decide +kernel⟩, List.mem_of_getElem? (i := 35) (by decide +kernel), List.mem_of_getElem? (i := 278) (by decide +kernel), List.mem_of_getElem? (i := 279) (by decide +kernel)⟩
theorem lw_p1 : lw_okq (⟨"CeilingWorkbench$Bench", "startAgain", "()I"⟩, 8) := ⟨⟨by decide +kernel, by decide +kernel⟩, List.mem_of_getElem? (i := 35) (by decide +kernel), List.mem_of_getElem? (i := 282) (by decide +kernel), List.mem_of_getElem? (i := 283) (by decide +kernel)⟩
theorem lw_p2 : lw_okq (⟨"CeilingWorkbench$Task", "startAgain", "()V"⟩, 15) := ⟨⟨by decide +kernel, by decide +kernel⟩, List.mem_of_getElem? (i := 115) (by decide +kernel), List.mem_of_getElem? (i := 286) (by decide +kernel), List.mem_of_getElem? (i := 287) (by decide +kernel)⟩
theorem lw_p3 : lw_okq (⟨"CeilingWorkbench$Jobs", "removeAll", "()V"⟩, 3) := ⟨⟨by decide +kernel, by decide +kernel⟩, List.mem_of_getElem? (i := 121) (by decide +kernel), List.mem_of_getElem? (i := 290) (by decide +kernel), List.mem_of_getElem? (i := 291) (by decide +kernel)⟩
theorem lw_p4 : lw_okq (⟨"CeilingWorkbench$Server", "startAgain", "()V"⟩, 11) := ⟨⟨by decide +kernel, by decide +kernel⟩, List.mem_of_getElem? (i := 43) (by decide +kernel), List.mem_of_getElem? (i := 294) (by decide +kernel), List.mem_of_getElem? (i := 295) (by decide +kernel)⟩
theorem lw_p5 : lw_okq (⟨"CeilingWorkbench$Requests", "startAgain", "()V"⟩, 5) := ⟨⟨by decide +kernel, by decide +kernel⟩, List.mem_of_getElem? (i := 92) (by decide +kernel), List.mem_of_getElem? (i := 298) (by decide +kernel), List.mem_of_getElem? (i := 299) (by decide +kernel)⟩
theorem lw_p6 : lw_okq (⟨"CeilingWorkbench$Requests", "removeAll", "()V"⟩, 5) := ⟨⟨by decide +kernel, by decide +kernel⟩, List.mem_of_getElem? (i := 92) (by decide +kernel), List.mem_of_getElem? (i := 302) (by decide +kernel), List.mem_of_getElem? (i := 303) (by decide +kernel)⟩
theorem lw_p7 : lw_okq (⟨"CeilingWorkbench$Bench", "copyFrom", "(LCeilingWorkbench$Bench;)V"⟩, 8) := ⟨⟨by decide +kernel, by decide +kernel⟩, List.mem_of_getElem? (i := 35) (by decide +kernel), List.mem_of_getElem? (i := 371) (by decide +kernel), List.mem_of_getElem? (i := 372) (by decide +kernel)⟩
theorem lw_p8 : lw_okq (⟨"CeilingWorkbench$Task", "copyFrom", "(LCeilingWorkbench$Task;)V"⟩, 15) := ⟨⟨by decide +kernel, by decide +kernel⟩, List.mem_of_getElem? (i := 115) (by decide +kernel), List.mem_of_getElem? (i := 375) (by decide +kernel), List.mem_of_getElem? (i := 376) (by decide +kernel)⟩
theorem lw_p9 : lw_okq (⟨"CeilingWorkbench$Jobs", "copyFrom", "(LCeilingWorkbench$Jobs;)V"⟩, 3) := ⟨⟨by decide +kernel, by decide +kernel⟩, List.mem_of_getElem? (i := 121) (by decide +kernel), List.mem_of_getElem? (i := 382) (by decide +kernel), List.mem_of_getElem? (i := 383) (by decide +kernel)⟩
theorem lw_p10 : lw_okq (⟨"CeilingWorkbench$Server", "copyFrom", "(LCeilingWorkbench$Server;)V"⟩, 11) := ⟨⟨by decide +kernel, by decide +kernel⟩, List.mem_of_getElem? (i := 43) (by decide +kernel), List.mem_of_getElem? (i := 387) (by decide +kernel), List.mem_of_getElem? (i := 388) (by decide +kernel)⟩
theorem lw_p11 : lw_okq (⟨"CeilingWorkbench$Requests", "copyFrom", "(LCeilingWorkbench$Requests;)V"⟩, 5) := ⟨⟨by decide +kernel, by decide +kernel⟩, List.mem_of_getElem? (i := 92) (by decide +kernel), List.mem_of_getElem? (i := 392) (by decide +kernel), List.mem_of_getElem? (i := 393) (by decide +kernel)⟩
theorem lw_p12 : lw_okq (⟨"CeilingWorkbench$Bench", "putTask", "(IIII)I"⟩, 8) := ⟨⟨by decide +kernel, by decide +kernel⟩, List.mem_of_getElem? (i := 35) (by decide +kernel), List.mem_of_getElem? (i := 408) (by decide +kernel), List.mem_of_getElem? (i := 409) (by decide +kernel)⟩
theorem lw_p13 : lw_okq (⟨"CeilingWorkbench$Bench", "isPriorityOfTask", "(I)Z"⟩, 8) := ⟨⟨by decide +kernel, by decide +kernel⟩, List.mem_of_getElem? (i := 35) (by decide +kernel), List.mem_of_getElem? (i := 413) (by decide +kernel), List.mem_of_getElem? (i := 414) (by decide +kernel)⟩
theorem lw_p14 : lw_okq (⟨"CeilingWorkbench$Server", "hasPriority", "(I)Z"⟩, 11) := ⟨⟨by decide +kernel, by decide +kernel⟩, List.mem_of_getElem? (i := 43) (by decide +kernel), List.mem_of_getElem? (i := 417) (by decide +kernel), List.mem_of_getElem? (i := 418) (by decide +kernel)⟩
theorem lw_p15 : lw_okq (⟨"CeilingWorkbench$Task", "begin", "(IIII)V"⟩, 15) := ⟨⟨by decide +kernel, by decide +kernel⟩, List.mem_of_getElem? (i := 115) (by decide +kernel), List.mem_of_getElem? (i := 421) (by decide +kernel), List.mem_of_getElem? (i := 422) (by decide +kernel)⟩
def lw_privs_1 : List (MethodName × Nat) := [(⟨"CeilingWorkbench$Bench", "removeAll", "()I"⟩, 8), (⟨"CeilingWorkbench$Bench", "startAgain", "()I"⟩, 8), (⟨"CeilingWorkbench$Task", "startAgain", "()V"⟩, 15), (⟨"CeilingWorkbench$Jobs", "removeAll", "()V"⟩, 3), (⟨"CeilingWorkbench$Server", "startAgain", "()V"⟩, 11), (⟨"CeilingWorkbench$Requests", "startAgain", "()V"⟩, 5), (⟨"CeilingWorkbench$Requests", "removeAll", "()V"⟩, 5), (⟨"CeilingWorkbench$Bench", "copyFrom", "(LCeilingWorkbench$Bench;)V"⟩, 8), (⟨"CeilingWorkbench$Task", "copyFrom", "(LCeilingWorkbench$Task;)V"⟩, 15), (⟨"CeilingWorkbench$Jobs", "copyFrom", "(LCeilingWorkbench$Jobs;)V"⟩, 3), (⟨"CeilingWorkbench$Server", "copyFrom", "(LCeilingWorkbench$Server;)V"⟩, 11), (⟨"CeilingWorkbench$Requests", "copyFrom", "(LCeilingWorkbench$Requests;)V"⟩, 5), (⟨"CeilingWorkbench$Bench", "putTask", "(IIII)I"⟩, 8), (⟨"CeilingWorkbench$Bench", "isPriorityOfTask", "(I)Z"⟩, 8), (⟨"CeilingWorkbench$Server", "hasPriority", "(I)Z"⟩, 11), (⟨"CeilingWorkbench$Task", "begin", "(IIII)V"⟩, 15)]
theorem lw_r1 : ∀ q ∈ lw_privs_1, lw_okq q := List.forall_mem_cons.mpr ⟨lw_p0, List.forall_mem_cons.mpr ⟨lw_p1, List.forall_mem_cons.mpr ⟨lw_p2, List.forall_mem_cons.mpr ⟨lw_p3, List.forall_mem_cons.mpr ⟨lw_p4, List.forall_mem_cons.mpr ⟨lw_p5, List.forall_mem_cons.mpr ⟨lw_p6, List.forall_mem_cons.mpr ⟨lw_p7, List.forall_mem_cons.mpr ⟨lw_p8, List.forall_mem_cons.mpr ⟨lw_p9, List.forall_mem_cons.mpr ⟨lw_p10, List.forall_mem_cons.mpr ⟨lw_p11, List.forall_mem_cons.mpr ⟨lw_p12, List.forall_mem_cons.mpr ⟨lw_p13, List.forall_mem_cons.mpr ⟨lw_p14, List.forall_mem_cons.mpr ⟨lw_p15, fun _ h => absurd h List.not_mem_nil⟩⟩⟩⟩⟩⟩⟩⟩⟩⟩⟩⟩⟩⟩⟩⟩
theorem lw_p16 : lw_okq (⟨"java/lang/Throwable", "fillInStackTrace", "(I)Ljava/lang/Throwable;"⟩, 6) := ⟨⟨by decide +kernel, by decide +kernel⟩, List.mem_of_getElem? (i := 471) (by decide +kernel), List.mem_of_getElem? (i := 469) (by decide +kernel), List.mem_of_getElem? (i := 470) (by decide +kernel)⟩
theorem lw_p17 : lw_okq (⟨"CeilingWorkbench$Bench", "putSegment", "(III)I"⟩, 8) := ⟨⟨by decide +kernel, by decide +kernel⟩, List.mem_of_getElem? (i := 35) (by decide +kernel), List.mem_of_getElem? (i := 577) (by decide +kernel), List.mem_of_getElem? (i := 578) (by decide +kernel)⟩
theorem lw_p18 : lw_okq (⟨"CeilingWorkbench$Bench", "hasTask", "(I)Z"⟩, 8) := ⟨⟨by decide +kernel, by decide +kernel⟩, List.mem_of_getElem? (i := 35) (by decide +kernel), List.mem_of_getElem? (i := 581) (by decide +kernel), List.mem_of_getElem? (i := 582) (by decide +kernel)⟩
theorem lw_p19 : lw_okq (⟨"CeilingWorkbench$Task", "addPart", "(II)V"⟩, 15) := ⟨⟨by decide +kernel, by decide +kernel⟩, List.mem_of_getElem? (i := 115) (by decide +kernel), List.mem_of_getElem? (i := 585) (by decide +kernel), List.mem_of_getElem? (i := 586) (by decide +kernel)⟩
theorem lw_p20 : lw_okq (⟨"CeilingWorkbench$Bench", "putServer", "(III)I"⟩, 8) := ⟨⟨by decide +kernel, by decide +kernel⟩, List.mem_of_getElem? (i := 35) (by decide +kernel), List.mem_of_getElem? (i := 597) (by decide +kernel), List.mem_of_getElem? (i := 598) (by decide +kernel)⟩
theorem lw_p21 : lw_okq (⟨"CeilingWorkbench$Server", "begin", "(III)V"⟩, 11) := ⟨⟨by decide +kernel, by decide +kernel⟩, List.mem_of_getElem? (i := 43) (by decide +kernel), List.mem_of_getElem? (i := 601) (by decide +kernel), List.mem_of_getElem? (i := 602) (by decide +kernel)⟩
theorem lw_p22 : lw_okq (⟨"CeilingWorkbench$Bench", "putRequest", "(II)I"⟩, 8) := ⟨⟨by decide +kernel, by decide +kernel⟩, List.mem_of_getElem? (i := 35) (by decide +kernel), List.mem_of_getElem? (i := 613) (by decide +kernel), List.mem_of_getElem? (i := 614) (by decide +kernel)⟩
theorem lw_p23 : lw_okq (⟨"CeilingWorkbench$Requests", "isFull", "()Z"⟩, 5) := ⟨⟨by decide +kernel, by decide +kernel⟩, List.mem_of_getElem? (i := 92) (by decide +kernel), List.mem_of_getElem? (i := 617) (by decide +kernel), List.mem_of_getElem? (i := 618) (by decide +kernel)⟩
theorem lw_p24 : lw_okq (⟨"CeilingWorkbench$Requests", "add", "(II)I"⟩, 5) := ⟨⟨by decide +kernel, by decide +kernel⟩, List.mem_of_getElem? (i := 92) (by decide +kernel), List.mem_of_getElem? (i := 621) (by decide +kernel), List.mem_of_getElem? (i := 622) (by decide +kernel)⟩
theorem lw_p25 : lw_okq (⟨"CeilingWorkbench$Bench", "putPolicy", "(I)I"⟩, 8) := ⟨⟨by decide +kernel, by decide +kernel⟩, List.mem_of_getElem? (i := 35) (by decide +kernel), List.mem_of_getElem? (i := 633) (by decide +kernel), List.mem_of_getElem? (i := 634) (by decide +kernel)⟩
theorem lw_p26 : lw_okq (⟨"CeilingWorkbench$Reader", "isFull", "()Z"⟩, 5) := ⟨⟨by decide +kernel, by decide +kernel⟩, List.mem_of_getElem? (i := 234) (by decide +kernel), List.mem_of_getElem? (i := 646) (by decide +kernel), List.mem_of_getElem? (i := 647) (by decide +kernel)⟩
theorem lw_p27 : lw_okq (⟨"CeilingWorkbench$Reader", "put", "(C)I"⟩, 5) := ⟨⟨by decide +kernel, by decide +kernel⟩, List.mem_of_getElem? (i := 234) (by decide +kernel), List.mem_of_getElem? (i := 651) (by decide +kernel), List.mem_of_getElem? (i := 652) (by decide +kernel)⟩
theorem lw_p28 : lw_okq (⟨"CeilingWorkbench$Reader", "takeForm", "()I"⟩, 5) := ⟨⟨by decide +kernel, by decide +kernel⟩, List.mem_of_getElem? (i := 234) (by decide +kernel), List.mem_of_getElem? (i := 663) (by decide +kernel), List.mem_of_getElem? (i := 664) (by decide +kernel)⟩
theorem lw_p29 : lw_okq (⟨"CeilingWorkbench$Reader", "fits", "(Ljava/lang/String;)Z"⟩, 5) := ⟨⟨by decide +kernel, by decide +kernel⟩, List.mem_of_getElem? (i := 234) (by decide +kernel), List.mem_of_getElem? (i := 679) (by decide +kernel), List.mem_of_getElem? (i := 680) (by decide +kernel)⟩
theorem lw_p30 : lw_okq (⟨"CeilingWorkbench$Reader", "afterNumber", "(I)I"⟩, 5) := ⟨⟨by decide +kernel, by decide +kernel⟩, List.mem_of_getElem? (i := 234) (by decide +kernel), List.mem_of_getElem? (i := 731) (by decide +kernel), List.mem_of_getElem? (i := 732) (by decide +kernel)⟩
theorem lw_p31 : lw_okq (⟨"CeilingWorkbench$Reader", "afterSign", "(IC)I"⟩, 5) := ⟨⟨by decide +kernel, by decide +kernel⟩, List.mem_of_getElem? (i := 234) (by decide +kernel), List.mem_of_getElem? (i := 736) (by decide +kernel), List.mem_of_getElem? (i := 737) (by decide +kernel)⟩
def lw_privs_2 : List (MethodName × Nat) := [(⟨"java/lang/Throwable", "fillInStackTrace", "(I)Ljava/lang/Throwable;"⟩, 6), (⟨"CeilingWorkbench$Bench", "putSegment", "(III)I"⟩, 8), (⟨"CeilingWorkbench$Bench", "hasTask", "(I)Z"⟩, 8), (⟨"CeilingWorkbench$Task", "addPart", "(II)V"⟩, 15), (⟨"CeilingWorkbench$Bench", "putServer", "(III)I"⟩, 8), (⟨"CeilingWorkbench$Server", "begin", "(III)V"⟩, 11), (⟨"CeilingWorkbench$Bench", "putRequest", "(II)I"⟩, 8), (⟨"CeilingWorkbench$Requests", "isFull", "()Z"⟩, 5), (⟨"CeilingWorkbench$Requests", "add", "(II)I"⟩, 5), (⟨"CeilingWorkbench$Bench", "putPolicy", "(I)I"⟩, 8), (⟨"CeilingWorkbench$Reader", "isFull", "()Z"⟩, 5), (⟨"CeilingWorkbench$Reader", "put", "(C)I"⟩, 5), (⟨"CeilingWorkbench$Reader", "takeForm", "()I"⟩, 5), (⟨"CeilingWorkbench$Reader", "fits", "(Ljava/lang/String;)Z"⟩, 5), (⟨"CeilingWorkbench$Reader", "afterNumber", "(I)I"⟩, 5), (⟨"CeilingWorkbench$Reader", "afterSign", "(IC)I"⟩, 5)]
theorem lw_r2 : ∀ q ∈ lw_privs_2, lw_okq q := List.forall_mem_cons.mpr ⟨lw_p16, List.forall_mem_cons.mpr ⟨lw_p17, List.forall_mem_cons.mpr ⟨lw_p18, List.forall_mem_cons.mpr ⟨lw_p19, List.forall_mem_cons.mpr ⟨lw_p20, List.forall_mem_cons.mpr ⟨lw_p21, List.forall_mem_cons.mpr ⟨lw_p22, List.forall_mem_cons.mpr ⟨lw_p23, List.forall_mem_cons.mpr ⟨lw_p24, List.forall_mem_cons.mpr ⟨lw_p25, List.forall_mem_cons.mpr ⟨lw_p26, List.forall_mem_cons.mpr ⟨lw_p27, List.forall_mem_cons.mpr ⟨lw_p28, List.forall_mem_cons.mpr ⟨lw_p29, List.forall_mem_cons.mpr ⟨lw_p30, List.forall_mem_cons.mpr ⟨lw_p31, fun _ h => absurd h List.not_mem_nil⟩⟩⟩⟩⟩⟩⟩⟩⟩⟩⟩⟩⟩⟩⟩⟩
theorem lw_p32 : lw_okq (⟨"CeilingWorkbench", "perform", "(I)I"⟩, 5) := ⟨⟨by decide +kernel, by decide +kernel⟩, List.mem_of_getElem? (i := 27) (by decide +kernel), List.mem_of_getElem? (i := 742) (by decide +kernel), List.mem_of_getElem? (i := 743) (by decide +kernel)⟩
theorem lw_p33 : lw_okq (⟨"CeilingWorkbench$Reader", "number", "(I)I"⟩, 5) := ⟨⟨by decide +kernel, by decide +kernel⟩, List.mem_of_getElem? (i := 234) (by decide +kernel), List.mem_of_getElem? (i := 746) (by decide +kernel), List.mem_of_getElem? (i := 747) (by decide +kernel)⟩
theorem lw_p34 : lw_okq (⟨"CeilingWorkbench", "taskAt", "(I)LCeilingWorkbench$Task;"⟩, 5) := ⟨⟨by decide +kernel, by decide +kernel⟩, List.mem_of_getElem? (i := 27) (by decide +kernel), List.mem_of_getElem? (i := 782) (by decide +kernel), List.mem_of_getElem? (i := 783) (by decide +kernel)⟩
theorem lw_p35 : lw_okq (⟨"CeilingWorkbench$Task", "property", "(I)I"⟩, 15) := ⟨⟨by decide +kernel, by decide +kernel⟩, List.mem_of_getElem? (i := 115) (by decide +kernel), List.mem_of_getElem? (i := 788) (by decide +kernel), List.mem_of_getElem? (i := 789) (by decide +kernel)⟩
theorem lw_p36 : lw_okq (⟨"CeilingWorkbench", "taskWithSegments", "(I)LCeilingWorkbench$Task;"⟩, 5) := ⟨⟨by decide +kernel, by decide +kernel⟩, List.mem_of_getElem? (i := 27) (by decide +kernel), List.mem_of_getElem? (i := 818) (by decide +kernel), List.mem_of_getElem? (i := 819) (by decide +kernel)⟩
theorem lw_p37 : lw_okq (⟨"CeilingWorkbench$Bench", "makeUnits", "(I)I"⟩, 8) := ⟨⟨by decide +kernel, by decide +kernel⟩, List.mem_of_getElem? (i := 35) (by decide +kernel), List.mem_of_getElem? (i := 853) (by decide +kernel), List.mem_of_getElem? (i := 854) (by decide +kernel)⟩
theorem lw_p38 : lw_okq (⟨"CeilingWorkbench$Bench", "makeUnit", "()I"⟩, 8) := ⟨⟨by decide +kernel, by decide +kernel⟩, List.mem_of_getElem? (i := 35) (by decide +kernel), List.mem_of_getElem? (i := 857) (by decide +kernel), List.mem_of_getElem? (i := 858) (by decide +kernel)⟩
theorem lw_p39 : lw_okq (⟨"CeilingWorkbench$Server", "replenishAt", "(I)V"⟩, 11) := ⟨⟨by decide +kernel, by decide +kernel⟩, List.mem_of_getElem? (i := 43) (by decide +kernel), List.mem_of_getElem? (i := 861) (by decide +kernel), List.mem_of_getElem? (i := 862) (by decide +kernel)⟩
theorem lw_p40 : lw_okq (⟨"CeilingWorkbench$Task", "releaseAt", "(I)V"⟩, 15) := ⟨⟨by decide +kernel, by decide +kernel⟩, List.mem_of_getElem? (i := 115) (by decide +kernel), List.mem_of_getElem? (i := 865) (by decide +kernel), List.mem_of_getElem? (i := 866) (by decide +kernel)⟩
theorem lw_p41 : lw_okq (⟨"CeilingWorkbench$Jobs", "add", "(I)V"⟩, 3) := ⟨⟨by decide +kernel, by decide +kernel⟩, List.mem_of_getElem? (i := 121) (by decide +kernel), List.mem_of_getElem? (i := 869) (by decide +kernel), List.mem_of_getElem? (i := 870) (by decide +kernel)⟩
theorem lw_p42 : lw_okq (⟨"CeilingWorkbench$Task", "missAt", "(II)V"⟩, 15) := ⟨⟨by decide +kernel, by decide +kernel⟩, List.mem_of_getElem? (i := 115) (by decide +kernel), List.mem_of_getElem? (i := 873) (by decide +kernel), List.mem_of_getElem? (i := 874) (by decide +kernel)⟩
theorem lw_p43 : lw_okq (⟨"CeilingWorkbench$Jobs", "placeOf", "(I)I"⟩, 3) := ⟨⟨by decide +kernel, by decide +kernel⟩, List.mem_of_getElem? (i := 121) (by decide +kernel), List.mem_of_getElem? (i := 877) (by decide +kernel), List.mem_of_getElem? (i := 878) (by decide +kernel)⟩
theorem lw_p44 : lw_okq (⟨"CeilingWorkbench$Task", "removeJob", "(I)V"⟩, 15) := ⟨⟨by decide +kernel, by decide +kernel⟩, List.mem_of_getElem? (i := 115) (by decide +kernel), List.mem_of_getElem? (i := 881) (by decide +kernel), List.mem_of_getElem? (i := 882) (by decide +kernel)⟩
theorem lw_p45 : lw_okq (⟨"CeilingWorkbench$Jobs", "removeAt", "(I)V"⟩, 3) := ⟨⟨by decide +kernel, by decide +kernel⟩, List.mem_of_getElem? (i := 121) (by decide +kernel), List.mem_of_getElem? (i := 885) (by decide +kernel), List.mem_of_getElem? (i := 886) (by decide +kernel)⟩
theorem lw_p46 : lw_okq (⟨"CeilingWorkbench$Jobs", "size", "()I"⟩, 3) := ⟨⟨by decide +kernel, by decide +kernel⟩, List.mem_of_getElem? (i := 121) (by decide +kernel), List.mem_of_getElem? (i := 889) (by decide +kernel), List.mem_of_getElem? (i := 890) (by decide +kernel)⟩
theorem lw_p47 : lw_okq (⟨"CeilingWorkbench$Requests", "nextToServe", "(I)I"⟩, 5) := ⟨⟨by decide +kernel, by decide +kernel⟩, List.mem_of_getElem? (i := 92) (by decide +kernel), List.mem_of_getElem? (i := 894) (by decide +kernel), List.mem_of_getElem? (i := 895) (by decide +kernel)⟩
def lw_privs_3 : List (MethodName × Nat) := [(⟨"CeilingWorkbench", "perform", "(I)I"⟩, 5), (⟨"CeilingWorkbench$Reader", "number", "(I)I"⟩, 5), (⟨"CeilingWorkbench", "taskAt", "(I)LCeilingWorkbench$Task;"⟩, 5), (⟨"CeilingWorkbench$Task", "property", "(I)I"⟩, 15), (⟨"CeilingWorkbench", "taskWithSegments", "(I)LCeilingWorkbench$Task;"⟩, 5), (⟨"CeilingWorkbench$Bench", "makeUnits", "(I)I"⟩, 8), (⟨"CeilingWorkbench$Bench", "makeUnit", "()I"⟩, 8), (⟨"CeilingWorkbench$Server", "replenishAt", "(I)V"⟩, 11), (⟨"CeilingWorkbench$Task", "releaseAt", "(I)V"⟩, 15), (⟨"CeilingWorkbench$Jobs", "add", "(I)V"⟩, 3), (⟨"CeilingWorkbench$Task", "missAt", "(II)V"⟩, 15), (⟨"CeilingWorkbench$Jobs", "placeOf", "(I)I"⟩, 3), (⟨"CeilingWorkbench$Task", "removeJob", "(I)V"⟩, 15), (⟨"CeilingWorkbench$Jobs", "removeAt", "(I)V"⟩, 3), (⟨"CeilingWorkbench$Jobs", "size", "()I"⟩, 3), (⟨"CeilingWorkbench$Requests", "nextToServe", "(I)I"⟩, 5)]
theorem lw_r3 : ∀ q ∈ lw_privs_3, lw_okq q := List.forall_mem_cons.mpr ⟨lw_p32, List.forall_mem_cons.mpr ⟨lw_p33, List.forall_mem_cons.mpr ⟨lw_p34, List.forall_mem_cons.mpr ⟨lw_p35, List.forall_mem_cons.mpr ⟨lw_p36, List.forall_mem_cons.mpr ⟨lw_p37, List.forall_mem_cons.mpr ⟨lw_p38, List.forall_mem_cons.mpr ⟨lw_p39, List.forall_mem_cons.mpr ⟨lw_p40, List.forall_mem_cons.mpr ⟨lw_p41, List.forall_mem_cons.mpr ⟨lw_p42, List.forall_mem_cons.mpr ⟨lw_p43, List.forall_mem_cons.mpr ⟨lw_p44, List.forall_mem_cons.mpr ⟨lw_p45, List.forall_mem_cons.mpr ⟨lw_p46, List.forall_mem_cons.mpr ⟨lw_p47, fun _ h => absurd h List.not_mem_nil⟩⟩⟩⟩⟩⟩⟩⟩⟩⟩⟩⟩⟩⟩⟩⟩
theorem lw_p48 : lw_okq (⟨"CeilingWorkbench$Server", "isReady", "(Z)Z"⟩, 11) := ⟨⟨by decide +kernel, by decide +kernel⟩, List.mem_of_getElem? (i := 43) (by decide +kernel), List.mem_of_getElem? (i := 898) (by decide +kernel), List.mem_of_getElem? (i := 899) (by decide +kernel)⟩
theorem lw_p49 : lw_okq (⟨"CeilingWorkbench$Bench", "mostUrgent", "(Z)I"⟩, 8) := ⟨⟨by decide +kernel, by decide +kernel⟩, List.mem_of_getElem? (i := 35) (by decide +kernel), List.mem_of_getElem? (i := 902) (by decide +kernel), List.mem_of_getElem? (i := 903) (by decide +kernel)⟩
theorem lw_p50 : lw_okq (⟨"CeilingWorkbench$Jobs", "isEmpty", "()Z"⟩, 3) := ⟨⟨by decide +kernel, by decide +kernel⟩, List.mem_of_getElem? (i := 121) (by decide +kernel), List.mem_of_getElem? (i := 906) (by decide +kernel), List.mem_of_getElem? (i := 907) (by decide +kernel)⟩
theorem lw_p51 : lw_okq (⟨"CeilingWorkbench$Bench", "urgencyOf", "(LCeilingWorkbench$Task;)I"⟩, 8) := ⟨⟨by decide +kernel, by decide +kernel⟩, List.mem_of_getElem? (i := 35) (by decide +kernel), List.mem_of_getElem? (i := 910) (by decide +kernel), List.mem_of_getElem? (i := 911) (by decide +kernel)⟩
theorem lw_p52 : lw_okq (⟨"CeilingWorkbench$Task", "heldResource", "()I"⟩, 15) := ⟨⟨by decide +kernel, by decide +kernel⟩, List.mem_of_getElem? (i := 115) (by decide +kernel), List.mem_of_getElem? (i := 914) (by decide +kernel), List.mem_of_getElem? (i := 915) (by decide +kernel)⟩
theorem lw_p53 : lw_okq (⟨"CeilingWorkbench$Bench", "notePreemption", "(I)V"⟩, 8) := ⟨⟨by decide +kernel, by decide +kernel⟩, List.mem_of_getElem? (i := 35) (by decide +kernel), List.mem_of_getElem? (i := 918) (by decide +kernel), List.mem_of_getElem? (i := 919) (by decide +kernel)⟩
theorem lw_p54 : lw_okq (⟨"CeilingWorkbench$Task", "hasStartedJob", "()Z"⟩, 15) := ⟨⟨by decide +kernel, by decide +kernel⟩, List.mem_of_getElem? (i := 115) (by decide +kernel), List.mem_of_getElem? (i := 922) (by decide +kernel), List.mem_of_getElem? (i := 923) (by decide +kernel)⟩
theorem lw_p55 : lw_okq (⟨"CeilingWorkbench$Server", "runUnit", "(I)V"⟩, 11) := ⟨⟨by decide +kernel, by decide +kernel⟩, List.mem_of_getElem? (i := 43) (by decide +kernel), List.mem_of_getElem? (i := 926) (by decide +kernel), List.mem_of_getElem? (i := 927) (by decide +kernel)⟩
theorem lw_p56 : lw_okq (⟨"CeilingWorkbench$Requests", "serve", "(II)V"⟩, 5) := ⟨⟨by decide +kernel, by decide +kernel⟩, List.mem_of_getElem? (i := 92) (by decide +kernel), List.mem_of_getElem? (i := 930) (by decide +kernel), List.mem_of_getElem? (i := 931) (by decide +kernel)⟩
theorem lw_p57 : lw_okq (⟨"CeilingWorkbench$Task", "runUnit", "(I)Z"⟩, 15) := ⟨⟨by decide +kernel, by decide +kernel⟩, List.mem_of_getElem? (i := 115) (by decide +kernel), List.mem_of_getElem? (i := 935) (by decide +kernel), List.mem_of_getElem? (i := 936) (by decide +kernel)⟩
theorem lw_p58 : lw_okq (⟨"CeilingWorkbench$Jobs", "firstRelease", "()I"⟩, 3) := ⟨⟨by decide +kernel, by decide +kernel⟩, List.mem_of_getElem? (i := 121) (by decide +kernel), List.mem_of_getElem? (i := 939) (by decide +kernel), List.mem_of_getElem? (i := 940) (by decide +kernel)⟩
theorem lw_p59 : lw_okq (⟨"CeilingWorkbench$Task", "finishJob", "(I)V"⟩, 15) := ⟨⟨by decide +kernel, by decide +kernel⟩, List.mem_of_getElem? (i := 115) (by decide +kernel), List.mem_of_getElem? (i := 943) (by decide +kernel), List.mem_of_getElem? (i := 944) (by decide +kernel)⟩
theorem lw_p60 : lw_okq (⟨"CeilingWorkbench$Jobs", "removeFirst", "()V"⟩, 3) := ⟨⟨by decide +kernel, by decide +kernel⟩, List.mem_of_getElem? (i := 121) (by decide +kernel), List.mem_of_getElem? (i := 947) (by decide +kernel), List.mem_of_getElem? (i := 948) (by decide +kernel)⟩
theorem lw_p61 : lw_okq (⟨"CeilingWorkbench$Server", "endUnit", "(IZ)V"⟩, 11) := ⟨⟨by decide +kernel, by decide +kernel⟩, List.mem_of_getElem? (i := 43) (by decide +kernel), List.mem_of_getElem? (i := 952) (by decide +kernel), List.mem_of_getElem? (i := 953) (by decide +kernel)⟩
theorem lw_p62 : lw_okq (⟨"CeilingWorkbench$Bench", "holderOf", "(I)I"⟩, 8) := ⟨⟨by decide +kernel, by decide +kernel⟩, List.mem_of_getElem? (i := 35) (by decide +kernel), List.mem_of_getElem? (i := 991) (by decide +kernel), List.mem_of_getElem? (i := 992) (by decide +kernel)⟩
theorem lw_p63 : lw_okq (⟨"CeilingWorkbench", "presentServer", "()LCeilingWorkbench$Server;"⟩, 5) := ⟨⟨by decide +kernel, by decide +kernel⟩, List.mem_of_getElem? (i := 27) (by decide +kernel), List.mem_of_getElem? (i := 1034) (by decide +kernel), List.mem_of_getElem? (i := 1035) (by decide +kernel)⟩
def lw_privs_4 : List (MethodName × Nat) := [(⟨"CeilingWorkbench$Server", "isReady", "(Z)Z"⟩, 11), (⟨"CeilingWorkbench$Bench", "mostUrgent", "(Z)I"⟩, 8), (⟨"CeilingWorkbench$Jobs", "isEmpty", "()Z"⟩, 3), (⟨"CeilingWorkbench$Bench", "urgencyOf", "(LCeilingWorkbench$Task;)I"⟩, 8), (⟨"CeilingWorkbench$Task", "heldResource", "()I"⟩, 15), (⟨"CeilingWorkbench$Bench", "notePreemption", "(I)V"⟩, 8), (⟨"CeilingWorkbench$Task", "hasStartedJob", "()Z"⟩, 15), (⟨"CeilingWorkbench$Server", "runUnit", "(I)V"⟩, 11), (⟨"CeilingWorkbench$Requests", "serve", "(II)V"⟩, 5), (⟨"CeilingWorkbench$Task", "runUnit", "(I)Z"⟩, 15), (⟨"CeilingWorkbench$Jobs", "firstRelease", "()I"⟩, 3), (⟨"CeilingWorkbench$Task", "finishJob", "(I)V"⟩, 15), (⟨"CeilingWorkbench$Jobs", "removeFirst", "()V"⟩, 3), (⟨"CeilingWorkbench$Server", "endUnit", "(IZ)V"⟩, 11), (⟨"CeilingWorkbench$Bench", "holderOf", "(I)I"⟩, 8), (⟨"CeilingWorkbench", "presentServer", "()LCeilingWorkbench$Server;"⟩, 5)]
theorem lw_r4 : ∀ q ∈ lw_privs_4, lw_okq q := List.forall_mem_cons.mpr ⟨lw_p48, List.forall_mem_cons.mpr ⟨lw_p49, List.forall_mem_cons.mpr ⟨lw_p50, List.forall_mem_cons.mpr ⟨lw_p51, List.forall_mem_cons.mpr ⟨lw_p52, List.forall_mem_cons.mpr ⟨lw_p53, List.forall_mem_cons.mpr ⟨lw_p54, List.forall_mem_cons.mpr ⟨lw_p55, List.forall_mem_cons.mpr ⟨lw_p56, List.forall_mem_cons.mpr ⟨lw_p57, List.forall_mem_cons.mpr ⟨lw_p58, List.forall_mem_cons.mpr ⟨lw_p59, List.forall_mem_cons.mpr ⟨lw_p60, List.forall_mem_cons.mpr ⟨lw_p61, List.forall_mem_cons.mpr ⟨lw_p62, List.forall_mem_cons.mpr ⟨lw_p63, fun _ h => absurd h List.not_mem_nil⟩⟩⟩⟩⟩⟩⟩⟩⟩⟩⟩⟩⟩⟩⟩⟩
theorem lw_p64 : lw_okq (⟨"CeilingWorkbench$Server", "nextPlan", "()I"⟩, 11) := ⟨⟨by decide +kernel, by decide +kernel⟩, List.mem_of_getElem? (i := 43) (by decide +kernel), List.mem_of_getElem? (i := 1046) (by decide +kernel), List.mem_of_getElem? (i := 1047) (by decide +kernel)⟩
theorem lw_p65 : lw_okq (⟨"CeilingWorkbench$Bench", "usedUnits", "()I"⟩, 8) := ⟨⟨by decide +kernel, by decide +kernel⟩, List.mem_of_getElem? (i := 35) (by decide +kernel), List.mem_of_getElem? (i := 1067) (by decide +kernel), List.mem_of_getElem? (i := 1068) (by decide +kernel)⟩
theorem lw_p66 : lw_okq (⟨"CeilingWorkbenchModel", "restart", "()V"⟩, 38) := ⟨⟨by decide +kernel, by decide +kernel⟩, List.mem_of_getElem? (i := 1079) (by decide +kernel), List.mem_of_getElem? (i := 1208) (by decide +kernel), List.mem_of_getElem? (i := 1209) (by decide +kernel)⟩
theorem lw_p67 : lw_okq (⟨"CeilingWorkbenchModel", "fail", "(I)I"⟩, 38) := ⟨⟨by decide +kernel, by decide +kernel⟩, List.mem_of_getElem? (i := 1079) (by decide +kernel), List.mem_of_getElem? (i := 1219) (by decide +kernel), List.mem_of_getElem? (i := 1220) (by decide +kernel)⟩
theorem lw_p68 : lw_okq (⟨"CeilingWorkbenchModel", "isTaken", "(I)Z"⟩, 38) := ⟨⟨by decide +kernel, by decide +kernel⟩, List.mem_of_getElem? (i := 1079) (by decide +kernel), List.mem_of_getElem? (i := 1223) (by decide +kernel), List.mem_of_getElem? (i := 1224) (by decide +kernel)⟩
theorem lw_p69 : lw_okq (⟨"CeilingWorkbenchModel", "priorityOf", "(I)I"⟩, 38) := ⟨⟨by decide +kernel, by decide +kernel⟩, List.mem_of_getElem? (i := 1079) (by decide +kernel), List.mem_of_getElem? (i := 1227) (by decide +kernel), List.mem_of_getElem? (i := 1228) (by decide +kernel)⟩
theorem lw_p70 : lw_okq (⟨"CeilingWorkbenchModel", "isTask", "(I)Z"⟩, 38) := ⟨⟨by decide +kernel, by decide +kernel⟩, List.mem_of_getElem? (i := 1079) (by decide +kernel), List.mem_of_getElem? (i := 1235) (by decide +kernel), List.mem_of_getElem? (i := 1236) (by decide +kernel)⟩
theorem lw_p71 : lw_okq (⟨"CeilingWorkbenchModel", "hasServer", "()Z"⟩, 38) := ⟨⟨by decide +kernel, by decide +kernel⟩, List.mem_of_getElem? (i := 1079) (by decide +kernel), List.mem_of_getElem? (i := 1243) (by decide +kernel), List.mem_of_getElem? (i := 1244) (by decide +kernel)⟩
theorem lw_p72 : lw_okq (⟨"CeilingWorkbenchModel", "demandOf", "(I)I"⟩, 38) := ⟨⟨by decide +kernel, by decide +kernel⟩, List.mem_of_getElem? (i := 1079) (by decide +kernel), List.mem_of_getElem? (i := 1263) (by decide +kernel), List.mem_of_getElem? (i := 1264) (by decide +kernel)⟩
theorem lw_p73 : lw_okq (⟨"CeilingWorkbenchModel", "lengthAt", "(II)I"⟩, 38) := ⟨⟨by decide +kernel, by decide +kernel⟩, List.mem_of_getElem? (i := 1079) (by decide +kernel), List.mem_of_getElem? (i := 1267) (by decide +kernel), List.mem_of_getElem? (i := 1268) (by decide +kernel)⟩
theorem lw_p74 : lw_okq (⟨"CeilingWorkbenchModel", "ceilingOf", "(I)I"⟩, 38) := ⟨⟨by decide +kernel, by decide +kernel⟩, List.mem_of_getElem? (i := 1079) (by decide +kernel), List.mem_of_getElem? (i := 1275) (by decide +kernel), List.mem_of_getElem? (i := 1276) (by decide +kernel)⟩
theorem lw_p75 : lw_okq (⟨"CeilingWorkbenchModel", "resourceAt", "(II)I"⟩, 38) := ⟨⟨by decide +kernel, by decide +kernel⟩, List.mem_of_getElem? (i := 1079) (by decide +kernel), List.mem_of_getElem? (i := 1279) (by decide +kernel), List.mem_of_getElem? (i := 1280) (by decide +kernel)⟩
theorem lw_p76 : lw_okq (⟨"CeilingWorkbenchModel", "blockingOf", "(I)I"⟩, 38) := ⟨⟨by decide +kernel, by decide +kernel⟩, List.mem_of_getElem? (i := 1079) (by decide +kernel), List.mem_of_getElem? (i := 1288) (by decide +kernel), List.mem_of_getElem? (i := 1289) (by decide +kernel)⟩
theorem lw_p77 : lw_okq (⟨"CeilingWorkbenchModel", "boundOf", "(I)I"⟩, 38) := ⟨⟨by decide +kernel, by decide +kernel⟩, List.mem_of_getElem? (i := 1079) (by decide +kernel), List.mem_of_getElem? (i := 1296) (by decide +kernel), List.mem_of_getElem? (i := 1297) (by decide +kernel)⟩
theorem lw_p78 : lw_okq (⟨"CeilingWorkbenchModel", "workUpTo", "(II)I"⟩, 38) := ⟨⟨by decide +kernel, by decide +kernel⟩, List.mem_of_getElem? (i := 1079) (by decide +kernel), List.mem_of_getElem? (i := 1300) (by decide +kernel), List.mem_of_getElem? (i := 1301) (by decide +kernel)⟩
theorem lw_p79 : lw_okq (⟨"CeilingWorkbenchModel", "periodOf", "(I)I"⟩, 38) := ⟨⟨by decide +kernel, by decide +kernel⟩, List.mem_of_getElem? (i := 1079) (by decide +kernel), List.mem_of_getElem? (i := 1304) (by decide +kernel), List.mem_of_getElem? (i := 1305) (by decide +kernel)⟩
def lw_privs_5 : List (MethodName × Nat) := [(⟨"CeilingWorkbench$Server", "nextPlan", "()I"⟩, 11), (⟨"CeilingWorkbench$Bench", "usedUnits", "()I"⟩, 8), (⟨"CeilingWorkbenchModel", "restart", "()V"⟩, 38), (⟨"CeilingWorkbenchModel", "fail", "(I)I"⟩, 38), (⟨"CeilingWorkbenchModel", "isTaken", "(I)Z"⟩, 38), (⟨"CeilingWorkbenchModel", "priorityOf", "(I)I"⟩, 38), (⟨"CeilingWorkbenchModel", "isTask", "(I)Z"⟩, 38), (⟨"CeilingWorkbenchModel", "hasServer", "()Z"⟩, 38), (⟨"CeilingWorkbenchModel", "demandOf", "(I)I"⟩, 38), (⟨"CeilingWorkbenchModel", "lengthAt", "(II)I"⟩, 38), (⟨"CeilingWorkbenchModel", "ceilingOf", "(I)I"⟩, 38), (⟨"CeilingWorkbenchModel", "resourceAt", "(II)I"⟩, 38), (⟨"CeilingWorkbenchModel", "blockingOf", "(I)I"⟩, 38), (⟨"CeilingWorkbenchModel", "boundOf", "(I)I"⟩, 38), (⟨"CeilingWorkbenchModel", "workUpTo", "(II)I"⟩, 38), (⟨"CeilingWorkbenchModel", "periodOf", "(I)I"⟩, 38)]
theorem lw_r5 : ∀ q ∈ lw_privs_5, lw_okq q := List.forall_mem_cons.mpr ⟨lw_p64, List.forall_mem_cons.mpr ⟨lw_p65, List.forall_mem_cons.mpr ⟨lw_p66, List.forall_mem_cons.mpr ⟨lw_p67, List.forall_mem_cons.mpr ⟨lw_p68, List.forall_mem_cons.mpr ⟨lw_p69, List.forall_mem_cons.mpr ⟨lw_p70, List.forall_mem_cons.mpr ⟨lw_p71, List.forall_mem_cons.mpr ⟨lw_p72, List.forall_mem_cons.mpr ⟨lw_p73, List.forall_mem_cons.mpr ⟨lw_p74, List.forall_mem_cons.mpr ⟨lw_p75, List.forall_mem_cons.mpr ⟨lw_p76, List.forall_mem_cons.mpr ⟨lw_p77, List.forall_mem_cons.mpr ⟨lw_p78, List.forall_mem_cons.mpr ⟨lw_p79, fun _ h => absurd h List.not_mem_nil⟩⟩⟩⟩⟩⟩⟩⟩⟩⟩⟩⟩⟩⟩⟩⟩
theorem lw_p80 : lw_okq (⟨"CeilingWorkbenchModel", "comes", "(II)I"⟩, 38) := ⟨⟨by decide +kernel, by decide +kernel⟩, List.mem_of_getElem? (i := 1079) (by decide +kernel), List.mem_of_getElem? (i := 1315) (by decide +kernel), List.mem_of_getElem? (i := 1316) (by decide +kernel)⟩
theorem lw_p81 : lw_okq (⟨"CeilingWorkbenchModel", "makeUnit", "()I"⟩, 38) := ⟨⟨by decide +kernel, by decide +kernel⟩, List.mem_of_getElem? (i := 1079) (by decide +kernel), List.mem_of_getElem? (i := 1335) (by decide +kernel), List.mem_of_getElem? (i := 1336) (by decide +kernel)⟩
theorem lw_p82 : lw_okq (⟨"CeilingWorkbenchModel", "takeReplenishments", "()V"⟩, 38) := ⟨⟨by decide +kernel, by decide +kernel⟩, List.mem_of_getElem? (i := 1079) (by decide +kernel), List.mem_of_getElem? (i := 1339) (by decide +kernel), List.mem_of_getElem? (i := 1340) (by decide +kernel)⟩
theorem lw_p83 : lw_okq (⟨"CeilingWorkbenchModel", "release", "()V"⟩, 38) := ⟨⟨by decide +kernel, by decide +kernel⟩, List.mem_of_getElem? (i := 1079) (by decide +kernel), List.mem_of_getElem? (i := 1343) (by decide +kernel), List.mem_of_getElem? (i := 1344) (by decide +kernel)⟩
theorem lw_p84 : lw_okq (⟨"CeilingWorkbenchModel", "meetDeadlines", "()V"⟩, 38) := ⟨⟨by decide +kernel, by decide +kernel⟩, List.mem_of_getElem? (i := 1079) (by decide +kernel), List.mem_of_getElem? (i := 1347) (by decide +kernel), List.mem_of_getElem? (i := 1348) (by decide +kernel)⟩
theorem lw_p85 : lw_okq (⟨"CeilingWorkbenchModel", "takeJob", "(II)V"⟩, 38) := ⟨⟨by decide +kernel, by decide +kernel⟩, List.mem_of_getElem? (i := 1079) (by decide +kernel), List.mem_of_getElem? (i := 1351) (by decide +kernel), List.mem_of_getElem? (i := 1352) (by decide +kernel)⟩
theorem lw_p86 : lw_okq (⟨"CeilingWorkbenchModel", "mostUrgent", "()I"⟩, 38) := ⟨⟨by decide +kernel, by decide +kernel⟩, List.mem_of_getElem? (i := 1079) (by decide +kernel), List.mem_of_getElem? (i := 1355) (by decide +kernel), List.mem_of_getElem? (i := 1356) (by decide +kernel)⟩
theorem lw_p87 : lw_okq (⟨"CeilingWorkbenchModel", "isReady", "(I)Z"⟩, 38) := ⟨⟨by decide +kernel, by decide +kernel⟩, List.mem_of_getElem? (i := 1079) (by decide +kernel), List.mem_of_getElem? (i := 1359) (by decide +kernel), List.mem_of_getElem? (i := 1360) (by decide +kernel)⟩
theorem lw_p88 : lw_okq (⟨"CeilingWorkbenchModel", "firstRequest", "(I)I"⟩, 38) := ⟨⟨by decide +kernel, by decide +kernel⟩, List.mem_of_getElem? (i := 1079) (by decide +kernel), List.mem_of_getElem? (i := 1363) (by decide +kernel), List.mem_of_getElem? (i := 1364) (by decide +kernel)⟩
theorem lw_p89 : lw_okq (⟨"CeilingWorkbenchModel", "activeOf", "(I)I"⟩, 38) := ⟨⟨by decide +kernel, by decide +kernel⟩, List.mem_of_getElem? (i := 1079) (by decide +kernel), List.mem_of_getElem? (i := 1367) (by decide +kernel), List.mem_of_getElem? (i := 1368) (by decide +kernel)⟩
theorem lw_p90 : lw_okq (⟨"CeilingWorkbenchModel", "heldBy", "(I)I"⟩, 38) := ⟨⟨by decide +kernel, by decide +kernel⟩, List.mem_of_getElem? (i := 1079) (by decide +kernel), List.mem_of_getElem? (i := 1371) (by decide +kernel), List.mem_of_getElem? (i := 1372) (by decide +kernel)⟩
theorem lw_p91 : lw_okq (⟨"CeilingWorkbenchModel", "segmentNow", "(IZ)I"⟩, 38) := ⟨⟨by decide +kernel, by decide +kernel⟩, List.mem_of_getElem? (i := 1079) (by decide +kernel), List.mem_of_getElem? (i := 1375) (by decide +kernel), List.mem_of_getElem? (i := 1376) (by decide +kernel)⟩
theorem lw_p92 : lw_okq (⟨"CeilingWorkbenchModel", "countPreemption", "(I)V"⟩, 38) := ⟨⟨by decide +kernel, by decide +kernel⟩, List.mem_of_getElem? (i := 1079) (by decide +kernel), List.mem_of_getElem? (i := 1379) (by decide +kernel), List.mem_of_getElem? (i := 1380) (by decide +kernel)⟩
theorem lw_p93 : lw_okq (⟨"CeilingWorkbenchModel", "runServer", "()V"⟩, 38) := ⟨⟨by decide +kernel, by decide +kernel⟩, List.mem_of_getElem? (i := 1079) (by decide +kernel), List.mem_of_getElem? (i := 1383) (by decide +kernel), List.mem_of_getElem? (i := 1384) (by decide +kernel)⟩
theorem lw_p94 : lw_okq (⟨"CeilingWorkbenchModel", "runJob", "(I)I"⟩, 38) := ⟨⟨by decide +kernel, by decide +kernel⟩, List.mem_of_getElem? (i := 1079) (by decide +kernel), List.mem_of_getElem? (i := 1387) (by decide +kernel), List.mem_of_getElem? (i := 1388) (by decide +kernel)⟩
theorem lw_p95 : lw_okq (⟨"CeilingWorkbenchModel", "endBusy", "()V"⟩, 38) := ⟨⟨by decide +kernel, by decide +kernel⟩, List.mem_of_getElem? (i := 1079) (by decide +kernel), List.mem_of_getElem? (i := 1391) (by decide +kernel), List.mem_of_getElem? (i := 1392) (by decide +kernel)⟩
def lw_privs_6 : List (MethodName × Nat) := [(⟨"CeilingWorkbenchModel", "comes", "(II)I"⟩, 38), (⟨"CeilingWorkbenchModel", "makeUnit", "()I"⟩, 38), (⟨"CeilingWorkbenchModel", "takeReplenishments", "()V"⟩, 38), (⟨"CeilingWorkbenchModel", "release", "()V"⟩, 38), (⟨"CeilingWorkbenchModel", "meetDeadlines", "()V"⟩, 38), (⟨"CeilingWorkbenchModel", "takeJob", "(II)V"⟩, 38), (⟨"CeilingWorkbenchModel", "mostUrgent", "()I"⟩, 38), (⟨"CeilingWorkbenchModel", "isReady", "(I)Z"⟩, 38), (⟨"CeilingWorkbenchModel", "firstRequest", "(I)I"⟩, 38), (⟨"CeilingWorkbenchModel", "activeOf", "(I)I"⟩, 38), (⟨"CeilingWorkbenchModel", "heldBy", "(I)I"⟩, 38), (⟨"CeilingWorkbenchModel", "segmentNow", "(IZ)I"⟩, 38), (⟨"CeilingWorkbenchModel", "countPreemption", "(I)V"⟩, 38), (⟨"CeilingWorkbenchModel", "runServer", "()V"⟩, 38), (⟨"CeilingWorkbenchModel", "runJob", "(I)I"⟩, 38), (⟨"CeilingWorkbenchModel", "endBusy", "()V"⟩, 38)]
theorem lw_r6 : ∀ q ∈ lw_privs_6, lw_okq q := List.forall_mem_cons.mpr ⟨lw_p80, List.forall_mem_cons.mpr ⟨lw_p81, List.forall_mem_cons.mpr ⟨lw_p82, List.forall_mem_cons.mpr ⟨lw_p83, List.forall_mem_cons.mpr ⟨lw_p84, List.forall_mem_cons.mpr ⟨lw_p85, List.forall_mem_cons.mpr ⟨lw_p86, List.forall_mem_cons.mpr ⟨lw_p87, List.forall_mem_cons.mpr ⟨lw_p88, List.forall_mem_cons.mpr ⟨lw_p89, List.forall_mem_cons.mpr ⟨lw_p90, List.forall_mem_cons.mpr ⟨lw_p91, List.forall_mem_cons.mpr ⟨lw_p92, List.forall_mem_cons.mpr ⟨lw_p93, List.forall_mem_cons.mpr ⟨lw_p94, List.forall_mem_cons.mpr ⟨lw_p95, fun _ h => absurd h List.not_mem_nil⟩⟩⟩⟩⟩⟩⟩⟩⟩⟩⟩⟩⟩⟩⟩⟩
theorem lw_p96 : lw_okq (⟨"CeilingWorkbenchModel", "readCommand", "()I"⟩, 38) := ⟨⟨by decide +kernel, by decide +kernel⟩, List.mem_of_getElem? (i := 1079) (by decide +kernel), List.mem_of_getElem? (i := 1454) (by decide +kernel), List.mem_of_getElem? (i := 1455) (by decide +kernel)⟩
theorem lw_p97 : lw_okq (⟨"CeilingWorkbenchModel", "sign", "()I"⟩, 38) := ⟨⟨by decide +kernel, by decide +kernel⟩, List.mem_of_getElem? (i := 1079) (by decide +kernel), List.mem_of_getElem? (i := 1458) (by decide +kernel), List.mem_of_getElem? (i := 1459) (by decide +kernel)⟩
theorem lw_p98 : lw_okq (⟨"CeilingWorkbenchModel", "take", "(C)V"⟩, 38) := ⟨⟨by decide +kernel, by decide +kernel⟩, List.mem_of_getElem? (i := 1079) (by decide +kernel), List.mem_of_getElem? (i := 1462) (by decide +kernel), List.mem_of_getElem? (i := 1463) (by decide +kernel)⟩
theorem lw_p99 : lw_okq (⟨"CeilingWorkbenchModel", "readNumbers", "(I)V"⟩, 38) := ⟨⟨by decide +kernel, by decide +kernel⟩, List.mem_of_getElem? (i := 1079) (by decide +kernel), List.mem_of_getElem? (i := 1466) (by decide +kernel), List.mem_of_getElem? (i := 1467) (by decide +kernel)⟩
theorem lw_p100 : lw_okq (⟨"CeilingWorkbenchModel", "number", "()I"⟩, 38) := ⟨⟨by decide +kernel, by decide +kernel⟩, List.mem_of_getElem? (i := 1079) (by decide +kernel), List.mem_of_getElem? (i := 1470) (by decide +kernel), List.mem_of_getElem? (i := 1471) (by decide +kernel)⟩
theorem lw_p101 : lw_okq (⟨"CeilingWorkbenchModel", "takeAll", "(CCCCCCC)V"⟩, 38) := ⟨⟨by decide +kernel, by decide +kernel⟩, List.mem_of_getElem? (i := 1079) (by decide +kernel), List.mem_of_getElem? (i := 1474) (by decide +kernel), List.mem_of_getElem? (i := 1475) (by decide +kernel)⟩
theorem lw_p102 : lw_okq (⟨"CeilingWorkbenchModel", "policyName", "()I"⟩, 38) := ⟨⟨by decide +kernel, by decide +kernel⟩, List.mem_of_getElem? (i := 1079) (by decide +kernel), List.mem_of_getElem? (i := 1478) (by decide +kernel), List.mem_of_getElem? (i := 1479) (by decide +kernel)⟩
theorem lw_p103 : lw_okq (⟨"CeilingWorkbenchModel", "resource", "()I"⟩, 38) := ⟨⟨by decide +kernel, by decide +kernel⟩, List.mem_of_getElem? (i := 1079) (by decide +kernel), List.mem_of_getElem? (i := 1482) (by decide +kernel), List.mem_of_getElem? (i := 1483) (by decide +kernel)⟩
theorem lw_p104 : lw_okq (⟨"CeilingWorkbenchModel", "doCommand", "(I)I"⟩, 38) := ⟨⟨by decide +kernel, by decide +kernel⟩, List.mem_of_getElem? (i := 1079) (by decide +kernel), List.mem_of_getElem? (i := 1486) (by decide +kernel), List.mem_of_getElem? (i := 1487) (by decide +kernel)⟩
theorem lw_p105 : lw_okq (⟨"CeilingWorkbenchModel", "passAll", "(Z)V"⟩, 38) := ⟨⟨by decide +kernel, by decide +kernel⟩, List.mem_of_getElem? (i := 1079) (by decide +kernel), List.mem_of_getElem? (i := 1503) (by decide +kernel), List.mem_of_getElem? (i := 1504) (by decide +kernel)⟩
theorem lw_p106 : lw_okq (⟨"CeilingWorkbenchModel", "pass", "(I)I"⟩, 38) := ⟨⟨by decide +kernel, by decide +kernel⟩, List.mem_of_getElem? (i := 1079) (by decide +kernel), List.mem_of_getElem? (i := 1507) (by decide +kernel), List.mem_of_getElem? (i := 1508) (by decide +kernel)⟩
theorem lw_p107 : lw_okq (⟨"CeilingWorkbenchModel", "passRow", "([I)V"⟩, 38) := ⟨⟨by decide +kernel, by decide +kernel⟩, List.mem_of_getElem? (i := 1079) (by decide +kernel), List.mem_of_getElem? (i := 1511) (by decide +kernel), List.mem_of_getElem? (i := 1512) (by decide +kernel)⟩
def lw_privs_7 : List (MethodName × Nat) := [(⟨"CeilingWorkbenchModel", "readCommand", "()I"⟩, 38), (⟨"CeilingWorkbenchModel", "sign", "()I"⟩, 38), (⟨"CeilingWorkbenchModel", "take", "(C)V"⟩, 38), (⟨"CeilingWorkbenchModel", "readNumbers", "(I)V"⟩, 38), (⟨"CeilingWorkbenchModel", "number", "()I"⟩, 38), (⟨"CeilingWorkbenchModel", "takeAll", "(CCCCCCC)V"⟩, 38), (⟨"CeilingWorkbenchModel", "policyName", "()I"⟩, 38), (⟨"CeilingWorkbenchModel", "resource", "()I"⟩, 38), (⟨"CeilingWorkbenchModel", "doCommand", "(I)I"⟩, 38), (⟨"CeilingWorkbenchModel", "passAll", "(Z)V"⟩, 38), (⟨"CeilingWorkbenchModel", "pass", "(I)I"⟩, 38), (⟨"CeilingWorkbenchModel", "passRow", "([I)V"⟩, 38)]
theorem lw_r7 : ∀ q ∈ lw_privs_7, lw_okq q := List.forall_mem_cons.mpr ⟨lw_p96, List.forall_mem_cons.mpr ⟨lw_p97, List.forall_mem_cons.mpr ⟨lw_p98, List.forall_mem_cons.mpr ⟨lw_p99, List.forall_mem_cons.mpr ⟨lw_p100, List.forall_mem_cons.mpr ⟨lw_p101, List.forall_mem_cons.mpr ⟨lw_p102, List.forall_mem_cons.mpr ⟨lw_p103, List.forall_mem_cons.mpr ⟨lw_p104, List.forall_mem_cons.mpr ⟨lw_p105, List.forall_mem_cons.mpr ⟨lw_p106, List.forall_mem_cons.mpr ⟨lw_p107, fun _ h => absurd h List.not_mem_nil⟩⟩⟩⟩⟩⟩⟩⟩⟩⟩⟩⟩
def lw_privs : List (MethodName × Nat) := lw_privs_1 ++ (lw_privs_2 ++ (lw_privs_3 ++ (lw_privs_4 ++ (lw_privs_5 ++ (lw_privs_6 ++ (lw_privs_7))))))
def lw_tbl : List Cond := k2_sels lw_privs ++ tables_1
theorem lw_privs_ok : ∀ q ∈ lw_privs, lw_okq q := by
  show ∀ q ∈ lw_privs_1 ++ (lw_privs_2 ++ (lw_privs_3 ++ (lw_privs_4 ++ (lw_privs_5 ++ (lw_privs_6 ++ (lw_privs_7)))))), lw_okq q
  exact List.forall_mem_append.mpr ⟨lw_r1, List.forall_mem_append.mpr ⟨lw_r2, List.forall_mem_append.mpr ⟨lw_r3, List.forall_mem_append.mpr ⟨lw_r4, List.forall_mem_append.mpr ⟨lw_r5, List.forall_mem_append.mpr ⟨lw_r6, lw_r7⟩⟩⟩⟩⟩⟩
/-- the streams that the claim lets the run draw from -/
abbrev lw_cs : List Choice := [Jvm.Choice.named "NaN.bits"]
theorem lw_bits : nanBits ∈ lw_cs := by first | decide | exact List.mem_cons_self | simp [lw_cs, nanBits]
end
section
-- names of the classes, fields and methods (out of claim/NAMES.whole.lean.txt)
def RX0 : String := "CeilingWorkbench$Analysis"
def TX0 : u_T := fun k => match k with
  | _ => ("", "", "", false)
def tyX0 : Nat → FieldType := fun k => match k with
  | _ => .int
theorem nmX0 : ∀ a, a < 0 → ∀ b, b < 0 → a ≠ b → (TX0 a).2.1 ≠ (TX0 b).2.1 := by decide +kernel
theorem tyX0_ok : ∀ k, k < 0 → parseFieldDescriptor (TX0 k).2.2.1 = some (tyX0 k) := by decide +kernel
abbrev cX0_blockingOf : ByteArray := prog_2_method_2_code
def yX0_blockingOf : MethodName := ⟨RX0, "blockingOf", "(LCeilingWorkbench$Bench;LCeilingWorkbench$Task;)I"⟩
abbrev cX0_blockingBy : ByteArray := prog_2_method_3_code
def yX0_blockingBy : MethodName := ⟨RX0, "blockingBy", "(LCeilingWorkbench$Bench;LCeilingWorkbench$Task;I)I"⟩
abbrev cX0_boundOf : ByteArray := prog_2_method_4_code
def yX0_boundOf : MethodName := ⟨RX0, "boundOf", "(LCeilingWorkbench$Bench;LCeilingWorkbench$Task;)I"⟩
abbrev cX0_urgentWorkWithin : ByteArray := prog_2_method_5_code
def yX0_urgentWorkWithin : MethodName := ⟨RX0, "urgentWorkWithin", "(LCeilingWorkbench$Bench;LCeilingWorkbench$Task;I)I"⟩
abbrev cX0_isServerAbove : ByteArray := prog_2_method_6_code
def yX0_isServerAbove : MethodName := ⟨RX0, "isServerAbove", "(LCeilingWorkbench$Bench;LCeilingWorkbench$Task;)Z"⟩
abbrev cX0_quotientUp : ByteArray := prog_2_method_7_code
def yX0_quotientUp : MethodName := ⟨RX0, "quotientUp", "(II)I"⟩
abbrev cX0_witnessOf : ByteArray := prog_2_method_8_code
def yX0_witnessOf : MethodName := ⟨RX0, "witnessOf", "(LCeilingWorkbench$Bench;LCeilingWorkbench$Task;)I"⟩
abbrev cX0_urgentWorkReleasedAt : ByteArray := prog_2_method_9_code
def yX0_urgentWorkReleasedAt : MethodName := ⟨RX0, "urgentWorkReleasedAt", "(LCeilingWorkbench$Bench;LCeilingWorkbench$Task;I)I"⟩
abbrev cX0_isMultiple : ByteArray := prog_2_method_10_code
def yX0_isMultiple : MethodName := ⟨RX0, "isMultiple", "(II)Z"⟩
abbrev cX0_meetsDeadlines : ByteArray := prog_2_method_11_code
def yX0_meetsDeadlines : MethodName := ⟨RX0, "meetsDeadlines", "(LCeilingWorkbench$Bench;)Z"⟩
abbrev cX0_loadOf : ByteArray := prog_2_method_12_code
def yX0_loadOf : MethodName := ⟨RX0, "loadOf", "(LCeilingWorkbench$Bench;)D"⟩
abbrev cX0_hyperbolicLoadOf : ByteArray := prog_2_method_13_code
def yX0_hyperbolicLoadOf : MethodName := ⟨RX0, "hyperbolicLoadOf", "(LCeilingWorkbench$Bench;)D"⟩
abbrev cX0_share : ByteArray := prog_2_method_14_code
def yX0_share : MethodName := ⟨RX0, "share", "(II)D"⟩
def RX1 : String := "CeilingWorkbench$Bench"
def TX1 : u_T := fun k => match k with
  | 0 => ("CeilingWorkbench$Bench", "tasks", "[LCeilingWorkbench$Task;", true)
  | 1 => ("CeilingWorkbench$Bench", "server", "LCeilingWorkbench$Server;", true)
  | 2 => ("CeilingWorkbench$Bench", "requests", "LCeilingWorkbench$Requests;", true)
  | 3 => ("CeilingWorkbench$Bench", "ceilings", "[I", true)
  | 4 => ("CeilingWorkbench$Bench", "ran", "[I", true)
  | 5 => ("CeilingWorkbench$Bench", "taskCount", "I", false)
  | 6 => ("CeilingWorkbench$Bench", "policy", "I", false)
  | _ => ("CeilingWorkbench$Bench", "clock", "I", false)
def tyX1 : Nat → FieldType := fun k => match k with
  | 0 => .array (.object "CeilingWorkbench$Task")
  | 1 => .object "CeilingWorkbench$Server"
  | 2 => .object "CeilingWorkbench$Requests"
  | 3 => .array .int
  | 4 => .array .int
  | 5 => .int
  | 6 => .int
  | _ => .int
theorem nmX1 : ∀ a, a < 8 → ∀ b, b < 8 → a ≠ b → (TX1 a).2.1 ≠ (TX1 b).2.1 := by decide +kernel
theorem tyX1_ok : ∀ k, k < 8 → parseFieldDescriptor (TX1 k).2.2.1 = some (tyX1 k) := by decide +kernel
abbrev cX1_init : ByteArray := prog_3_method_1_code
def yX1_init : MethodName := ⟨RX1, "<init>", "()V"⟩
abbrev cX1_hasTask : ByteArray := prog_3_method_2_code
def yX1_hasTask : MethodName := ⟨RX1, "hasTask", "(I)Z"⟩
abbrev cX1_removeAll : ByteArray := prog_3_method_3_code
def yX1_removeAll : MethodName := ⟨RX1, "removeAll", "()I"⟩
abbrev cX1_startAgain : ByteArray := prog_3_method_4_code
def yX1_startAgain : MethodName := ⟨RX1, "startAgain", "()I"⟩
abbrev cX1_putTask : ByteArray := prog_3_method_5_code
def yX1_putTask : MethodName := ⟨RX1, "putTask", "(IIII)I"⟩
abbrev cX1_isPriorityOfTask : ByteArray := prog_3_method_6_code
def yX1_isPriorityOfTask : MethodName := ⟨RX1, "isPriorityOfTask", "(I)Z"⟩
abbrev cX1_putSegment : ByteArray := prog_3_method_7_code
def yX1_putSegment : MethodName := ⟨RX1, "putSegment", "(III)I"⟩
abbrev cX1_putServer : ByteArray := prog_3_method_8_code
def yX1_putServer : MethodName := ⟨RX1, "putServer", "(III)I"⟩
abbrev cX1_putRequest : ByteArray := prog_3_method_9_code
def yX1_putRequest : MethodName := ⟨RX1, "putRequest", "(II)I"⟩
abbrev cX1_putPolicy : ByteArray := prog_3_method_10_code
def yX1_putPolicy : MethodName := ⟨RX1, "putPolicy", "(I)I"⟩
abbrev cX1_makeUnits : ByteArray := prog_3_method_11_code
def yX1_makeUnits : MethodName := ⟨RX1, "makeUnits", "(I)I"⟩
abbrev cX1_makeUnit : ByteArray := prog_3_method_12_code
def yX1_makeUnit : MethodName := ⟨RX1, "makeUnit", "()I"⟩
abbrev cX1_mostUrgent : ByteArray := prog_3_method_13_code
def yX1_mostUrgent : MethodName := ⟨RX1, "mostUrgent", "(Z)I"⟩
abbrev cX1_urgencyOf : ByteArray := prog_3_method_14_code
def yX1_urgencyOf : MethodName := ⟨RX1, "urgencyOf", "(LCeilingWorkbench$Task;)I"⟩
abbrev cX1_notePreemption : ByteArray := prog_3_method_15_code
def yX1_notePreemption : MethodName := ⟨RX1, "notePreemption", "(I)V"⟩
abbrev cX1_holderOf : ByteArray := prog_3_method_16_code
def yX1_holderOf : MethodName := ⟨RX1, "holderOf", "(I)I"⟩
abbrev cX1_usedUnits : ByteArray := prog_3_method_17_code
def yX1_usedUnits : MethodName := ⟨RX1, "usedUnits", "()I"⟩
abbrev cX1_copyFrom : ByteArray := prog_3_method_18_code
def yX1_copyFrom : MethodName := ⟨RX1, "copyFrom", "(LCeilingWorkbench$Bench;)V"⟩
def RX2 : String := "CeilingWorkbench$Jobs"
def TX2 : u_T := fun k => match k with
  | 0 => ("CeilingWorkbench$Jobs", "releases", "[I", true)
  | 1 => ("CeilingWorkbench$Jobs", "first", "I", false)
  | _ => ("CeilingWorkbench$Jobs", "end", "I", false)
def tyX2 : Nat → FieldType := fun k => match k with
  | 0 => .array .int
  | 1 => .int
  | _ => .int
theorem nmX2 : ∀ a, a < 3 → ∀ b, b < 3 → a ≠ b → (TX2 a).2.1 ≠ (TX2 b).2.1 := by decide +kernel
theorem tyX2_ok : ∀ k, k < 3 → parseFieldDescriptor (TX2 k).2.2.1 = some (tyX2 k) := by decide +kernel
abbrev cX2_init : ByteArray := prog_4_method_1_code
def yX2_init : MethodName := ⟨RX2, "<init>", "()V"⟩
abbrev cX2_removeAll : ByteArray := prog_4_method_2_code
def yX2_removeAll : MethodName := ⟨RX2, "removeAll", "()V"⟩
abbrev cX2_isEmpty : ByteArray := prog_4_method_3_code
def yX2_isEmpty : MethodName := ⟨RX2, "isEmpty", "()Z"⟩
abbrev cX2_size : ByteArray := prog_4_method_4_code
def yX2_size : MethodName := ⟨RX2, "size", "()I"⟩
abbrev cX2_add : ByteArray := prog_4_method_5_code
def yX2_add : MethodName := ⟨RX2, "add", "(I)V"⟩
abbrev cX2_firstRelease : ByteArray := prog_4_method_6_code
def yX2_firstRelease : MethodName := ⟨RX2, "firstRelease", "()I"⟩
abbrev cX2_removeFirst : ByteArray := prog_4_method_7_code
def yX2_removeFirst : MethodName := ⟨RX2, "removeFirst", "()V"⟩
abbrev cX2_placeOf : ByteArray := prog_4_method_8_code
def yX2_placeOf : MethodName := ⟨RX2, "placeOf", "(I)I"⟩
abbrev cX2_removeAt : ByteArray := prog_4_method_9_code
def yX2_removeAt : MethodName := ⟨RX2, "removeAt", "(I)V"⟩
abbrev cX2_copyFrom : ByteArray := prog_4_method_10_code
def yX2_copyFrom : MethodName := ⟨RX2, "copyFrom", "(LCeilingWorkbench$Jobs;)V"⟩
def RX3 : String := "CeilingWorkbench$Reader"
def TX3 : u_T := fun k => match k with
  | 0 => ("CeilingWorkbench$Reader", "signs", "[C", true)
  | 1 => ("CeilingWorkbench$Reader", "numbers", "[I", true)
  | 2 => ("CeilingWorkbench$Reader", "length", "I", false)
  | 3 => ("CeilingWorkbench$Reader", "numberCount", "I", false)
  | _ => ("CeilingWorkbench$Reader", "reach", "I", false)
def tyX3 : Nat → FieldType := fun k => match k with
  | 0 => .array .char
  | 1 => .array .int
  | 2 => .int
  | 3 => .int
  | _ => .int
theorem nmX3 : ∀ a, a < 5 → ∀ b, b < 5 → a ≠ b → (TX3 a).2.1 ≠ (TX3 b).2.1 := by decide +kernel
theorem tyX3_ok : ∀ k, k < 5 → parseFieldDescriptor (TX3 k).2.2.1 = some (tyX3 k) := by decide +kernel
abbrev cX3_init : ByteArray := prog_5_method_1_code
def yX3_init : MethodName := ⟨RX3, "<init>", "()V"⟩
abbrev cX3_isFull : ByteArray := prog_5_method_2_code
def yX3_isFull : MethodName := ⟨RX3, "isFull", "()Z"⟩
abbrev cX3_put : ByteArray := prog_5_method_3_code
def yX3_put : MethodName := ⟨RX3, "put", "(C)I"⟩
abbrev cX3_number : ByteArray := prog_5_method_4_code
def yX3_number : MethodName := ⟨RX3, "number", "(I)I"⟩
abbrev cX3_takeForm : ByteArray := prog_5_method_5_code
def yX3_takeForm : MethodName := ⟨RX3, "takeForm", "()I"⟩
abbrev cX3_patternOf : ByteArray := prog_5_method_6_code
def yX3_patternOf : MethodName := ⟨RX3, "patternOf", "(I)Ljava/lang/String;"⟩
abbrev cX3_fits : ByteArray := prog_5_method_7_code
def yX3_fits : MethodName := ⟨RX3, "fits", "(Ljava/lang/String;)Z"⟩
abbrev cX3_afterSign : ByteArray := prog_5_method_8_code
def yX3_afterSign : MethodName := ⟨RX3, "afterSign", "(IC)I"⟩
abbrev cX3_afterNumber : ByteArray := prog_5_method_9_code
def yX3_afterNumber : MethodName := ⟨RX3, "afterNumber", "(I)I"⟩
def RX4 : String := "CeilingWorkbench$Requests"
def TX4 : u_T := fun k => match k with
  | 0 => ("CeilingWorkbench$Requests", "times", "[I", true)
  | 1 => ("CeilingWorkbench$Requests", "lengths", "[I", true)
  | 2 => ("CeilingWorkbench$Requests", "unitsLeft", "[I", true)
  | 3 => ("CeilingWorkbench$Requests", "responses", "[I", true)
  | _ => ("CeilingWorkbench$Requests", "count", "I", false)
def tyX4 : Nat → FieldType := fun k => match k with
  | 0 => .array .int
  | 1 => .array .int
  | 2 => .array .int
  | 3 => .array .int
  | _ => .int
theorem nmX4 : ∀ a, a < 5 → ∀ b, b < 5 → a ≠ b → (TX4 a).2.1 ≠ (TX4 b).2.1 := by decide +kernel
theorem tyX4_ok : ∀ k, k < 5 → parseFieldDescriptor (TX4 k).2.2.1 = some (tyX4 k) := by decide +kernel
abbrev cX4_init : ByteArray := prog_6_method_1_code
def yX4_init : MethodName := ⟨RX4, "<init>", "()V"⟩
abbrev cX4_removeAll : ByteArray := prog_6_method_2_code
def yX4_removeAll : MethodName := ⟨RX4, "removeAll", "()V"⟩
abbrev cX4_isFull : ByteArray := prog_6_method_3_code
def yX4_isFull : MethodName := ⟨RX4, "isFull", "()Z"⟩
abbrev cX4_add : ByteArray := prog_6_method_4_code
def yX4_add : MethodName := ⟨RX4, "add", "(II)I"⟩
abbrev cX4_startAgain : ByteArray := prog_6_method_5_code
def yX4_startAgain : MethodName := ⟨RX4, "startAgain", "()V"⟩
abbrev cX4_nextToServe : ByteArray := prog_6_method_6_code
def yX4_nextToServe : MethodName := ⟨RX4, "nextToServe", "(I)I"⟩
abbrev cX4_serve : ByteArray := prog_6_method_7_code
def yX4_serve : MethodName := ⟨RX4, "serve", "(II)V"⟩
abbrev cX4_copyFrom : ByteArray := prog_6_method_8_code
def yX4_copyFrom : MethodName := ⟨RX4, "copyFrom", "(LCeilingWorkbench$Requests;)V"⟩
def RX5 : String := "CeilingWorkbench$Server"
def TX5 : u_T := fun k => match k with
  | 0 => ("CeilingWorkbench$Server", "planTimes", "[I", true)
  | 1 => ("CeilingWorkbench$Server", "planIncreases", "[I", true)
  | 2 => ("CeilingWorkbench$Server", "planCount", "I", false)
  | 3 => ("CeilingWorkbench$Server", "present", "Z", false)
  | 4 => ("CeilingWorkbench$Server", "priority", "I", false)
  | 5 => ("CeilingWorkbench$Server", "budget", "I", false)
  | 6 => ("CeilingWorkbench$Server", "period", "I", false)
  | 7 => ("CeilingWorkbench$Server", "balance", "I", false)
  | 8 => ("CeilingWorkbench$Server", "busy", "Z", false)
  | 9 => ("CeilingWorkbench$Server", "busySince", "I", false)
  | _ => ("CeilingWorkbench$Server", "busyUnits", "I", false)
def tyX5 : Nat → FieldType := fun k => match k with
  | 0 => .array .int
  | 1 => .array .int
  | 2 => .int
  | 3 => .boolean
  | 4 => .int
  | 5 => .int
  | 6 => .int
  | 7 => .int
  | 8 => .boolean
  | 9 => .int
  | _ => .int
theorem nmX5 : ∀ a, a < 11 → ∀ b, b < 11 → a ≠ b → (TX5 a).2.1 ≠ (TX5 b).2.1 := by decide +kernel
theorem tyX5_ok : ∀ k, k < 11 → parseFieldDescriptor (TX5 k).2.2.1 = some (tyX5 k) := by decide +kernel
abbrev cX5_init : ByteArray := prog_7_method_1_code
def yX5_init : MethodName := ⟨RX5, "<init>", "()V"⟩
abbrev cX5_begin : ByteArray := prog_7_method_2_code
def yX5_begin : MethodName := ⟨RX5, "begin", "(III)V"⟩
abbrev cX5_startAgain : ByteArray := prog_7_method_3_code
def yX5_startAgain : MethodName := ⟨RX5, "startAgain", "()V"⟩
abbrev cX5_hasPriority : ByteArray := prog_7_method_4_code
def yX5_hasPriority : MethodName := ⟨RX5, "hasPriority", "(I)Z"⟩
abbrev cX5_isReady : ByteArray := prog_7_method_5_code
def yX5_isReady : MethodName := ⟨RX5, "isReady", "(Z)Z"⟩
abbrev cX5_replenishAt : ByteArray := prog_7_method_6_code
def yX5_replenishAt : MethodName := ⟨RX5, "replenishAt", "(I)V"⟩
abbrev cX5_runUnit : ByteArray := prog_7_method_7_code
def yX5_runUnit : MethodName := ⟨RX5, "runUnit", "(I)V"⟩
abbrev cX5_endUnit : ByteArray := prog_7_method_8_code
def yX5_endUnit : MethodName := ⟨RX5, "endUnit", "(IZ)V"⟩
abbrev cX5_nextPlan : ByteArray := prog_7_method_9_code
def yX5_nextPlan : MethodName := ⟨RX5, "nextPlan", "()I"⟩
abbrev cX5_copyFrom : ByteArray := prog_7_method_10_code
def yX5_copyFrom : MethodName := ⟨RX5, "copyFrom", "(LCeilingWorkbench$Server;)V"⟩
def RX6 : String := "CeilingWorkbench$Task"
def TX6 : u_T := fun k => match k with
  | 0 => ("CeilingWorkbench$Task", "resources", "[I", true)
  | 1 => ("CeilingWorkbench$Task", "lengths", "[I", true)
  | 2 => ("CeilingWorkbench$Task", "jobs", "LCeilingWorkbench$Jobs;", true)
  | 3 => ("CeilingWorkbench$Task", "results", "[I", true)
  | 4 => ("CeilingWorkbench$Task", "priority", "I", false)
  | 5 => ("CeilingWorkbench$Task", "period", "I", false)
  | 6 => ("CeilingWorkbench$Task", "deadline", "I", false)
  | 7 => ("CeilingWorkbench$Task", "offset", "I", false)
  | 8 => ("CeilingWorkbench$Task", "segmentCount", "I", false)
  | 9 => ("CeilingWorkbench$Task", "demand", "I", false)
  | 10 => ("CeilingWorkbench$Task", "nextRelease", "I", false)
  | 11 => ("CeilingWorkbench$Task", "mustSkip", "Z", false)
  | 12 => ("CeilingWorkbench$Task", "segment", "I", false)
  | 13 => ("CeilingWorkbench$Task", "unitsOfSegment", "I", false)
  | _ => ("CeilingWorkbench$Task", "responseSum", "I", false)
def tyX6 : Nat → FieldType := fun k => match k with
  | 0 => .array .int
  | 1 => .array .int
  | 2 => .object "CeilingWorkbench$Jobs"
  | 3 => .array .int
  | 4 => .int
  | 5 => .int
  | 6 => .int
  | 7 => .int
  | 8 => .int
  | 9 => .int
  | 10 => .int
  | 11 => .boolean
  | 12 => .int
  | 13 => .int
  | _ => .int
theorem nmX6 : ∀ a, a < 15 → ∀ b, b < 15 → a ≠ b → (TX6 a).2.1 ≠ (TX6 b).2.1 := by decide +kernel
theorem tyX6_ok : ∀ k, k < 15 → parseFieldDescriptor (TX6 k).2.2.1 = some (tyX6 k) := by decide +kernel
abbrev cX6_init : ByteArray := prog_8_method_1_code
def yX6_init : MethodName := ⟨RX6, "<init>", "()V"⟩
abbrev cX6_begin : ByteArray := prog_8_method_2_code
def yX6_begin : MethodName := ⟨RX6, "begin", "(IIII)V"⟩
abbrev cX6_startAgain : ByteArray := prog_8_method_3_code
def yX6_startAgain : MethodName := ⟨RX6, "startAgain", "()V"⟩
abbrev cX6_addPart : ByteArray := prog_8_method_4_code
def yX6_addPart : MethodName := ⟨RX6, "addPart", "(II)V"⟩
abbrev cX6_property : ByteArray := prog_8_method_5_code
def yX6_property : MethodName := ⟨RX6, "property", "(I)I"⟩
abbrev cX6_releaseAt : ByteArray := prog_8_method_6_code
def yX6_releaseAt : MethodName := ⟨RX6, "releaseAt", "(I)V"⟩
abbrev cX6_missAt : ByteArray := prog_8_method_7_code
def yX6_missAt : MethodName := ⟨RX6, "missAt", "(II)V"⟩
abbrev cX6_removeJob : ByteArray := prog_8_method_8_code
def yX6_removeJob : MethodName := ⟨RX6, "removeJob", "(I)V"⟩
abbrev cX6_hasStartedJob : ByteArray := prog_8_method_9_code
def yX6_hasStartedJob : MethodName := ⟨RX6, "hasStartedJob", "()Z"⟩
abbrev cX6_heldResource : ByteArray := prog_8_method_10_code
def yX6_heldResource : MethodName := ⟨RX6, "heldResource", "()I"⟩
abbrev cX6_runUnit : ByteArray := prog_8_method_11_code
def yX6_runUnit : MethodName := ⟨RX6, "runUnit", "(I)Z"⟩
abbrev cX6_finishJob : ByteArray := prog_8_method_12_code
def yX6_finishJob : MethodName := ⟨RX6, "finishJob", "(I)V"⟩
abbrev cX6_copyFrom : ByteArray := prog_8_method_13_code
def yX6_copyFrom : MethodName := ⟨RX6, "copyFrom", "(LCeilingWorkbench$Task;)V"⟩
def RX7 : String := "CeilingWorkbench"
def TX7 : u_T := fun k => match k with
  | 0 => ("CeilingWorkbench", "bench", "LCeilingWorkbench$Bench;", true)
  | 1 => ("CeilingWorkbench", "kept", "LCeilingWorkbench$Bench;", true)
  | 2 => ("CeilingWorkbench", "reader", "LCeilingWorkbench$Reader;", true)
  | 3 => ("CeilingWorkbench", "hasSnapshot", "Z", false)
  | _ => ("CeilingWorkbench", "lastError", "I", false)
def tyX7 : Nat → FieldType := fun k => match k with
  | 0 => .object "CeilingWorkbench$Bench"
  | 1 => .object "CeilingWorkbench$Bench"
  | 2 => .object "CeilingWorkbench$Reader"
  | 3 => .boolean
  | _ => .int
theorem nmX7 : ∀ a, a < 5 → ∀ b, b < 5 → a ≠ b → (TX7 a).2.1 ≠ (TX7 b).2.1 := by decide +kernel
theorem tyX7_ok : ∀ k, k < 5 → parseFieldDescriptor (TX7 k).2.2.1 = some (tyX7 k) := by decide +kernel
abbrev cX7_init : ByteArray := prog_1_method_1_code
def yX7_init : MethodName := ⟨RX7, "<init>", "()V"⟩
abbrev cX7_clear : ByteArray := prog_1_method_2_code
def yX7_clear : MethodName := ⟨RX7, "clear", "()I"⟩
abbrev cX7_addTask : ByteArray := prog_1_method_3_code
def yX7_addTask : MethodName := ⟨RX7, "addTask", "(IIII)I"⟩
abbrev cX7_addSegment : ByteArray := prog_1_method_4_code
def yX7_addSegment : MethodName := ⟨RX7, "addSegment", "(III)I"⟩
abbrev cX7_setServer : ByteArray := prog_1_method_5_code
def yX7_setServer : MethodName := ⟨RX7, "setServer", "(III)Z"⟩
abbrev cX7_request : ByteArray := prog_1_method_6_code
def yX7_request : MethodName := ⟨RX7, "request", "(II)I"⟩
abbrev cX7_setPolicy : ByteArray := prog_1_method_7_code
def yX7_setPolicy : MethodName := ⟨RX7, "setPolicy", "(I)I"⟩
abbrev cX7_append : ByteArray := prog_1_method_8_code
def yX7_append : MethodName := ⟨RX7, "append", "(C)I"⟩
abbrev cX7_configure : ByteArray := prog_1_method_9_code
def yX7_configure : MethodName := ⟨RX7, "configure", "()I"⟩
abbrev cX7_errorPosition : ByteArray := prog_1_method_10_code
def yX7_errorPosition : MethodName := ⟨RX7, "errorPosition", "()I"⟩
abbrev cX7_taskCount : ByteArray := prog_1_method_11_code
def yX7_taskCount : MethodName := ⟨RX7, "taskCount", "()I"⟩
abbrev cX7_task : ByteArray := prog_1_method_12_code
def yX7_task : MethodName := ⟨RX7, "task", "(II)I"⟩
abbrev cX7_ceiling : ByteArray := prog_1_method_13_code
def yX7_ceiling : MethodName := ⟨RX7, "ceiling", "(I)I"⟩
abbrev cX7_blocking : ByteArray := prog_1_method_14_code
def yX7_blocking : MethodName := ⟨RX7, "blocking", "(I)I"⟩
abbrev cX7_bound : ByteArray := prog_1_method_15_code
def yX7_bound : MethodName := ⟨RX7, "bound", "(I)I"⟩
abbrev cX7_witness : ByteArray := prog_1_method_16_code
def yX7_witness : MethodName := ⟨RX7, "witness", "(I)I"⟩
abbrev cX7_isSchedulable : ByteArray := prog_1_method_17_code
def yX7_isSchedulable : MethodName := ⟨RX7, "isSchedulable", "()Z"⟩
abbrev cX7_load : ByteArray := prog_1_method_18_code
def yX7_load : MethodName := ⟨RX7, "load", "()D"⟩
abbrev cX7_hyperbolicLoad : ByteArray := prog_1_method_19_code
def yX7_hyperbolicLoad : MethodName := ⟨RX7, "hyperbolicLoad", "()D"⟩
abbrev cX7_run : ByteArray := prog_1_method_20_code
def yX7_run : MethodName := ⟨RX7, "run", "(I)I"⟩
abbrev cX7_rewind : ByteArray := prog_1_method_21_code
def yX7_rewind : MethodName := ⟨RX7, "rewind", "()I"⟩
abbrev cX7_clock : ByteArray := prog_1_method_22_code
def yX7_clock : MethodName := ⟨RX7, "clock", "()I"⟩
abbrev cX7_ranAt : ByteArray := prog_1_method_23_code
def yX7_ranAt : MethodName := ⟨RX7, "ranAt", "(I)I"⟩
abbrev cX7_pending : ByteArray := prog_1_method_24_code
def yX7_pending : MethodName := ⟨RX7, "pending", "(I)I"⟩
abbrev cX7_activePriority : ByteArray := prog_1_method_25_code
def yX7_activePriority : MethodName := ⟨RX7, "activePriority", "(I)I"⟩
abbrev cX7_holder : ByteArray := prog_1_method_26_code
def yX7_holder : MethodName := ⟨RX7, "holder", "(I)I"⟩
abbrev cX7_result : ByteArray := prog_1_method_27_code
def yX7_result : MethodName := ⟨RX7, "result", "(II)I"⟩
abbrev cX7_averageResponse : ByteArray := prog_1_method_28_code
def yX7_averageResponse : MethodName := ⟨RX7, "averageResponse", "(I)F"⟩
abbrev cX7_balance : ByteArray := prog_1_method_29_code
def yX7_balance : MethodName := ⟨RX7, "balance", "()I"⟩
abbrev cX7_nextReplenishment : ByteArray := prog_1_method_30_code
def yX7_nextReplenishment : MethodName := ⟨RX7, "nextReplenishment", "()I"⟩
abbrev cX7_requestResponse : ByteArray := prog_1_method_31_code
def yX7_requestResponse : MethodName := ⟨RX7, "requestResponse", "(I)I"⟩
abbrev cX7_utilization : ByteArray := prog_1_method_32_code
def yX7_utilization : MethodName := ⟨RX7, "utilization", "()D"⟩
abbrev cX7_snapshot : ByteArray := prog_1_method_33_code
def yX7_snapshot : MethodName := ⟨RX7, "snapshot", "()I"⟩
abbrev cX7_restore : ByteArray := prog_1_method_34_code
def yX7_restore : MethodName := ⟨RX7, "restore", "()I"⟩
abbrev cX7_perform : ByteArray := prog_1_method_35_code
def yX7_perform : MethodName := ⟨RX7, "perform", "(I)I"⟩
abbrev cX7_accepted : ByteArray := prog_1_method_36_code
def yX7_accepted : MethodName := ⟨RX7, "accepted", "(I)I"⟩
abbrev cX7_found : ByteArray := prog_1_method_37_code
def yX7_found : MethodName := ⟨RX7, "found", "(I)I"⟩
abbrev cX7_checkedResource : ByteArray := prog_1_method_38_code
def yX7_checkedResource : MethodName := ⟨RX7, "checkedResource", "(I)I"⟩
abbrev cX7_taskAt : ByteArray := prog_1_method_39_code
def yX7_taskAt : MethodName := ⟨RX7, "taskAt", "(I)LCeilingWorkbench$Task;"⟩
abbrev cX7_taskWithSegments : ByteArray := prog_1_method_40_code
def yX7_taskWithSegments : MethodName := ⟨RX7, "taskWithSegments", "(I)LCeilingWorkbench$Task;"⟩
abbrev cX7_presentServer : ByteArray := prog_1_method_41_code
def yX7_presentServer : MethodName := ⟨RX7, "presentServer", "()LCeilingWorkbench$Server;"⟩
abbrev cX7_isWithin : ByteArray := prog_1_method_42_code
def yX7_isWithin : MethodName := ⟨RX7, "isWithin", "(III)Z"⟩
def RX8 : String := "CeilingWorkbenchModel"
def TX8 : u_T := fun k => match k with
  | 0 => ("CeilingWorkbenchModel", "thrown", "I", false)
  | 1 => ("CeilingWorkbenchModel", "policy", "I", false)
  | 2 => ("CeilingWorkbenchModel", "many", "I", false)
  | 3 => ("CeilingWorkbenchModel", "tasks", "[I", true)
  | 4 => ("CeilingWorkbenchModel", "segmentMany", "[I", true)
  | 5 => ("CeilingWorkbenchModel", "segments", "[I", true)
  | 6 => ("CeilingWorkbenchModel", "serverPriority", "I", false)
  | 7 => ("CeilingWorkbenchModel", "serverBudget", "I", false)
  | 8 => ("CeilingWorkbenchModel", "serverPeriod", "I", false)
  | 9 => ("CeilingWorkbenchModel", "requestMany", "I", false)
  | 10 => ("CeilingWorkbenchModel", "requests", "[I", true)
  | 11 => ("CeilingWorkbenchModel", "clock", "I", false)
  | 12 => ("CeilingWorkbenchModel", "ran", "[I", true)
  | 13 => ("CeilingWorkbenchModel", "jobs", "[I", true)
  | 14 => ("CeilingWorkbenchModel", "jobMany", "[I", true)
  | 15 => ("CeilingWorkbenchModel", "progress", "[I", true)
  | 16 => ("CeilingWorkbenchModel", "skips", "[I", true)
  | 17 => ("CeilingWorkbenchModel", "results", "[I", true)
  | 18 => ("CeilingWorkbenchModel", "responses", "[I", true)
  | 19 => ("CeilingWorkbenchModel", "balance", "I", false)
  | 20 => ("CeilingWorkbenchModel", "isBusy", "I", false)
  | 21 => ("CeilingWorkbenchModel", "busySince", "I", false)
  | 22 => ("CeilingWorkbenchModel", "busyUnits", "I", false)
  | 23 => ("CeilingWorkbenchModel", "left", "[I", true)
  | 24 => ("CeilingWorkbenchModel", "finished", "[I", true)
  | 25 => ("CeilingWorkbenchModel", "planned", "[I", true)
  | 26 => ("CeilingWorkbenchModel", "plannedMany", "I", false)
  | 27 => ("CeilingWorkbenchModel", "input", "[C", true)
  | 28 => ("CeilingWorkbenchModel", "typed", "I", false)
  | 29 => ("CeilingWorkbenchModel", "end", "I", false)
  | 30 => ("CeilingWorkbenchModel", "at", "I", false)
  | 31 => ("CeilingWorkbenchModel", "fault", "I", false)
  | 32 => ("CeilingWorkbenchModel", "error", "I", false)
  | 33 => ("CeilingWorkbenchModel", "arguments", "[I", true)
  | 34 => ("CeilingWorkbenchModel", "isKept", "Z", false)
  | 35 => ("CeilingWorkbenchModel", "kept", "[I", true)
  | 36 => ("CeilingWorkbenchModel", "keptAt", "I", false)
  | _ => ("CeilingWorkbenchModel", "isBack", "Z", false)
def tyX8 : Nat → FieldType := fun k => match k with
  | 0 => .int
  | 1 => .int
  | 2 => .int
  | 3 => .array .int
  | 4 => .array .int
  | 5 => .array .int
  | 6 => .int
  | 7 => .int
  | 8 => .int
  | 9 => .int
  | 10 => .array .int
  | 11 => .int
  | 12 => .array .int
  | 13 => .array .int
  | 14 => .array .int
  | 15 => .array .int
  | 16 => .array .int
  | 17 => .array .int
  | 18 => .array .int
  | 19 => .int
  | 20 => .int
  | 21 => .int
  | 22 => .int
  | 23 => .array .int
  | 24 => .array .int
  | 25 => .array .int
  | 26 => .int
  | 27 => .array .char
  | 28 => .int
  | 29 => .int
  | 30 => .int
  | 31 => .int
  | 32 => .int
  | 33 => .array .int
  | 34 => .boolean
  | 35 => .array .int
  | 36 => .int
  | _ => .boolean
theorem nmX8 : ∀ a, a < 38 → ∀ b, b < 38 → a ≠ b → (TX8 a).2.1 ≠ (TX8 b).2.1 := by decide +kernel
theorem tyX8_ok : ∀ k, k < 38 → parseFieldDescriptor (TX8 k).2.2.1 = some (tyX8 k) := by decide +kernel
abbrev cX8_init : ByteArray := prog_10_method_1_code
def yX8_init : MethodName := ⟨RX8, "<init>", "()V"⟩
abbrev cX8_isIn : ByteArray := prog_10_method_2_code
def yX8_isIn : MethodName := ⟨RX8, "isIn", "(III)Z"⟩
abbrev cX8_thrown : ByteArray := prog_10_method_3_code
def yX8_thrown : MethodName := ⟨RX8, "thrown", "()I"⟩
abbrev cX8_fail : ByteArray := prog_10_method_4_code
def yX8_fail : MethodName := ⟨RX8, "fail", "(I)I"⟩
abbrev cX8_hasServer : ByteArray := prog_10_method_5_code
def yX8_hasServer : MethodName := ⟨RX8, "hasServer", "()Z"⟩
abbrev cX8_isTask : ByteArray := prog_10_method_6_code
def yX8_isTask : MethodName := ⟨RX8, "isTask", "(I)Z"⟩
abbrev cX8_priorityOf : ByteArray := prog_10_method_7_code
def yX8_priorityOf : MethodName := ⟨RX8, "priorityOf", "(I)I"⟩
abbrev cX8_periodOf : ByteArray := prog_10_method_8_code
def yX8_periodOf : MethodName := ⟨RX8, "periodOf", "(I)I"⟩
abbrev cX8_lengthAt : ByteArray := prog_10_method_9_code
def yX8_lengthAt : MethodName := ⟨RX8, "lengthAt", "(II)I"⟩
abbrev cX8_resourceAt : ByteArray := prog_10_method_10_code
def yX8_resourceAt : MethodName := ⟨RX8, "resourceAt", "(II)I"⟩
abbrev cX8_demandOf : ByteArray := prog_10_method_11_code
def yX8_demandOf : MethodName := ⟨RX8, "demandOf", "(I)I"⟩
abbrev cX8_restart : ByteArray := prog_10_method_12_code
def yX8_restart : MethodName := ⟨RX8, "restart", "()V"⟩
abbrev cX8_clear : ByteArray := prog_10_method_13_code
def yX8_clear : MethodName := ⟨RX8, "clear", "()I"⟩
abbrev cX8_isTaken : ByteArray := prog_10_method_14_code
def yX8_isTaken : MethodName := ⟨RX8, "isTaken", "(I)Z"⟩
abbrev cX8_addTask : ByteArray := prog_10_method_15_code
def yX8_addTask : MethodName := ⟨RX8, "addTask", "(IIII)I"⟩
abbrev cX8_addSegment : ByteArray := prog_10_method_16_code
def yX8_addSegment : MethodName := ⟨RX8, "addSegment", "(III)I"⟩
abbrev cX8_setServer : ByteArray := prog_10_method_17_code
def yX8_setServer : MethodName := ⟨RX8, "setServer", "(III)Z"⟩
abbrev cX8_request : ByteArray := prog_10_method_18_code
def yX8_request : MethodName := ⟨RX8, "request", "(II)I"⟩
abbrev cX8_setPolicy : ByteArray := prog_10_method_19_code
def yX8_setPolicy : MethodName := ⟨RX8, "setPolicy", "(I)I"⟩
abbrev cX8_taskCount : ByteArray := prog_10_method_20_code
def yX8_taskCount : MethodName := ⟨RX8, "taskCount", "()I"⟩
abbrev cX8_task : ByteArray := prog_10_method_21_code
def yX8_task : MethodName := ⟨RX8, "task", "(II)I"⟩
abbrev cX8_ceilingOf : ByteArray := prog_10_method_22_code
def yX8_ceilingOf : MethodName := ⟨RX8, "ceilingOf", "(I)I"⟩
abbrev cX8_ceiling : ByteArray := prog_10_method_23_code
def yX8_ceiling : MethodName := ⟨RX8, "ceiling", "(I)I"⟩
abbrev cX8_blockingOf : ByteArray := prog_10_method_24_code
def yX8_blockingOf : MethodName := ⟨RX8, "blockingOf", "(I)I"⟩
abbrev cX8_blocking : ByteArray := prog_10_method_25_code
def yX8_blocking : MethodName := ⟨RX8, "blocking", "(I)I"⟩
abbrev cX8_quotientUp : ByteArray := prog_10_method_26_code
def yX8_quotientUp : MethodName := ⟨RX8, "quotientUp", "(II)I"⟩
abbrev cX8_workUpTo : ByteArray := prog_10_method_27_code
def yX8_workUpTo : MethodName := ⟨RX8, "workUpTo", "(II)I"⟩
abbrev cX8_boundOf : ByteArray := prog_10_method_28_code
def yX8_boundOf : MethodName := ⟨RX8, "boundOf", "(I)I"⟩
abbrev cX8_bound : ByteArray := prog_10_method_29_code
def yX8_bound : MethodName := ⟨RX8, "bound", "(I)I"⟩
abbrev cX8_comes : ByteArray := prog_10_method_30_code
def yX8_comes : MethodName := ⟨RX8, "comes", "(II)I"⟩
abbrev cX8_witness : ByteArray := prog_10_method_31_code
def yX8_witness : MethodName := ⟨RX8, "witness", "(I)I"⟩
abbrev cX8_isSchedulable : ByteArray := prog_10_method_32_code
def yX8_isSchedulable : MethodName := ⟨RX8, "isSchedulable", "()Z"⟩
abbrev cX8_load : ByteArray := prog_10_method_33_code
def yX8_load : MethodName := ⟨RX8, "load", "()D"⟩
abbrev cX8_hyperbolicLoad : ByteArray := prog_10_method_34_code
def yX8_hyperbolicLoad : MethodName := ⟨RX8, "hyperbolicLoad", "()D"⟩
abbrev cX8_takeReplenishments : ByteArray := prog_10_method_35_code
def yX8_takeReplenishments : MethodName := ⟨RX8, "takeReplenishments", "()V"⟩
abbrev cX8_release : ByteArray := prog_10_method_36_code
def yX8_release : MethodName := ⟨RX8, "release", "()V"⟩
abbrev cX8_takeJob : ByteArray := prog_10_method_37_code
def yX8_takeJob : MethodName := ⟨RX8, "takeJob", "(II)V"⟩
abbrev cX8_meetDeadlines : ByteArray := prog_10_method_38_code
def yX8_meetDeadlines : MethodName := ⟨RX8, "meetDeadlines", "()V"⟩
abbrev cX8_segmentNow : ByteArray := prog_10_method_39_code
def yX8_segmentNow : MethodName := ⟨RX8, "segmentNow", "(IZ)I"⟩
abbrev cX8_heldBy : ByteArray := prog_10_method_40_code
def yX8_heldBy : MethodName := ⟨RX8, "heldBy", "(I)I"⟩
abbrev cX8_activeOf : ByteArray := prog_10_method_41_code
def yX8_activeOf : MethodName := ⟨RX8, "activeOf", "(I)I"⟩
abbrev cX8_firstRequest : ByteArray := prog_10_method_42_code
def yX8_firstRequest : MethodName := ⟨RX8, "firstRequest", "(I)I"⟩
abbrev cX8_isReady : ByteArray := prog_10_method_43_code
def yX8_isReady : MethodName := ⟨RX8, "isReady", "(I)Z"⟩
abbrev cX8_mostUrgent : ByteArray := prog_10_method_44_code
def yX8_mostUrgent : MethodName := ⟨RX8, "mostUrgent", "()I"⟩
abbrev cX8_runServer : ByteArray := prog_10_method_45_code
def yX8_runServer : MethodName := ⟨RX8, "runServer", "()V"⟩
abbrev cX8_runJob : ByteArray := prog_10_method_46_code
def yX8_runJob : MethodName := ⟨RX8, "runJob", "(I)I"⟩
abbrev cX8_countPreemption : ByteArray := prog_10_method_47_code
def yX8_countPreemption : MethodName := ⟨RX8, "countPreemption", "(I)V"⟩
abbrev cX8_endBusy : ByteArray := prog_10_method_48_code
def yX8_endBusy : MethodName := ⟨RX8, "endBusy", "()V"⟩
abbrev cX8_makeUnit : ByteArray := prog_10_method_49_code
def yX8_makeUnit : MethodName := ⟨RX8, "makeUnit", "()I"⟩
abbrev cX8_run : ByteArray := prog_10_method_50_code
def yX8_run : MethodName := ⟨RX8, "run", "(I)I"⟩
abbrev cX8_rewind : ByteArray := prog_10_method_51_code
def yX8_rewind : MethodName := ⟨RX8, "rewind", "()I"⟩
abbrev cX8_clock : ByteArray := prog_10_method_52_code
def yX8_clock : MethodName := ⟨RX8, "clock", "()I"⟩
abbrev cX8_ranAt : ByteArray := prog_10_method_53_code
def yX8_ranAt : MethodName := ⟨RX8, "ranAt", "(I)I"⟩
abbrev cX8_pending : ByteArray := prog_10_method_54_code
def yX8_pending : MethodName := ⟨RX8, "pending", "(I)I"⟩
abbrev cX8_activePriority : ByteArray := prog_10_method_55_code
def yX8_activePriority : MethodName := ⟨RX8, "activePriority", "(I)I"⟩
abbrev cX8_holder : ByteArray := prog_10_method_56_code
def yX8_holder : MethodName := ⟨RX8, "holder", "(I)I"⟩
abbrev cX8_result : ByteArray := prog_10_method_57_code
def yX8_result : MethodName := ⟨RX8, "result", "(II)I"⟩
abbrev cX8_averageResponse : ByteArray := prog_10_method_58_code
def yX8_averageResponse : MethodName := ⟨RX8, "averageResponse", "(I)F"⟩
abbrev cX8_balance : ByteArray := prog_10_method_59_code
def yX8_balance : MethodName := ⟨RX8, "balance", "()I"⟩
abbrev cX8_nextReplenishment : ByteArray := prog_10_method_60_code
def yX8_nextReplenishment : MethodName := ⟨RX8, "nextReplenishment", "()I"⟩
abbrev cX8_requestResponse : ByteArray := prog_10_method_61_code
def yX8_requestResponse : MethodName := ⟨RX8, "requestResponse", "(I)I"⟩
abbrev cX8_utilization : ByteArray := prog_10_method_62_code
def yX8_utilization : MethodName := ⟨RX8, "utilization", "()D"⟩
abbrev cX8_append : ByteArray := prog_10_method_63_code
def yX8_append : MethodName := ⟨RX8, "append", "(C)I"⟩
abbrev cX8_sign : ByteArray := prog_10_method_64_code
def yX8_sign : MethodName := ⟨RX8, "sign", "()I"⟩
abbrev cX8_take : ByteArray := prog_10_method_65_code
def yX8_take : MethodName := ⟨RX8, "take", "(C)V"⟩
abbrev cX8_takeAll : ByteArray := prog_10_method_66_code
def yX8_takeAll : MethodName := ⟨RX8, "takeAll", "(CCCCCCC)V"⟩
abbrev cX8_number : ByteArray := prog_10_method_67_code
def yX8_number : MethodName := ⟨RX8, "number", "()I"⟩
abbrev cX8_resource : ByteArray := prog_10_method_68_code
def yX8_resource : MethodName := ⟨RX8, "resource", "()I"⟩
abbrev cX8_policyName : ByteArray := prog_10_method_69_code
def yX8_policyName : MethodName := ⟨RX8, "policyName", "()I"⟩
abbrev cX8_readNumbers : ByteArray := prog_10_method_70_code
def yX8_readNumbers : MethodName := ⟨RX8, "readNumbers", "(I)V"⟩
abbrev cX8_readCommand : ByteArray := prog_10_method_71_code
def yX8_readCommand : MethodName := ⟨RX8, "readCommand", "()I"⟩
abbrev cX8_doCommand : ByteArray := prog_10_method_72_code
def yX8_doCommand : MethodName := ⟨RX8, "doCommand", "(I)I"⟩
abbrev cX8_configure : ByteArray := prog_10_method_73_code
def yX8_configure : MethodName := ⟨RX8, "configure", "()I"⟩
abbrev cX8_errorPosition : ByteArray := prog_10_method_74_code
def yX8_errorPosition : MethodName := ⟨RX8, "errorPosition", "()I"⟩
abbrev cX8_pass : ByteArray := prog_10_method_75_code
def yX8_pass : MethodName := ⟨RX8, "pass", "(I)I"⟩
abbrev cX8_passRow : ByteArray := prog_10_method_76_code
def yX8_passRow : MethodName := ⟨RX8, "passRow", "([I)V"⟩
abbrev cX8_passAll : ByteArray := prog_10_method_77_code
def yX8_passAll : MethodName := ⟨RX8, "passAll", "(Z)V"⟩
abbrev cX8_snapshot : ByteArray := prog_10_method_78_code
def yX8_snapshot : MethodName := ⟨RX8, "snapshot", "()I"⟩
abbrev cX8_restore : ByteArray := prog_10_method_79_code
def yX8_restore : MethodName := ⟨RX8, "restore", "()I"⟩
def RL : String := "CeilingWorkbenchLaw"
abbrev cL_addTask : ByteArray := method_3_code
def yL_addTask : MethodName := ⟨RL, "addTask", "(LCeilingWorkbench;IIII[J)I"⟩
abbrev cL_addSegment : ByteArray := method_4_code
def yL_addSegment : MethodName := ⟨RL, "addSegment", "(LCeilingWorkbench;III[J)I"⟩
abbrev cL_setServer : ByteArray := method_5_code
def yL_setServer : MethodName := ⟨RL, "setServer", "(LCeilingWorkbench;III[J)I"⟩
abbrev cL_request : ByteArray := method_6_code
def yL_request : MethodName := ⟨RL, "request", "(LCeilingWorkbench;II[J)I"⟩
abbrev cL_setPolicy : ByteArray := method_7_code
def yL_setPolicy : MethodName := ⟨RL, "setPolicy", "(LCeilingWorkbench;I[J)I"⟩
abbrev cL_append : ByteArray := method_8_code
def yL_append : MethodName := ⟨RL, "append", "(LCeilingWorkbench;C[J)I"⟩
abbrev cL_configure : ByteArray := method_9_code
def yL_configure : MethodName := ⟨RL, "configure", "(LCeilingWorkbench;[J)I"⟩
abbrev cL_errorPosition : ByteArray := method_10_code
def yL_errorPosition : MethodName := ⟨RL, "errorPosition", "(LCeilingWorkbench;[J)I"⟩
abbrev cL_task : ByteArray := method_11_code
def yL_task : MethodName := ⟨RL, "task", "(LCeilingWorkbench;II[J)I"⟩
abbrev cL_ceiling : ByteArray := method_12_code
def yL_ceiling : MethodName := ⟨RL, "ceiling", "(LCeilingWorkbench;I[J)I"⟩
abbrev cL_blocking : ByteArray := method_13_code
def yL_blocking : MethodName := ⟨RL, "blocking", "(LCeilingWorkbench;I[J)I"⟩
abbrev cL_bound : ByteArray := method_14_code
def yL_bound : MethodName := ⟨RL, "bound", "(LCeilingWorkbench;I[J)I"⟩
abbrev cL_witness : ByteArray := method_15_code
def yL_witness : MethodName := ⟨RL, "witness", "(LCeilingWorkbench;I[J)I"⟩
abbrev cL_run : ByteArray := method_16_code
def yL_run : MethodName := ⟨RL, "run", "(LCeilingWorkbench;I[J)I"⟩
abbrev cL_ranAt : ByteArray := method_17_code
def yL_ranAt : MethodName := ⟨RL, "ranAt", "(LCeilingWorkbench;I[J)I"⟩
abbrev cL_pending : ByteArray := method_18_code
def yL_pending : MethodName := ⟨RL, "pending", "(LCeilingWorkbench;I[J)I"⟩
abbrev cL_activePriority : ByteArray := method_19_code
def yL_activePriority : MethodName := ⟨RL, "activePriority", "(LCeilingWorkbench;I[J)I"⟩
abbrev cL_holder : ByteArray := method_20_code
def yL_holder : MethodName := ⟨RL, "holder", "(LCeilingWorkbench;I[J)I"⟩
abbrev cL_result : ByteArray := method_21_code
def yL_result : MethodName := ⟨RL, "result", "(LCeilingWorkbench;II[J)I"⟩
abbrev cL_averageResponse : ByteArray := method_22_code
def yL_averageResponse : MethodName := ⟨RL, "averageResponse", "(LCeilingWorkbench;I[D)I"⟩
abbrev cL_balance : ByteArray := method_23_code
def yL_balance : MethodName := ⟨RL, "balance", "(LCeilingWorkbench;[J)I"⟩
abbrev cL_nextReplenishment : ByteArray := method_24_code
def yL_nextReplenishment : MethodName := ⟨RL, "nextReplenishment", "(LCeilingWorkbench;[J)I"⟩
abbrev cL_requestResponse : ByteArray := method_25_code
def yL_requestResponse : MethodName := ⟨RL, "requestResponse", "(LCeilingWorkbench;I[J)I"⟩
abbrev cL_utilization : ByteArray := method_26_code
def yL_utilization : MethodName := ⟨RL, "utilization", "(LCeilingWorkbench;[D)I"⟩
abbrev cL_restore : ByteArray := method_27_code
def yL_restore : MethodName := ⟨RL, "restore", "(LCeilingWorkbench;[J)I"⟩
abbrev cL_law : ByteArray := code
def yL_law : MethodName := ⟨RL, "law", "([I)Z"⟩
end
