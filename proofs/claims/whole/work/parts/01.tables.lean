-- ===== PART A: goes FIRST, ahead of the names: the tables' words, and 'selects' of the private methods out of them =====
/-- a private method of a class that the tables say can be made, by its rows of tables_1 -/
def lw_okq (q : MethodName × Nat) : Prop := (q.1.cls ≠ "java/lang/invoke/MethodHandle" ∧ q.1.cls ≠ "java/lang/invoke/VarHandle") ∧ Cond.instantiable q.1.cls q.2 ∈ tables_1 ∧ Cond.privateMethod q.1 ∈ tables_1 ∧ Cond.instanceMethod q.1 ∈ tables_1
theorem lw_p0 : lw_okq (⟨"java/lang/Throwable", "fillInStackTrace", "(I)Ljava/lang/Throwable;"⟩, 6) := ⟨⟨by decide +kernel, by decide +kernel⟩, List.mem_of_getElem? (i := 186) (by decide +kernel), List.mem_of_getElem? (i := 184) (by decide +kernel), List.mem_of_getElem? (i := 185) (by decide +kernel)⟩
theorem lw_p1 : lw_okq (⟨"SyncHall", "lockAt", "(I)LSyncHall$Lock;"⟩, 5) := ⟨⟨by decide +kernel, by decide +kernel⟩, List.mem_of_getElem? (i := 22) (by decide +kernel), List.mem_of_getElem? (i := 219) (by decide +kernel), List.mem_of_getElem? (i := 220) (by decide +kernel)⟩
theorem lw_p2 : lw_okq (⟨"SyncHall", "syncAt", "(I)LSyncHall$Sync;"⟩, 5) := ⟨⟨by decide +kernel, by decide +kernel⟩, List.mem_of_getElem? (i := 22) (by decide +kernel), List.mem_of_getElem? (i := 223) (by decide +kernel), List.mem_of_getElem? (i := 224) (by decide +kernel)⟩
theorem lw_p3 : lw_okq (⟨"SyncHall", "workerAt", "(I)LSyncHall$Worker;"⟩, 5) := ⟨⟨by decide +kernel, by decide +kernel⟩, List.mem_of_getElem? (i := 22) (by decide +kernel), List.mem_of_getElem? (i := 399) (by decide +kernel), List.mem_of_getElem? (i := 400) (by decide +kernel)⟩
theorem lw_p4 : lw_okq (⟨"SyncHall$Worker", "isBlocked", "()Z"⟩, 12) := ⟨⟨by decide +kernel, by decide +kernel⟩, List.mem_of_getElem? (i := 31) (by decide +kernel), List.mem_of_getElem? (i := 418) (by decide +kernel), List.mem_of_getElem? (i := 419) (by decide +kernel)⟩
theorem lw_p5 : lw_okq (⟨"SyncHall$Worker", "dropFlag", "()Z"⟩, 12) := ⟨⟨by decide +kernel, by decide +kernel⟩, List.mem_of_getElem? (i := 31) (by decide +kernel), List.mem_of_getElem? (i := 443) (by decide +kernel), List.mem_of_getElem? (i := 444) (by decide +kernel)⟩
theorem lw_p6 : lw_okq (⟨"SyncHall$Worker", "finish", "(I)I"⟩, 12) := ⟨⟨by decide +kernel, by decide +kernel⟩, List.mem_of_getElem? (i := 31) (by decide +kernel), List.mem_of_getElem? (i := 447) (by decide +kernel), List.mem_of_getElem? (i := 448) (by decide +kernel)⟩
theorem lw_p7 : lw_okq (⟨"SyncHall", "keepOrder", "(LSyncHall$Worker;LSyncHall$Gate;I)V"⟩, 5) := ⟨⟨by decide +kernel, by decide +kernel⟩, List.mem_of_getElem? (i := 22) (by decide +kernel), List.mem_of_getElem? (i := 451) (by decide +kernel), List.mem_of_getElem? (i := 452) (by decide +kernel)⟩
theorem lw_p8 : lw_okq (⟨"SyncHall", "locksOwnedBy", "(LSyncHall$Worker;)I"⟩, 5) := ⟨⟨by decide +kernel, by decide +kernel⟩, List.mem_of_getElem? (i := 22) (by decide +kernel), List.mem_of_getElem? (i := 464) (by decide +kernel), List.mem_of_getElem? (i := 465) (by decide +kernel)⟩
theorem lw_p9 : lw_okq (⟨"SyncHall$LockOrder", "isBeforeAny", "(II)Z"⟩, 3) := ⟨⟨by decide +kernel, by decide +kernel⟩, List.mem_of_getElem? (i := 94) (by decide +kernel), List.mem_of_getElem? (i := 468) (by decide +kernel), List.mem_of_getElem? (i := 469) (by decide +kernel)⟩
theorem lw_p10 : lw_okq (⟨"SyncHall$LockOrder", "afterAny", "(I)I"⟩, 3) := ⟨⟨by decide +kernel, by decide +kernel⟩, List.mem_of_getElem? (i := 94) (by decide +kernel), List.mem_of_getElem? (i := 472) (by decide +kernel), List.mem_of_getElem? (i := 473) (by decide +kernel)⟩
theorem lw_p11 : lw_okq (⟨"SyncHall$LockOrder", "putBefore", "(II)V"⟩, 3) := ⟨⟨by decide +kernel, by decide +kernel⟩, List.mem_of_getElem? (i := 94) (by decide +kernel), List.mem_of_getElem? (i := 477) (by decide +kernel), List.mem_of_getElem? (i := 478) (by decide +kernel)⟩
theorem lw_p12 : lw_okq (⟨"SyncHall$Waiters", "size", "()I"⟩, 2) := ⟨⟨by decide +kernel, by decide +kernel⟩, List.mem_of_getElem? (i := 275) (by decide +kernel), List.mem_of_getElem? (i := 503) (by decide +kernel), List.mem_of_getElem? (i := 504) (by decide +kernel)⟩
theorem lw_p13 : lw_okq (⟨"SyncHall$Lock", "isAgain", "(LSyncHall$Worker;)Z"⟩, 6) := ⟨⟨by decide +kernel, by decide +kernel⟩, List.mem_of_getElem? (i := 263) (by decide +kernel), List.mem_of_getElem? (i := 507) (by decide +kernel), List.mem_of_getElem? (i := 508) (by decide +kernel)⟩
theorem lw_p14 : lw_okq (⟨"SyncHall$Waiters", "firstToWrite", "()LSyncHall$Worker;"⟩, 2) := ⟨⟨by decide +kernel, by decide +kernel⟩, List.mem_of_getElem? (i := 275) (by decide +kernel), List.mem_of_getElem? (i := 518) (by decide +kernel), List.mem_of_getElem? (i := 519) (by decide +kernel)⟩
theorem lw_p15 : lw_okq (⟨"SyncHall$Shared", "othersRead", "(LSyncHall$Worker;)Z"⟩, 7) := ⟨⟨by decide +kernel, by decide +kernel⟩, List.mem_of_getElem? (i := 357) (by decide +kernel), List.mem_of_getElem? (i := 538) (by decide +kernel), List.mem_of_getElem? (i := 539) (by decide +kernel)⟩
def lw_privs_1 : List (MethodName × Nat) := [(⟨"java/lang/Throwable", "fillInStackTrace", "(I)Ljava/lang/Throwable;"⟩, 6), (⟨"SyncHall", "lockAt", "(I)LSyncHall$Lock;"⟩, 5), (⟨"SyncHall", "syncAt", "(I)LSyncHall$Sync;"⟩, 5), (⟨"SyncHall", "workerAt", "(I)LSyncHall$Worker;"⟩, 5), (⟨"SyncHall$Worker", "isBlocked", "()Z"⟩, 12), (⟨"SyncHall$Worker", "dropFlag", "()Z"⟩, 12), (⟨"SyncHall$Worker", "finish", "(I)I"⟩, 12), (⟨"SyncHall", "keepOrder", "(LSyncHall$Worker;LSyncHall$Gate;I)V"⟩, 5), (⟨"SyncHall", "locksOwnedBy", "(LSyncHall$Worker;)I"⟩, 5), (⟨"SyncHall$LockOrder", "isBeforeAny", "(II)Z"⟩, 3), (⟨"SyncHall$LockOrder", "afterAny", "(I)I"⟩, 3), (⟨"SyncHall$LockOrder", "putBefore", "(II)V"⟩, 3), (⟨"SyncHall$Waiters", "size", "()I"⟩, 2), (⟨"SyncHall$Lock", "isAgain", "(LSyncHall$Worker;)Z"⟩, 6), (⟨"SyncHall$Waiters", "firstToWrite", "()LSyncHall$Worker;"⟩, 2), (⟨"SyncHall$Shared", "othersRead", "(LSyncHall$Worker;)Z"⟩, 7)]
theorem lw_r1 : ∀ q ∈ lw_privs_1, lw_okq q := List.forall_mem_cons.mpr ⟨lw_p0, List.forall_mem_cons.mpr ⟨lw_p1, List.forall_mem_cons.mpr ⟨lw_p2, List.forall_mem_cons.mpr ⟨lw_p3, List.forall_mem_cons.mpr ⟨lw_p4, List.forall_mem_cons.mpr ⟨lw_p5, List.forall_mem_cons.mpr ⟨lw_p6, List.forall_mem_cons.mpr ⟨lw_p7, List.forall_mem_cons.mpr ⟨lw_p8, List.forall_mem_cons.mpr ⟨lw_p9, List.forall_mem_cons.mpr ⟨lw_p10, List.forall_mem_cons.mpr ⟨lw_p11, List.forall_mem_cons.mpr ⟨lw_p12, List.forall_mem_cons.mpr ⟨lw_p13, List.forall_mem_cons.mpr ⟨lw_p14, List.forall_mem_cons.mpr ⟨lw_p15, fun _ h => absurd h List.not_mem_nil⟩⟩⟩⟩⟩⟩⟩⟩⟩⟩⟩⟩⟩⟩⟩⟩
theorem lw_p16 : lw_okq (⟨"SyncHall$Waiters", "add", "(LSyncHall$Worker;)V"⟩, 2) := ⟨⟨by decide +kernel, by decide +kernel⟩, List.mem_of_getElem? (i := 275) (by decide +kernel), List.mem_of_getElem? (i := 566) (by decide +kernel), List.mem_of_getElem? (i := 567) (by decide +kernel)⟩
theorem lw_p17 : lw_okq (⟨"SyncHall$Worker", "setEnd", "(DD)V"⟩, 12) := ⟨⟨by decide +kernel, by decide +kernel⟩, List.mem_of_getElem? (i := 31) (by decide +kernel), List.mem_of_getElem? (i := 570) (by decide +kernel), List.mem_of_getElem? (i := 571) (by decide +kernel)⟩
theorem lw_p18 : lw_okq (⟨"SyncHall$Lock", "free", "()V"⟩, 6) := ⟨⟨by decide +kernel, by decide +kernel⟩, List.mem_of_getElem? (i := 263) (by decide +kernel), List.mem_of_getElem? (i := 595) (by decide +kernel), List.mem_of_getElem? (i := 596) (by decide +kernel)⟩
theorem lw_p19 : lw_okq (⟨"SyncHall$Shared", "stopReading", "(LSyncHall$Worker;)V"⟩, 7) := ⟨⟨by decide +kernel, by decide +kernel⟩, List.mem_of_getElem? (i := 357) (by decide +kernel), List.mem_of_getElem? (i := 608) (by decide +kernel), List.mem_of_getElem? (i := 609) (by decide +kernel)⟩
theorem lw_p20 : lw_okq (⟨"SyncHall$Shared", "stopWriting", "(LSyncHall$Worker;)V"⟩, 7) := ⟨⟨by decide +kernel, by decide +kernel⟩, List.mem_of_getElem? (i := 357) (by decide +kernel), List.mem_of_getElem? (i := 615) (by decide +kernel), List.mem_of_getElem? (i := 616) (by decide +kernel)⟩
theorem lw_p21 : lw_okq (⟨"SyncHall$Waiters", "firstOfGreatestPriority", "()LSyncHall$Worker;"⟩, 2) := ⟨⟨by decide +kernel, by decide +kernel⟩, List.mem_of_getElem? (i := 275) (by decide +kernel), List.mem_of_getElem? (i := 637) (by decide +kernel), List.mem_of_getElem? (i := 638) (by decide +kernel)⟩
theorem lw_p22 : lw_okq (⟨"SyncHall$Waiters", "at", "(I)LSyncHall$Worker;"⟩, 2) := ⟨⟨by decide +kernel, by decide +kernel⟩, List.mem_of_getElem? (i := 275) (by decide +kernel), List.mem_of_getElem? (i := 641) (by decide +kernel), List.mem_of_getElem? (i := 642) (by decide +kernel)⟩
theorem lw_p23 : lw_okq (⟨"SyncHall$Waiters", "remove", "(LSyncHall$Worker;)V"⟩, 2) := ⟨⟨by decide +kernel, by decide +kernel⟩, List.mem_of_getElem? (i := 275) (by decide +kernel), List.mem_of_getElem? (i := 662) (by decide +kernel), List.mem_of_getElem? (i := 663) (by decide +kernel)⟩
theorem lw_p24 : lw_okq (⟨"SyncHall", "conditionFor", "(LSyncHall$Worker;I)LSyncHall$Condition;"⟩, 5) := ⟨⟨by decide +kernel, by decide +kernel⟩, List.mem_of_getElem? (i := 22) (by decide +kernel), List.mem_of_getElem? (i := 684) (by decide +kernel), List.mem_of_getElem? (i := 685) (by decide +kernel)⟩
theorem lw_p25 : lw_okq (⟨"SyncHall", "queueForLock", "(LSyncHall$Worker;LSyncHall$Lock;I)V"⟩, 5) := ⟨⟨by decide +kernel, by decide +kernel⟩, List.mem_of_getElem? (i := 22) (by decide +kernel), List.mem_of_getElem? (i := 691) (by decide +kernel), List.mem_of_getElem? (i := 692) (by decide +kernel)⟩
theorem lw_p26 : lw_okq (⟨"SyncHall", "signalFirst", "(LSyncHall$Condition;)V"⟩, 5) := ⟨⟨by decide +kernel, by decide +kernel⟩, List.mem_of_getElem? (i := 22) (by decide +kernel), List.mem_of_getElem? (i := 712) (by decide +kernel), List.mem_of_getElem? (i := 713) (by decide +kernel)⟩
theorem lw_p27 : lw_okq (⟨"SyncHall", "giveUp", "(LSyncHall$Worker;I)V"⟩, 5) := ⟨⟨by decide +kernel, by decide +kernel⟩, List.mem_of_getElem? (i := 22) (by decide +kernel), List.mem_of_getElem? (i := 730) (by decide +kernel), List.mem_of_getElem? (i := 731) (by decide +kernel)⟩
theorem lw_p28 : lw_okq (⟨"SyncHall", "nextLate", "()LSyncHall$Worker;"⟩, 5) := ⟨⟨by decide +kernel, by decide +kernel⟩, List.mem_of_getElem? (i := 22) (by decide +kernel), List.mem_of_getElem? (i := 742) (by decide +kernel), List.mem_of_getElem? (i := 743) (by decide +kernel)⟩
theorem lw_p29 : lw_okq (⟨"SyncHallModel", "out", "(II)Z"⟩, 26) := ⟨⟨by decide +kernel, by decide +kernel⟩, List.mem_of_getElem? (i := 809) (by decide +kernel), List.mem_of_getElem? (i := 904) (by decide +kernel), List.mem_of_getElem? (i := 905) (by decide +kernel)⟩
theorem lw_p30 : lw_okq (⟨"SyncHallModel", "fail", "(I)I"⟩, 26) := ⟨⟨by decide +kernel, by decide +kernel⟩, List.mem_of_getElem? (i := 809) (by decide +kernel), List.mem_of_getElem? (i := 908) (by decide +kernel), List.mem_of_getElem? (i := 909) (by decide +kernel)⟩
theorem lw_p31 : lw_okq (⟨"SyncHallModel", "badLimit", "(D)Z"⟩, 26) := ⟨⟨by decide +kernel, by decide +kernel⟩, List.mem_of_getElem? (i := 809) (by decide +kernel), List.mem_of_getElem? (i := 922) (by decide +kernel), List.mem_of_getElem? (i := 923) (by decide +kernel)⟩
def lw_privs_2 : List (MethodName × Nat) := [(⟨"SyncHall$Waiters", "add", "(LSyncHall$Worker;)V"⟩, 2), (⟨"SyncHall$Worker", "setEnd", "(DD)V"⟩, 12), (⟨"SyncHall$Lock", "free", "()V"⟩, 6), (⟨"SyncHall$Shared", "stopReading", "(LSyncHall$Worker;)V"⟩, 7), (⟨"SyncHall$Shared", "stopWriting", "(LSyncHall$Worker;)V"⟩, 7), (⟨"SyncHall$Waiters", "firstOfGreatestPriority", "()LSyncHall$Worker;"⟩, 2), (⟨"SyncHall$Waiters", "at", "(I)LSyncHall$Worker;"⟩, 2), (⟨"SyncHall$Waiters", "remove", "(LSyncHall$Worker;)V"⟩, 2), (⟨"SyncHall", "conditionFor", "(LSyncHall$Worker;I)LSyncHall$Condition;"⟩, 5), (⟨"SyncHall", "queueForLock", "(LSyncHall$Worker;LSyncHall$Lock;I)V"⟩, 5), (⟨"SyncHall", "signalFirst", "(LSyncHall$Condition;)V"⟩, 5), (⟨"SyncHall", "giveUp", "(LSyncHall$Worker;I)V"⟩, 5), (⟨"SyncHall", "nextLate", "()LSyncHall$Worker;"⟩, 5), (⟨"SyncHallModel", "out", "(II)Z"⟩, 26), (⟨"SyncHallModel", "fail", "(I)I"⟩, 26), (⟨"SyncHallModel", "badLimit", "(D)Z"⟩, 26)]
theorem lw_r2 : ∀ q ∈ lw_privs_2, lw_okq q := List.forall_mem_cons.mpr ⟨lw_p16, List.forall_mem_cons.mpr ⟨lw_p17, List.forall_mem_cons.mpr ⟨lw_p18, List.forall_mem_cons.mpr ⟨lw_p19, List.forall_mem_cons.mpr ⟨lw_p20, List.forall_mem_cons.mpr ⟨lw_p21, List.forall_mem_cons.mpr ⟨lw_p22, List.forall_mem_cons.mpr ⟨lw_p23, List.forall_mem_cons.mpr ⟨lw_p24, List.forall_mem_cons.mpr ⟨lw_p25, List.forall_mem_cons.mpr ⟨lw_p26, List.forall_mem_cons.mpr ⟨lw_p27, List.forall_mem_cons.mpr ⟨lw_p28, List.forall_mem_cons.mpr ⟨lw_p29, List.forall_mem_cons.mpr ⟨lw_p30, List.forall_mem_cons.mpr ⟨lw_p31, fun _ h => absurd h List.not_mem_nil⟩⟩⟩⟩⟩⟩⟩⟩⟩⟩⟩⟩⟩⟩⟩⟩
theorem lw_p32 : lw_okq (⟨"SyncHallModel", "check", "(II)I"⟩, 26) := ⟨⟨by decide +kernel, by decide +kernel⟩, List.mem_of_getElem? (i := 809) (by decide +kernel), List.mem_of_getElem? (i := 927) (by decide +kernel), List.mem_of_getElem? (i := 928) (by decide +kernel)⟩
theorem lw_p33 : lw_okq (⟨"SyncHallModel", "settle", "(II)I"⟩, 26) := ⟨⟨by decide +kernel, by decide +kernel⟩, List.mem_of_getElem? (i := 809) (by decide +kernel), List.mem_of_getElem? (i := 931) (by decide +kernel), List.mem_of_getElem? (i := 932) (by decide +kernel)⟩
theorem lw_p34 : lw_okq (⟨"SyncHallModel", "ordered", "(II)Z"⟩, 26) := ⟨⟨by decide +kernel, by decide +kernel⟩, List.mem_of_getElem? (i := 809) (by decide +kernel), List.mem_of_getElem? (i := 935) (by decide +kernel), List.mem_of_getElem? (i := 936) (by decide +kernel)⟩
theorem lw_p35 : lw_okq (⟨"SyncHallModel", "isLock", "(I)Z"⟩, 26) := ⟨⟨by decide +kernel, by decide +kernel⟩, List.mem_of_getElem? (i := 809) (by decide +kernel), List.mem_of_getElem? (i := 939) (by decide +kernel), List.mem_of_getElem? (i := 940) (by decide +kernel)⟩
theorem lw_p36 : lw_okq (⟨"SyncHallModel", "leads", "(II)Z"⟩, 26) := ⟨⟨by decide +kernel, by decide +kernel⟩, List.mem_of_getElem? (i := 809) (by decide +kernel), List.mem_of_getElem? (i := 943) (by decide +kernel), List.mem_of_getElem? (i := 944) (by decide +kernel)⟩
theorem lw_p37 : lw_okq (⟨"SyncHallModel", "mustQueue", "(III)Z"⟩, 26) := ⟨⟨by decide +kernel, by decide +kernel⟩, List.mem_of_getElem? (i := 809) (by decide +kernel), List.mem_of_getElem? (i := 947) (by decide +kernel), List.mem_of_getElem? (i := 948) (by decide +kernel)⟩
theorem lw_p38 : lw_okq (⟨"SyncHallModel", "canTake", "(III)Z"⟩, 26) := ⟨⟨by decide +kernel, by decide +kernel⟩, List.mem_of_getElem? (i := 809) (by decide +kernel), List.mem_of_getElem? (i := 951) (by decide +kernel), List.mem_of_getElem? (i := 952) (by decide +kernel)⟩
theorem lw_p39 : lw_okq (⟨"SyncHallModel", "take", "(III)V"⟩, 26) := ⟨⟨by decide +kernel, by decide +kernel⟩, List.mem_of_getElem? (i := 809) (by decide +kernel), List.mem_of_getElem? (i := 955) (by decide +kernel), List.mem_of_getElem? (i := 956) (by decide +kernel)⟩
theorem lw_p40 : lw_okq (⟨"SyncHallModel", "enter", "(II)V"⟩, 26) := ⟨⟨by decide +kernel, by decide +kernel⟩, List.mem_of_getElem? (i := 809) (by decide +kernel), List.mem_of_getElem? (i := 959) (by decide +kernel), List.mem_of_getElem? (i := 960) (by decide +kernel)⟩
theorem lw_p41 : lw_okq (⟨"SyncHallModel", "serve", "(I)V"⟩, 26) := ⟨⟨by decide +kernel, by decide +kernel⟩, List.mem_of_getElem? (i := 809) (by decide +kernel), List.mem_of_getElem? (i := 967) (by decide +kernel), List.mem_of_getElem? (i := 968) (by decide +kernel)⟩
theorem lw_p42 : lw_okq (⟨"SyncHallModel", "next", "(I)I"⟩, 26) := ⟨⟨by decide +kernel, by decide +kernel⟩, List.mem_of_getElem? (i := 809) (by decide +kernel), List.mem_of_getElem? (i := 971) (by decide +kernel), List.mem_of_getElem? (i := 972) (by decide +kernel)⟩
theorem lw_p43 : lw_okq (⟨"SyncHallModel", "remove", "(II)V"⟩, 26) := ⟨⟨by decide +kernel, by decide +kernel⟩, List.mem_of_getElem? (i := 809) (by decide +kernel), List.mem_of_getElem? (i := 975) (by decide +kernel), List.mem_of_getElem? (i := 976) (by decide +kernel)⟩
theorem lw_p44 : lw_okq (⟨"SyncHallModel", "addWaited", "(II)V"⟩, 26) := ⟨⟨by decide +kernel, by decide +kernel⟩, List.mem_of_getElem? (i := 809) (by decide +kernel), List.mem_of_getElem? (i := 979) (by decide +kernel), List.mem_of_getElem? (i := 980) (by decide +kernel)⟩
theorem lw_p45 : lw_okq (⟨"SyncHallModel", "checkCondition", "(II)I"⟩, 26) := ⟨⟨by decide +kernel, by decide +kernel⟩, List.mem_of_getElem? (i := 809) (by decide +kernel), List.mem_of_getElem? (i := 987) (by decide +kernel), List.mem_of_getElem? (i := 988) (by decide +kernel)⟩
theorem lw_p46 : lw_okq (⟨"SyncHallModel", "queue", "(III)V"⟩, 26) := ⟨⟨by decide +kernel, by decide +kernel⟩, List.mem_of_getElem? (i := 809) (by decide +kernel), List.mem_of_getElem? (i := 991) (by decide +kernel), List.mem_of_getElem? (i := 992) (by decide +kernel)⟩
theorem lw_p47 : lw_okq (⟨"SyncHallModel", "latest", "()I"⟩, 26) := ⟨⟨by decide +kernel, by decide +kernel⟩, List.mem_of_getElem? (i := 809) (by decide +kernel), List.mem_of_getElem? (i := 1007) (by decide +kernel), List.mem_of_getElem? (i := 1008) (by decide +kernel)⟩
def lw_privs_3 : List (MethodName × Nat) := [(⟨"SyncHallModel", "check", "(II)I"⟩, 26), (⟨"SyncHallModel", "settle", "(II)I"⟩, 26), (⟨"SyncHallModel", "ordered", "(II)Z"⟩, 26), (⟨"SyncHallModel", "isLock", "(I)Z"⟩, 26), (⟨"SyncHallModel", "leads", "(II)Z"⟩, 26), (⟨"SyncHallModel", "mustQueue", "(III)Z"⟩, 26), (⟨"SyncHallModel", "canTake", "(III)Z"⟩, 26), (⟨"SyncHallModel", "take", "(III)V"⟩, 26), (⟨"SyncHallModel", "enter", "(II)V"⟩, 26), (⟨"SyncHallModel", "serve", "(I)V"⟩, 26), (⟨"SyncHallModel", "next", "(I)I"⟩, 26), (⟨"SyncHallModel", "remove", "(II)V"⟩, 26), (⟨"SyncHallModel", "addWaited", "(II)V"⟩, 26), (⟨"SyncHallModel", "checkCondition", "(II)I"⟩, 26), (⟨"SyncHallModel", "queue", "(III)V"⟩, 26), (⟨"SyncHallModel", "latest", "()I"⟩, 26)]
theorem lw_r3 : ∀ q ∈ lw_privs_3, lw_okq q := List.forall_mem_cons.mpr ⟨lw_p32, List.forall_mem_cons.mpr ⟨lw_p33, List.forall_mem_cons.mpr ⟨lw_p34, List.forall_mem_cons.mpr ⟨lw_p35, List.forall_mem_cons.mpr ⟨lw_p36, List.forall_mem_cons.mpr ⟨lw_p37, List.forall_mem_cons.mpr ⟨lw_p38, List.forall_mem_cons.mpr ⟨lw_p39, List.forall_mem_cons.mpr ⟨lw_p40, List.forall_mem_cons.mpr ⟨lw_p41, List.forall_mem_cons.mpr ⟨lw_p42, List.forall_mem_cons.mpr ⟨lw_p43, List.forall_mem_cons.mpr ⟨lw_p44, List.forall_mem_cons.mpr ⟨lw_p45, List.forall_mem_cons.mpr ⟨lw_p46, List.forall_mem_cons.mpr ⟨lw_p47, fun _ h => absurd h List.not_mem_nil⟩⟩⟩⟩⟩⟩⟩⟩⟩⟩⟩⟩⟩⟩⟩⟩
def lw_privs : List (MethodName × Nat) := lw_privs_1 ++ (lw_privs_2 ++ (lw_privs_3))
def lw_tbl : List Cond := k2_sels lw_privs ++ tables_1
theorem lw_privs_ok : ∀ q ∈ lw_privs, lw_okq q := by
  show ∀ q ∈ lw_privs_1 ++ (lw_privs_2 ++ (lw_privs_3)), lw_okq q
  exact List.forall_mem_append.mpr ⟨lw_r1, List.forall_mem_append.mpr ⟨lw_r2, lw_r3⟩⟩
def rn_Hall : String := "SyncHall"
def fx_Hall : u_T := fun k => match k with
  | 0 => ("SyncHall", "workers", "[LSyncHall$Worker;", true)
  | 1 => ("SyncHall", "syncs", "[LSyncHall$Sync;", true)
  | 2 => ("SyncHall", "order", "LSyncHall$LockOrder;", true)
  | 3 => ("SyncHall", "syncCount", "I", false)
  | _ => ("SyncHall", "now", "D", false)
def rn_Worker : String := "SyncHall$Worker"
def fx_Worker : u_T := fun k => match k with
  | 0 => ("SyncHall$Worker", "number", "I", true)
  | 1 => ("SyncHall$Worker", "priority", "D", false)
  | 2 => ("SyncHall$Worker", "flag", "Z", false)
  | 3 => ("SyncHall$Worker", "outcome", "I", false)
  | 4 => ("SyncHall$Worker", "place", "LSyncHall$Sync;", false)
  | 5 => ("SyncHall$Worker", "mode", "I", false)
  | 6 => ("SyncHall$Worker", "hasEnd", "Z", false)
  | 7 => ("SyncHall$Worker", "end", "D", false)
  | 8 => ("SyncHall$Worker", "since", "D", false)
  | 9 => ("SyncHall$Worker", "depthDue", "I", false)
  | 10 => ("SyncHall$Worker", "outcomeDue", "I", false)
  | _ => ("SyncHall$Worker", "takesBack", "Z", false)
def rn_Waiters : String := "SyncHall$Waiters"
def fx_Waiters : u_T := fun k => match k with
  | 0 => ("SyncHall$Waiters", "row", "[LSyncHall$Worker;", true)
  | _ => ("SyncHall$Waiters", "count", "I", false)
def rn_LockOrder : String := "SyncHall$LockOrder"
def fx_LockOrder : u_T := fun k => match k with
  | 0 => ("SyncHall$LockOrder", "after", "[I", true)
  | 1 => ("SyncHall$LockOrder", "policy", "I", false)
  | _ => ("SyncHall$LockOrder", "warnings", "I", false)
def rn_Lock : String := "SyncHall$Lock"
def fx_Lock : u_T := fun k => match k with
  | 0 => ("SyncHall$Sync", "kind", "I", true)
  | 1 => ("SyncHall$Sync", "waiters", "LSyncHall$Waiters;", true)
  | 2 => ("SyncHall$Sync", "waitedSum", "D", false)
  | 3 => ("SyncHall$Sync", "waitedCount", "I", false)
  | 4 => ("SyncHall$Lock", "owner", "LSyncHall$Worker;", false)
  | _ => ("SyncHall$Lock", "depth", "I", false)
def rn_Semaphore : String := "SyncHall$Semaphore"
def fx_Semaphore : u_T := fun k => match k with
  | 0 => ("SyncHall$Sync", "kind", "I", true)
  | 1 => ("SyncHall$Sync", "waiters", "LSyncHall$Waiters;", true)
  | 2 => ("SyncHall$Sync", "waitedSum", "D", false)
  | 3 => ("SyncHall$Sync", "waitedCount", "I", false)
  | _ => ("SyncHall$Semaphore", "permits", "I", false)
def rn_Latch : String := "SyncHall$Latch"
def fx_Latch : u_T := fun k => match k with
  | 0 => ("SyncHall$Sync", "kind", "I", true)
  | 1 => ("SyncHall$Sync", "waiters", "LSyncHall$Waiters;", true)
  | 2 => ("SyncHall$Sync", "waitedSum", "D", false)
  | 3 => ("SyncHall$Sync", "waitedCount", "I", false)
  | _ => ("SyncHall$Latch", "count", "I", false)
def rn_Shared : String := "SyncHall$Shared"
def fx_Shared : u_T := fun k => match k with
  | 0 => ("SyncHall$Sync", "kind", "I", true)
  | 1 => ("SyncHall$Sync", "waiters", "LSyncHall$Waiters;", true)
  | 2 => ("SyncHall$Sync", "waitedSum", "D", false)
  | 3 => ("SyncHall$Sync", "waitedCount", "I", false)
  | 4 => ("SyncHall$Shared", "reads", "[I", true)
  | 5 => ("SyncHall$Shared", "writer", "LSyncHall$Worker;", false)
  | _ => ("SyncHall$Shared", "depth", "I", false)
def rn_Condition : String := "SyncHall$Condition"
def fx_Condition : u_T := fun k => match k with
  | 0 => ("SyncHall$Sync", "kind", "I", true)
  | 1 => ("SyncHall$Sync", "waiters", "LSyncHall$Waiters;", true)
  | 2 => ("SyncHall$Sync", "waitedSum", "D", false)
  | 3 => ("SyncHall$Sync", "waitedCount", "I", false)
  | _ => ("SyncHall$Condition", "lock", "LSyncHall$Lock;", true)
def rn_Mod : String := "SyncHallModel"
def fx_Mod : u_T := fun k => match k with
  | 0 => ("SyncHallModel", "failed", "I", false)
  | 1 => ("SyncHallModel", "blocked", "[Z", true)
  | 2 => ("SyncHallModel", "flag", "[Z", true)
  | 3 => ("SyncHallModel", "priority", "[D", true)
  | 4 => ("SyncHallModel", "outcome", "[I", true)
  | 5 => ("SyncHallModel", "waitsFor", "[I", true)
  | 6 => ("SyncHallModel", "mode", "[I", true)
  | 7 => ("SyncHallModel", "end", "[D", true)
  | 8 => ("SyncHallModel", "since", "[D", true)
  | 9 => ("SyncHallModel", "back", "[I", true)
  | 10 => ("SyncHallModel", "after", "[I", true)
  | 11 => ("SyncHallModel", "time", "D", false)
  | 12 => ("SyncHallModel", "kind", "[I", true)
  | 13 => ("SyncHallModel", "owner", "[I", true)
  | 14 => ("SyncHallModel", "depth", "[I", true)
  | 15 => ("SyncHallModel", "permits", "[I", true)
  | 16 => ("SyncHallModel", "lock", "[I", true)
  | 17 => ("SyncHallModel", "reads", "[I", true)
  | 18 => ("SyncHallModel", "row", "[I", true)
  | 19 => ("SyncHallModel", "waiters", "[I", true)
  | 20 => ("SyncHallModel", "waitedSum", "[D", true)
  | 21 => ("SyncHallModel", "waitedCount", "[I", true)
  | 22 => ("SyncHallModel", "before", "[Z", true)
  | 23 => ("SyncHallModel", "reached", "[Z", true)
  | 24 => ("SyncHallModel", "policy", "I", false)
  | _ => ("SyncHallModel", "warnings", "I", false)
abbrev vwCl : List vw_C := [(rn_Hall, fx_Hall, 5), (rn_Worker, fx_Worker, 12), (rn_Waiters, fx_Waiters, 2), (rn_LockOrder, fx_LockOrder, 3), (rn_Lock, fx_Lock, 6), (rn_Semaphore, fx_Semaphore, 5), (rn_Latch, fx_Latch, 5), (rn_Shared, fx_Shared, 7), (rn_Condition, fx_Condition, 5), (rn_Mod, fx_Mod, 26)]
/-- the types of the elements of arrays -/
abbrev sh_ats : List FieldType := [.int, .long, .double, .boolean, .object "SyncHall$Worker", .object "SyncHall$Sync"]
/-- pairs of classes that the Statement says are not castable -/
def sh_nc : List Cond := [Cond.not (Cond.castable "SyncHall" "java/lang/IllegalArgumentException"), Cond.not (Cond.castable "SyncHall$Worker" "java/lang/IllegalArgumentException"), Cond.not (Cond.castable "SyncHall$LockOrder" "java/lang/IllegalArgumentException"), Cond.not (Cond.castable "SyncHallModel" "java/lang/IllegalArgumentException"), Cond.not (Cond.castable "java/util/NoSuchElementException" "java/lang/IllegalArgumentException"), Cond.not (Cond.castable "java/lang/IllegalStateException" "java/lang/IllegalArgumentException"), Cond.not (Cond.castable "SyncHall$Lock" "java/lang/IllegalArgumentException"), Cond.not (Cond.castable "SyncHall$Waiters" "java/lang/IllegalArgumentException"), Cond.not (Cond.castable "SyncHall$Semaphore" "java/lang/IllegalArgumentException"), Cond.not (Cond.castable "SyncHall$Latch" "java/lang/IllegalArgumentException"), Cond.not (Cond.castable "SyncHall$Shared" "java/lang/IllegalArgumentException"), Cond.not (Cond.castable "SyncHall$Condition" "java/lang/IllegalArgumentException"), Cond.not (Cond.castable "java/lang/UnsupportedOperationException" "java/lang/IllegalArgumentException"), Cond.not (Cond.castable "java/lang/ArithmeticException" "java/lang/IllegalArgumentException"), Cond.not (Cond.castable "SyncHall" "java/util/NoSuchElementException"), Cond.not (Cond.castable "SyncHall$Worker" "java/util/NoSuchElementException"), Cond.not (Cond.castable "SyncHall$LockOrder" "java/util/NoSuchElementException"), Cond.not (Cond.castable "SyncHallModel" "java/util/NoSuchElementException"), Cond.not (Cond.castable "java/lang/IllegalArgumentException" "java/util/NoSuchElementException"), Cond.not (Cond.castable "java/lang/IllegalStateException" "java/util/NoSuchElementException"), Cond.not (Cond.castable "SyncHall$Lock" "java/util/NoSuchElementException"), Cond.not (Cond.castable "SyncHall$Waiters" "java/util/NoSuchElementException"), Cond.not (Cond.castable "SyncHall$Semaphore" "java/util/NoSuchElementException"), Cond.not (Cond.castable "SyncHall$Latch" "java/util/NoSuchElementException"), Cond.not (Cond.castable "SyncHall$Shared" "java/util/NoSuchElementException"), Cond.not (Cond.castable "SyncHall$Condition" "java/util/NoSuchElementException"), Cond.not (Cond.castable "java/lang/UnsupportedOperationException" "java/util/NoSuchElementException"), Cond.not (Cond.castable "java/lang/ArithmeticException" "java/util/NoSuchElementException"), Cond.not (Cond.castable "SyncHall" "java/lang/IllegalStateException"), Cond.not (Cond.castable "SyncHall$Worker" "java/lang/IllegalStateException"), Cond.not (Cond.castable "SyncHall$LockOrder" "java/lang/IllegalStateException"), Cond.not (Cond.castable "SyncHallModel" "java/lang/IllegalStateException"), Cond.not (Cond.castable "java/lang/IllegalArgumentException" "java/lang/IllegalStateException"), Cond.not (Cond.castable "java/util/NoSuchElementException" "java/lang/IllegalStateException"), Cond.not (Cond.castable "SyncHall$Lock" "java/lang/IllegalStateException"), Cond.not (Cond.castable "SyncHall$Waiters" "java/lang/IllegalStateException"), Cond.not (Cond.castable "SyncHall$Semaphore" "java/lang/IllegalStateException"), Cond.not (Cond.castable "SyncHall$Latch" "java/lang/IllegalStateException"), Cond.not (Cond.castable "SyncHall$Shared" "java/lang/IllegalStateException"), Cond.not (Cond.castable "SyncHall$Condition" "java/lang/IllegalStateException"), Cond.not (Cond.castable "java/lang/UnsupportedOperationException" "java/lang/IllegalStateException"), Cond.not (Cond.castable "java/lang/ArithmeticException" "java/lang/IllegalStateException"), Cond.not (Cond.castable "SyncHall" "SyncHall$Lock"), Cond.not (Cond.castable "SyncHall$Worker" "SyncHall$Lock"), Cond.not (Cond.castable "SyncHall$LockOrder" "SyncHall$Lock"), Cond.not (Cond.castable "SyncHallModel" "SyncHall$Lock"), Cond.not (Cond.castable "java/lang/IllegalArgumentException" "SyncHall$Lock"), Cond.not (Cond.castable "java/util/NoSuchElementException" "SyncHall$Lock"), Cond.not (Cond.castable "java/lang/IllegalStateException" "SyncHall$Lock"), Cond.not (Cond.castable "SyncHall$Waiters" "SyncHall$Lock"), Cond.not (Cond.castable "SyncHall$Semaphore" "SyncHall$Lock"), Cond.not (Cond.castable "SyncHall$Latch" "SyncHall$Lock"), Cond.not (Cond.castable "SyncHall$Shared" "SyncHall$Lock"), Cond.not (Cond.castable "SyncHall$Condition" "SyncHall$Lock"), Cond.not (Cond.castable "java/lang/UnsupportedOperationException" "SyncHall$Lock"), Cond.not (Cond.castable "java/lang/ArithmeticException" "SyncHall$Lock"), Cond.not (Cond.castable "SyncHall" "java/lang/UnsupportedOperationException"), Cond.not (Cond.castable "SyncHall$Worker" "java/lang/UnsupportedOperationException"), Cond.not (Cond.castable "SyncHall$LockOrder" "java/lang/UnsupportedOperationException"), Cond.not (Cond.castable "SyncHallModel" "java/lang/UnsupportedOperationException"), Cond.not (Cond.castable "java/lang/IllegalArgumentException" "java/lang/UnsupportedOperationException"), Cond.not (Cond.castable "java/util/NoSuchElementException" "java/lang/UnsupportedOperationException"), Cond.not (Cond.castable "java/lang/IllegalStateException" "java/lang/UnsupportedOperationException"), Cond.not (Cond.castable "SyncHall$Lock" "java/lang/UnsupportedOperationException"), Cond.not (Cond.castable "SyncHall$Waiters" "java/lang/UnsupportedOperationException"), Cond.not (Cond.castable "SyncHall$Semaphore" "java/lang/UnsupportedOperationException"), Cond.not (Cond.castable "SyncHall$Latch" "java/lang/UnsupportedOperationException"), Cond.not (Cond.castable "SyncHall$Shared" "java/lang/UnsupportedOperationException"), Cond.not (Cond.castable "SyncHall$Condition" "java/lang/UnsupportedOperationException"), Cond.not (Cond.castable "java/lang/ArithmeticException" "java/lang/UnsupportedOperationException"), Cond.not (Cond.castable "SyncHall" "SyncHall$Gate"), Cond.not (Cond.castable "SyncHall$Worker" "SyncHall$Gate"), Cond.not (Cond.castable "SyncHall$LockOrder" "SyncHall$Gate"), Cond.not (Cond.castable "SyncHallModel" "SyncHall$Gate"), Cond.not (Cond.castable "java/lang/IllegalArgumentException" "SyncHall$Gate"), Cond.not (Cond.castable "java/util/NoSuchElementException" "SyncHall$Gate"), Cond.not (Cond.castable "java/lang/IllegalStateException" "SyncHall$Gate"), Cond.not (Cond.castable "SyncHall$Waiters" "SyncHall$Gate"), Cond.not (Cond.castable "SyncHall$Condition" "SyncHall$Gate"), Cond.not (Cond.castable "java/lang/UnsupportedOperationException" "SyncHall$Gate"), Cond.not (Cond.castable "java/lang/ArithmeticException" "SyncHall$Gate"), Cond.not (Cond.castable "SyncHall" "SyncHall$Condition"), Cond.not (Cond.castable "SyncHall$Worker" "SyncHall$Condition"), Cond.not (Cond.castable "SyncHall$LockOrder" "SyncHall$Condition"), Cond.not (Cond.castable "SyncHallModel" "SyncHall$Condition"), Cond.not (Cond.castable "java/lang/IllegalArgumentException" "SyncHall$Condition"), Cond.not (Cond.castable "java/util/NoSuchElementException" "SyncHall$Condition"), Cond.not (Cond.castable "java/lang/IllegalStateException" "SyncHall$Condition"), Cond.not (Cond.castable "SyncHall$Lock" "SyncHall$Condition"), Cond.not (Cond.castable "SyncHall$Waiters" "SyncHall$Condition"), Cond.not (Cond.castable "SyncHall$Semaphore" "SyncHall$Condition"), Cond.not (Cond.castable "SyncHall$Latch" "SyncHall$Condition"), Cond.not (Cond.castable "SyncHall$Shared" "SyncHall$Condition"), Cond.not (Cond.castable "java/lang/UnsupportedOperationException" "SyncHall$Condition"), Cond.not (Cond.castable "java/lang/ArithmeticException" "SyncHall$Condition"), Cond.not (Cond.castable "SyncHall" "java/lang/ArithmeticException"), Cond.not (Cond.castable "SyncHall$Worker" "java/lang/ArithmeticException"), Cond.not (Cond.castable "SyncHall$LockOrder" "java/lang/ArithmeticException"), Cond.not (Cond.castable "SyncHallModel" "java/lang/ArithmeticException"), Cond.not (Cond.castable "java/lang/IllegalArgumentException" "java/lang/ArithmeticException"), Cond.not (Cond.castable "java/util/NoSuchElementException" "java/lang/ArithmeticException"), Cond.not (Cond.castable "java/lang/IllegalStateException" "java/lang/ArithmeticException"), Cond.not (Cond.castable "SyncHall$Lock" "java/lang/ArithmeticException"), Cond.not (Cond.castable "SyncHall$Waiters" "java/lang/ArithmeticException"), Cond.not (Cond.castable "SyncHall$Semaphore" "java/lang/ArithmeticException"), Cond.not (Cond.castable "SyncHall$Latch" "java/lang/ArithmeticException"), Cond.not (Cond.castable "SyncHall$Shared" "java/lang/ArithmeticException"), Cond.not (Cond.castable "SyncHall$Condition" "java/lang/ArithmeticException"), Cond.not (Cond.castable "java/lang/UnsupportedOperationException" "java/lang/ArithmeticException")]
/-- words that stay true under warmer tables -/
def sh_okw : Cond → Bool
  | .fieldLinkNest .. | .methodLinkNest .. | .declares _ | .castable .. | .not (.castable ..) | .arrayClass _ | .arrayOver (.object _) => true
  | w => w.onTables && w.keeps
/-- THE WORDS -/
def sh_ws : List Cond := (lw_tbl ++ sh_nc).filter sh_okw
theorem sh_tw (i : Nat) {w : Cond} (h : lw_tbl[i]? = some w) (ho : sh_okw w = true) : w ∈ sh_ws := List.mem_filter.mpr ⟨List.mem_append_left _ (List.mem_of_getElem? h), ho⟩
theorem sh_nw (i : Nat) {w : Cond} (h : sh_nc[i]? = some w) (ho : sh_okw w = true) : w ∈ sh_ws := List.mem_filter.mpr ⟨List.mem_append_right _ (List.mem_of_getElem? h), ho⟩
